section LVR
variable {L : Nat} {xs : Nat → Int32} {pc i : Nat} {st : List pv_V} {hc hm : pv_H}
theorem lw_hts {p : Program} {s : State} {m : MethodId} {meth : Method} {c : Code} {b : Nat} (C : lw_At p s m meth c b L xs) : ∀ w ∈ pv_W, w.before #[Value.ref b] s = true := fun w hw => C.2.2.2.2.2.1 w (List.mem_filter.mp hw).1
theorem LV.x (hd : decode cL_law pc = .ok (.aload_n 1, 1)) (k : LV L xs (pc + 1) i (.inr (.inr 0) :: st) hc hm) : LV L xs pc i st hc hm := by
  intro p l e s m below meth c b D aC ad1 ad2 H locs ls C F hS W1 W2 hl oS
  refine lv_aload_n C.1 C.2.1 hd rfl (lv_at hl 1 rfl) ?_
  exact k p l e s m below meth c b D aC ad1 ad2 H locs ls C F hS W1 W2 hl (List.forall_mem_cons.mpr ⟨Or.inl (by decide), oS⟩)
theorem LV.m (hd : decode cL_law pc = .ok (.aload_n 2, 1)) (k : LV L xs (pc + 1) i (.inr (.inr 1) :: st) hc hm) : LV L xs pc i st hc hm := by
  intro p l e s m below meth c b D aC ad1 ad2 H locs ls C F hS W1 W2 hl oS
  refine lv_aload_n C.1 C.2.1 hd rfl (lv_at hl 2 rfl) ?_
  exact k p l e s m below meth c b D aC ad1 ad2 H locs ls C F hS W1 W2 hl (List.forall_mem_cons.mpr ⟨Or.inl (by decide), oS⟩)
theorem lw_add {i k : Nat} : Int32.ofInt (i : Int) + Int32.ofInt (k : Int) = Int32.ofInt ((i + k : Nat) : Int) := by
  rw [← Int32.ofInt_add]
  congr 1
theorem LV.arg (k : Nat) (hk : k ≤ 5) (hL : i + 6 ≤ L) (hLm : L ≤ 3072) (d0 : decode cL_law pc = .ok (.aload_n 0, 1)) (d1 : decode cL_law (pc + 1) = .ok (.iload_n 3, 1)) (d2 : decode cL_law (pc + 1 + 1) = .ok (.iconst (k : Int), 1)) (d3 : decode cL_law (pc + 1 + 1 + 1) = .ok (.iadd, 1)) (d4 : decode cL_law (pc + 1 + 1 + 1 + 1) = .ok (.iaload, 1)) (kk : LV L xs (pc + 1 + 1 + 1 + 1 + 1) i (.inl (xs (i + k)).toInt :: st) hc hm) : LV L xs pc i st hc hm := by
  intro p l e s m below meth c b D aC ad1 ad2 H locs ls C F hS W1 W2 hl oS
  obtain ⟨hx, hb, hr, hml, hown, hts, hX, hbl, hlk, hgv⟩ := id C
  refine lv_aload_n hx hb d0 rfl (lv_at hl 0 rfl) ?_
  refine lv_iload_n hx hb d1 rfl (lv_at hl 3 rfl) ?_
  refine lv_iconst (v := Int32.ofInt (k : Int)) hx hb d2 rfl ?_
  refine lv_iadd hx hb d3 ?_
  rw [lw_add]
  have ei : (Int32.ofInt ((i + k : Nat) : Int)).toNatClampNeg = i + k := by rw [pv_clamp (by omega) (by omega), Int.toNat_natCast]
  refine va_sld hx hb hX hbl (Nat.not_le.mpr hbl) hS (pv_in (by omega) (by omega) (by omega)) d4 ?_
  rw [ei, ← Int32.ofInt_toInt (xs (i + k))]
  exact kk p l e s m below meth c b D aC ad1 ad2 H locs ls C F hS W1 W2 hl (List.forall_mem_cons.mpr ⟨pv_rg _, oS⟩)
theorem LV.callC {hc2 : pv_H} {y : MethodName} {bytes : ByteArray} {mL n idx : Nat} {rt : Option FieldType} {As stk : List pv_V} {v : pv_V} (hd : decode cL_law pc = .ok (.invokevirtual idx, 3)) (hm0 : pv_MD y bytes mL rt n) (hl1 : Cond.methodLink RL idx y ∈ pv_W) (hl2 : Cond.instanceMethod y ∈ pv_W) (hl3 : Cond.selects (pv_cn 9) y y ∈ pv_W) (hM : CALL y bytes mL rt 1000 pv_SC (MC hc) (.inr (.inr 0) :: As) pv_SC (MC hc2) (some v)) (hn : As.length = n) (hst : ∀ (ad1 ad2 : Nat → Nat) (b : Nat), stk.map (lw_tv (ad1 0) (ad2 0) b) = (As.map (pv_tv ad1)).reverse ++ .ref (ad1 0) :: st.map (lw_tv (ad1 0) (ad2 0) b)) (hA : ∀ v ∈ As, (∀ n, pv_ok n v) ∨ v ∈ stk ∧ ∀ n, lw_ok v → pv_ok n v) (hsub : ∀ v ∈ st, v ∈ stk) (hv : ∀ (ad1 ad2 : Nat → Nat) (b : Nat), pv_tv ad1 v = lw_tv (ad1 0) (ad2 0) b v) (ho : ∀ n, pv_ok n v → lw_ok v) (hcat : (st.map (fun v => bif pv_c2 v then 2 else 1)).sum ≤ 8) (k : LV L xs (pc + 3) i (v :: st) hc2 hm) : LV L xs pc i stk hc hm := by
  intro p l e s m below meth c b D aC ad1 ad2 H locs ls C F hS W1 W2 hl oS
  obtain ⟨hx, hb, hr, hml, hown, hts, hX, hbl, hlk, hgv⟩ := id C
  have oS1 : ∀ v ∈ st, lw_ok v := fun v hv => oS v (hsub v hv)
  refine pv_two (ci := 9) (As := As) (v := v) (rest := st.map (lw_tv (ad1 0) (ad2 0) b)) hx hb hml hown (lw_hts C) (fun q h => h) F.1 F.2.1 hS W1 W2 F.2.2.2 sc_0 (by decide) hd hm0 hl1 hl2 hl3 hM hn (fun v hv => (hA v hv).elim (fun z => z _) (fun z => z.2 _ (oS v z.1))) (Nat.le_refl _) (Nat.le_refl _) (hst ad1 ad2 b) ?_ hl.1 (fun H1 locs1 hS1 Z1 Z2 oz => ?_)
  · rw [List.map_map]
    refine Nat.le_trans (Nat.le_of_eq ?_) hcat
    apply congrArg List.sum
    apply List.map_congr_left
    intro v _
    rcases v with z | z | z
    · rfl
    · rfl
    · match z with
      | 0 => rfl
      | 1 => rfl
      | z + 2 => rfl
  · rw [hv ad1 ad2 b]
    exact k p l e s m below meth c b D aC ad1 ad2 H1 locs1 ls C F hS1 Z1 Z2 hl (List.forall_mem_cons.mpr ⟨ho _ oz, oS1⟩)
theorem LV.callM {hm2 : pv_H} {y : MethodName} {bytes : ByteArray} {mL n idx : Nat} {rt : Option FieldType} {As stk : List pv_V} {v : pv_V} (hd : decode cL_law pc = .ok (.invokevirtual idx, 3)) (hm0 : pv_MD y bytes mL rt n) (hl1 : Cond.methodLink RL idx y ∈ pv_W) (hl2 : Cond.instanceMethod y ∈ pv_W) (hl3 : Cond.selects (pv_cn 10) y y ∈ pv_W) (hM : CALL y bytes mL rt 1000 pv_SM (MM hm) (.inr (.inr 0) :: As) pv_SM (MM hm2) (some v)) (hn : As.length = n) (hst : ∀ (ad1 ad2 : Nat → Nat) (b : Nat), stk.map (lw_tv (ad1 0) (ad2 0) b) = (As.map (pv_tv ad2)).reverse ++ .ref (ad2 0) :: st.map (lw_tv (ad1 0) (ad2 0) b)) (hA : ∀ v ∈ As, (∀ n, pv_ok n v) ∨ v ∈ stk ∧ ∀ n, lw_ok v → pv_ok n v) (hsub : ∀ v ∈ st, v ∈ stk) (hv : ∀ (ad1 ad2 : Nat → Nat) (b : Nat), pv_tv ad2 v = lw_tv (ad1 0) (ad2 0) b v) (ho : ∀ n, pv_ok n v → lw_ok v) (hcat : (st.map (fun v => bif pv_c2 v then 2 else 1)).sum ≤ 8) (k : LV L xs (pc + 3) i (v :: st) hc hm2) : LV L xs pc i stk hc hm := by
  intro p l e s m below meth c b D aC ad1 ad2 H locs ls C F hS W1 W2 hl oS
  obtain ⟨hx, hb, hr, hml, hown, hts, hX, hbl, hlk, hgv⟩ := id C
  have oS1 : ∀ v ∈ st, lw_ok v := fun v hv => oS v (hsub v hv)
  refine pv_two (ci := 10) (As := As) (v := v) (rest := st.map (lw_tv (ad1 0) (ad2 0) b)) hx hb hml hown (lw_hts C) (fun q h => h) F.1 F.2.2.1 hS W2 W1 (fun i j hi hj z => F.2.2.2 j i hj hi z.symm) sm_0 (by decide) hd hm0 hl1 hl2 hl3 hM hn (fun v hv => (hA v hv).elim (fun z => z _) (fun z => z.2 _ (oS v z.1))) (Nat.le_refl _) (Nat.le_refl _) (hst ad1 ad2 b) ?_ hl.1 (fun H1 locs1 hS1 Z1 Z2 oz => ?_)
  · rw [List.map_map]
    refine Nat.le_trans (Nat.le_of_eq ?_) hcat
    apply congrArg List.sum
    apply List.map_congr_left
    intro v _
    rcases v with z | z | z
    · rfl
    · rfl
    · match z with
      | 0 => rfl
      | 1 => rfl
      | z + 2 => rfl
  · rw [hv ad1 ad2 b]
    exact k p l e s m below meth c b D aC ad1 ad2 H1 locs1 ls C F hS1 Z2 Z1 hl (List.forall_mem_cons.mpr ⟨ho _ oz, oS1⟩)
theorem LV.eq {r off : Int} {tgt : Nat} (hd : decode cL_law pc = .ok (.if_icmp .eq off, 3)) (ht : (pc : Int) + off = (tgt : Int)) (k : LV L xs tgt i st hc hm) : LV L xs pc i (.inl r :: .inl r :: st) hc hm := by
  intro p l e s m below meth c b D aC ad1 ad2 H locs ls C F hS W1 W2 hl oS
  refine lv_icmp_eq C.1 C.2.1 hd ht (fun _ => ?_) (fun q => absurd rfl q)
  exact k p l e s m below meth c b D aC ad1 ad2 H locs ls C F hS W1 W2 hl (fun v hv => oS v (List.mem_cons_of_mem _ (List.mem_cons_of_mem _ hv)))
theorem LV.leq {r off : Int} {tgt : Nat} (d0 : decode cL_law pc = .ok (.lcmp, 1)) (hd : decode cL_law (pc + 1) = .ok (.ifCond .eq off, 3)) (ht : ((pc + 1 : Nat) : Int) + off = (tgt : Int)) (k : LV L xs tgt i st hc hm) : LV L xs pc i (.inr (.inl r) :: .inr (.inl r) :: st) hc hm := by
  intro p l e s m below meth c b D aC ad1 ad2 H locs ls C F hS W1 W2 hl oS
  refine W.lcmp C.1 C.2.1 d0 ?_
  have e0 : lg_cmp (Int64.ofInt r) (Int64.ofInt r) = 0 := by
    unfold lg_cmp
    rw [if_neg (fun z => Int64.lt_irrefl z), if_pos rfl]
  rw [e0]
  refine lv_if_eq C.1 C.2.1 hd ht (fun _ => ?_) (fun q => absurd rfl q)
  exact k p l e s m below meth c b D aC ad1 ad2 H locs ls C F hS W1 W2 hl (fun v hv => oS v (List.mem_cons_of_mem _ (List.mem_cons_of_mem _ hv)))
/-- a truth value out of a number of the script -/
theorem LV.tru {x o1 o2 : Int} {t1 t2 : Nat} (d0 : decode cL_law pc = .ok (.ifCond .eq o1, 3)) (h1 : (pc : Int) + o1 = (t1 : Int)) (d1 : decode cL_law (pc + 3) = .ok (.iconst 1, 1)) (d2 : decode cL_law (pc + 3 + 1) = .ok (.goto o2, 3)) (h2 : ((pc + 3 + 1 : Nat) : Int) + o2 = (t2 : Int)) (d3 : decode cL_law t1 = .ok (.iconst 0, 1)) (h3 : t1 + 1 = t2) (k : LV L xs t2 i (.inl (if x = 0 then 0 else 1) :: st) hc hm) : LV L xs pc i (.inl x :: st) hc hm := by
  intro p l e s m below meth c b D aC ad1 ad2 H locs ls C F hS W1 W2 hl oS
  have ox : lw_ok (.inl x) := oS _ List.mem_cons_self
  have oS1 : ∀ v ∈ st, lw_ok v := fun v hv => oS v (List.mem_cons_of_mem _ hv)
  refine lv_if_eq C.1 C.2.1 d0 h1 (fun q => ?_) (fun q => ?_)
  · rw [pv_z, pv_eq ox.1 ox.2 (by decide) (by decide)] at q
    refine lv_iconst (v := 0) C.1 C.2.1 d3 (by decide) ?_
    rw [h3]
    have kk := k p l e s m below meth c b D aC ad1 ad2 H locs ls C F hS W1 W2 hl (List.forall_mem_cons.mpr ⟨by rw [if_pos q]; exact ⟨by decide, by decide⟩, oS1⟩)
    rw [if_pos q] at kk
    exact kk
  · rw [pv_z, pv_eq ox.1 ox.2 (by decide) (by decide)] at q
    refine lv_iconst (v := 1) C.1 C.2.1 d1 (by decide) ?_
    refine lv_goto C.1 C.2.1 d2 h2 ?_
    have kk := k p l e s m below meth c b D aC ad1 ad2 H locs ls C F hS W1 W2 hl (List.forall_mem_cons.mpr ⟨by rw [if_neg q]; exact ⟨by decide, by decide⟩, oS1⟩)
    rw [if_neg q] at kk
    exact kk
def lw_l1 (a : Int) : Int := (Int64.ofInt a <<< ((32 : Int32).toInt64 &&& 63)).toInt
def lw_l2 (a b : Int) : Int := (Int64.ofInt a ||| (Int64.ofInt b &&& 4294967295)).toInt
theorem pv_rgl (z : Int64) : -9223372036854775808 ≤ z.toInt ∧ z.toInt ≤ 9223372036854775807 := ⟨by simpa using Int64.le_toInt z, by have := Int64.toInt_lt z; omega⟩
theorem LV.hi {x : Int} (d0 : decode cL_law pc = .ok (.i2l, 1)) (d1 : decode cL_law (pc + 1) = .ok (.bipush 32, 2)) (d2 : decode cL_law (pc + 1 + 2) = .ok (.lshl, 1)) (k : LV L xs (pc + 1 + 2 + 1) i (.inr (.inl (lw_l1 x)) :: st) hc hm) : LV L xs pc i (.inl x :: st) hc hm := by
  intro p l e s m below meth c b D aC ad1 ad2 H locs ls C F hS W1 W2 hl oS
  have ox : lw_ok (.inl x) := oS _ List.mem_cons_self
  refine lv_i2l C.1 C.2.1 d0 (Int32.toInt64_ofInt ox.1 ox.2) ?_
  refine lv_bipush (v := 32) C.1 C.2.1 d1 (by decide) ?_
  refine lv_lshl C.1 C.2.1 d2 (Int64.ofInt_toInt _).symm ?_
  exact k p l e s m below meth c b D aC ad1 ad2 H locs ls C F hS W1 W2 hl (List.forall_mem_cons.mpr ⟨pv_rgl _, fun v hv => oS v (List.mem_cons_of_mem _ hv)⟩)
theorem LV.lo {x y : Int} (d0 : decode cL_law pc = .ok (.i2l, 1)) (d1 : decode cL_law (pc + 1) = .ok (.ldc2_w 164, 3)) (d2 : decode cL_law (pc + 1 + 3) = .ok (.land, 1)) (d3 : decode cL_law (pc + 1 + 3 + 1) = .ok (.lor, 1)) (k : LV L xs (pc + 1 + 3 + 1 + 1) i (.inr (.inl (lw_l2 y x)) :: st) hc hm) : LV L xs pc i (.inl x :: .inr (.inl y) :: st) hc hm := by
  intro p l e s m below meth c b D aC ad1 ad2 H locs ls C F hS W1 W2 hl oS
  have ox : lw_ok (.inl x) := oS _ List.mem_cons_self
  refine lv_i2l C.1 C.2.1 d0 (Int32.toInt64_ofInt ox.1 ox.2) ?_
  refine lv_ldc2 C.1 C.2.1 C.2.2.2.2.1 (lw_hts C _ (pv_mem (pv_m8 (i := 22) rfl) rfl)) d1 ?_
  refine lv_land C.1 C.2.1 d2 ?_
  refine lv_lor C.1 C.2.1 d3 ?_
  have kk := k p l e s m below meth c b D aC ad1 ad2 H locs ls C F hS W1 W2 hl (List.forall_mem_cons.mpr ⟨pv_rgl _, fun v hv => oS v (List.mem_cons_of_mem _ (List.mem_cons_of_mem _ hv))⟩)
  simp only [List.map_cons, lw_tv, lw_l2, Int64.ofInt_toInt] at kk ⊢
  exact kk
end LVR
def pv_NN : Nat := 20000
def sm_feed (S : pv_H → pv_H → Prop) : Prop := ∀ hc hm, S hc hm → ∀ a1 a2 a3 a4 a5 : Int, (-2147483648 ≤ a1 ∧ a1 ≤ 2147483647) → (-2147483648 ≤ a2 ∧ a2 ≤ 2147483647) → (-2147483648 ≤ a3 ∧ a3 ≤ 2147483647) → (-2147483648 ≤ a4 ∧ a4 ≤ 2147483647) → (-2147483648 ≤ a5 ∧ a5 ≤ 2147483647) → ∃ hc2 hm2 r, fX9_feed pv_NN a1 a2 a3 a4 a5 hc = some (hc2, r) ∧ fX10_feed pv_NN a1 a2 a3 a4 a5 hm = some (hm2, r) ∧ S hc2 hm2
def sm_text (S : pv_H → pv_H → Prop) : Prop := ∀ hc hm, S hc hm → ∀ a1 a2 a3 : Int, (-2147483648 ≤ a1 ∧ a1 ≤ 2147483647) → (-2147483648 ≤ a2 ∧ a2 ≤ 2147483647) → (-2147483648 ≤ a3 ∧ a3 ≤ 2147483647) → ∃ hc2 hm2 r, fX9_text pv_NN a1 a2 a3 hc = some (hc2, r) ∧ fX10_text pv_NN a1 a2 a3 hm = some (hm2, r) ∧ S hc2 hm2
def sm_fault (S : pv_H → pv_H → Prop) : Prop := ∀ hc hm, S hc hm → ∀ a1 : Int, (-2147483648 ≤ a1 ∧ a1 ≤ 2147483647) → ∃ hm2 r, fX9_fault pv_NN a1 hc = some r ∧ fX10_fault pv_NN a1 hm = some (hm2, r) ∧ S hc hm2
def sm_rod (S : pv_H → pv_H → Prop) : Prop := ∀ hc hm, S hc hm → ∀ a1 a2 : Int, (-2147483648 ≤ a1 ∧ a1 ≤ 2147483647) → (-2147483648 ≤ a2 ∧ a2 ≤ 2147483647) → ∃ hc2 hm2 r, fX9_rod pv_NN a1 a2 hc = some (hc2, r) ∧ fX10_rod pv_NN a1 a2 hm = some (hm2, r) ∧ S hc2 hm2
def sm_cell (S : pv_H → pv_H → Prop) : Prop := ∀ hc hm, S hc hm → ∀ a1 a2 a3 : Int, (-2147483648 ≤ a1 ∧ a1 ≤ 2147483647) → (-2147483648 ≤ a2 ∧ a2 ≤ 2147483647) → (-2147483648 ≤ a3 ∧ a3 ≤ 2147483647) → ∃ hc2 hm2 r, fX9_cell pv_NN a1 a2 a3 hc = some (hc2, r) ∧ fX10_cell pv_NN a1 a2 a3 hm = some (hm2, r) ∧ S hc2 hm2
def sm_strength (S : pv_H → pv_H → Prop) : Prop := ∀ hc hm, S hc hm → ∀ a1 a2 a3 : Int, (-2147483648 ≤ a1 ∧ a1 ≤ 2147483647) → (-2147483648 ≤ a2 ∧ a2 ≤ 2147483647) → (-2147483648 ≤ a3 ∧ a3 ≤ 2147483647) → ∃ hc2 hm2 r, fX9_strength pv_NN a1 a2 a3 hc = some (hc2, r) ∧ fX10_strength pv_NN a1 a2 a3 hm = some (hm2, r) ∧ S hc2 hm2
def sm_bent (S : pv_H → pv_H → Prop) : Prop := ∀ hc hm, S hc hm → ∀ a1 a2 a3 : Int, (-2147483648 ≤ a1 ∧ a1 ≤ 2147483647) → (-2147483648 ≤ a2 ∧ a2 ≤ 2147483647) → (a3 = 0 ∨ a3 = 1) → ∃ hc2 hm2 r, fX9_bent pv_NN a1 a2 a3 hc = some (hc2, r) ∧ fX10_bent pv_NN a1 a2 a3 hm = some (hm2, r) ∧ S hc2 hm2
def sm_go (S : pv_H → pv_H → Prop) : Prop := ∀ hc hm, S hc hm → ∀ a1 a2 a3 : Int, (-2147483648 ≤ a1 ∧ a1 ≤ 2147483647) → (-2147483648 ≤ a2 ∧ a2 ≤ 2147483647) → (-2147483648 ≤ a3 ∧ a3 ≤ 2147483647) → ∃ hc2 hm2 r, fX9_go pv_NN a1 a2 a3 hc = some (hc2, r) ∧ fX10_go pv_NN a1 a2 a3 hm = some (hm2, r) ∧ S hc2 hm2
def sm_broke (S : pv_H → pv_H → Prop) : Prop := ∀ hc hm, S hc hm → ∀ a1 a2 : Int, (-2147483648 ≤ a1 ∧ a1 ≤ 2147483647) → (-2147483648 ≤ a2 ∧ a2 ≤ 2147483647) → ∃ hc2 hm2 r, fX9_broke pv_NN a1 a2 hc = some (hc2, r) ∧ fX10_broke pv_NN a1 a2 hm = some (hm2, r) ∧ S hc2 hm2
def sm_piece (S : pv_H → pv_H → Prop) : Prop := ∀ hc hm, S hc hm → ∀ a1 : Int, (-2147483648 ≤ a1 ∧ a1 ≤ 2147483647) → ∃ hc2 hm2 r, fX9_piece pv_NN a1 hc = some (hc2, r) ∧ fX10_piece pv_NN a1 hm = some (hm2, r) ∧ S hc2 hm2
def sm_wave (S : pv_H → pv_H → Prop) : Prop := ∀ hc hm, S hc hm → ∀ a1 a2 : Int, (-2147483648 ≤ a1 ∧ a1 ≤ 2147483647) → (-2147483648 ≤ a2 ∧ a2 ≤ 2147483647) → ∃ hc2 hm2 r, fX9_wave pv_NN a1 a2 hc = some (hc2, r) ∧ fX10_wave pv_NN a1 a2 hm = some (hm2, r) ∧ S hc2 hm2
def sm_run (S : pv_H → pv_H → Prop) : Prop := ∀ hc hm, S hc hm → ∀ a1 : Int, (-2147483648 ≤ a1 ∧ a1 ≤ 2147483647) → ∃ hc2 hm2 r, fX9_run pv_NN a1 hc = some (hc2, r) ∧ fX10_run pv_NN a1 hm = some (hm2, r) ∧ S hc2 hm2
def sm_why (S : pv_H → pv_H → Prop) : Prop := ∀ hc hm, S hc hm → ∃ hc2 hm2 r, fX9_why pv_NN  hc = some (hc2, r) ∧ fX10_why pv_NN  hm = some (hm2, r) ∧ S hc2 hm2
def sm_film (S : pv_H → pv_H → Prop) : Prop := ∀ hc hm, S hc hm → ∀ a1 : Int, (-2147483648 ≤ a1 ∧ a1 ≤ 2147483647) → ∃ hc2 hm2 r, fX9_film pv_NN a1 hc = some (hc2, r) ∧ fX10_film pv_NN a1 hm = some (hm2, r) ∧ S hc2 hm2
def sm_beyond (S : pv_H → pv_H → Prop) : Prop := ∀ hc hm, S hc hm → ∀ a1 a2 a3 a4 : Int, (-2147483648 ≤ a1 ∧ a1 ≤ 2147483647) → (-2147483648 ≤ a2 ∧ a2 ≤ 2147483647) → (-2147483648 ≤ a3 ∧ a3 ≤ 2147483647) → (-2147483648 ≤ a4 ∧ a4 ≤ 2147483647) → ∃ hc2 hm2 r, fX9_beyond pv_NN a1 a2 a3 a4 hc = some (hc2, r) ∧ fX10_beyond pv_NN a1 a2 a3 a4 hm = some (hm2, r) ∧ S hc2 hm2
def sm_odds (S : pv_H → pv_H → Prop) : Prop := ∀ hc hm, S hc hm → ∀ a1 a2 a3 a4 : Int, (-2147483648 ≤ a1 ∧ a1 ≤ 2147483647) → (-2147483648 ≤ a2 ∧ a2 ≤ 2147483647) → (-2147483648 ≤ a3 ∧ a3 ≤ 2147483647) → (-2147483648 ≤ a4 ∧ a4 ≤ 2147483647) → ∃ hc2 hm2 r, fX9_odds pv_NN a1 a2 a3 a4 hc = some (hc2, r) ∧ fX10_odds pv_NN a1 a2 a3 a4 hm = some (hm2, r) ∧ S hc2 hm2
def sm_ends (S : pv_H → pv_H → Prop) : Prop := ∀ hc hm, S hc hm → ∀ a1 a2 a3 a4 : Int, (-2147483648 ≤ a1 ∧ a1 ≤ 2147483647) → (-2147483648 ≤ a2 ∧ a2 ≤ 2147483647) → (-2147483648 ≤ a3 ∧ a3 ≤ 2147483647) → (-2147483648 ≤ a4 ∧ a4 ≤ 2147483647) → ∃ hc2 hm2 r, fX9_ends pv_NN a1 a2 a3 a4 hc = some (hc2, r) ∧ fX10_ends pv_NN a1 a2 a3 a4 hm = some (hm2, r) ∧ S hc2 hm2
def sm_paced (S : pv_H → pv_H → Prop) : Prop := ∀ hc hm, S hc hm → ∀ a1 a2 a3 a4 : Int, (-2147483648 ≤ a1 ∧ a1 ≤ 2147483647) → (-2147483648 ≤ a2 ∧ a2 ≤ 2147483647) → (-2147483648 ≤ a3 ∧ a3 ≤ 2147483647) → (-2147483648 ≤ a4 ∧ a4 ≤ 2147483647) → ∃ hc2 hm2 r, fX9_paced pv_NN a1 a2 a3 a4 hc = some (hc2, r) ∧ fX10_paced pv_NN a1 a2 a3 a4 hm = some (hm2, r) ∧ S hc2 hm2
def sm_turned (S : pv_H → pv_H → Prop) : Prop := ∀ hc hm, S hc hm → ∀ a1 a2 a3 a4 : Int, (-2147483648 ≤ a1 ∧ a1 ≤ 2147483647) → (-2147483648 ≤ a2 ∧ a2 ≤ 2147483647) → (-2147483648 ≤ a3 ∧ a3 ≤ 2147483647) → (-2147483648 ≤ a4 ∧ a4 ≤ 2147483647) → ∃ hc2 hm2 r, fX9_turned pv_NN a1 a2 a3 a4 hc = some (hc2, r) ∧ fX10_turned pv_NN a1 a2 a3 a4 hm = some (hm2, r) ∧ S hc2 hm2
def sm_least (S : pv_H → pv_H → Prop) : Prop := ∀ hc hm, S hc hm → ∀ a1 a2 a3 : Int, (-2147483648 ≤ a1 ∧ a1 ≤ 2147483647) → (-2147483648 ≤ a2 ∧ a2 ≤ 2147483647) → (-2147483648 ≤ a3 ∧ a3 ≤ 2147483647) → ∃ hc2 hm2 r, fX9_least pv_NN a1 a2 a3 hc = some (hc2, r) ∧ fX10_least pv_NN a1 a2 a3 hm = some (hm2, r) ∧ S hc2 hm2
def sm_line (S : pv_H → pv_H → Prop) : Prop := ∀ hc hm, S hc hm → ∀ a1 a2 a3 a4 : Int, (-2147483648 ≤ a1 ∧ a1 ≤ 2147483647) → (-2147483648 ≤ a2 ∧ a2 ≤ 2147483647) → (-2147483648 ≤ a3 ∧ a3 ≤ 2147483647) → (-2147483648 ≤ a4 ∧ a4 ≤ 2147483647) → ∃ hc2 hm2 r, fX9_line pv_NN a1 a2 a3 a4 hc = some (hc2, r) ∧ fX10_line pv_NN a1 a2 a3 a4 hm = some (hm2, r) ∧ S hc2 hm2
def sm_notched (S : pv_H → pv_H → Prop) : Prop := ∀ hc hm, S hc hm → ∀ a1 a2 a3 a4 a5 : Int, (-2147483648 ≤ a1 ∧ a1 ≤ 2147483647) → (-2147483648 ≤ a2 ∧ a2 ≤ 2147483647) → (-2147483648 ≤ a3 ∧ a3 ≤ 2147483647) → (-2147483648 ≤ a4 ∧ a4 ≤ 2147483647) → (-2147483648 ≤ a5 ∧ a5 ≤ 2147483647) → ∃ hc2 hm2 r, fX9_notched pv_NN a1 a2 a3 a4 a5 hc = some (hc2, r) ∧ fX10_notched pv_NN a1 a2 a3 a4 a5 hm = some (hm2, r) ∧ S hc2 hm2
def sm_notch (S : pv_H → pv_H → Prop) : Prop := ∀ hc hm, S hc hm → ∀ a1 a2 a3 a4 : Int, (-2147483648 ≤ a1 ∧ a1 ≤ 2147483647) → (-2147483648 ≤ a2 ∧ a2 ≤ 2147483647) → (-2147483648 ≤ a3 ∧ a3 ≤ 2147483647) → (-2147483648 ≤ a4 ∧ a4 ≤ 2147483647) → ∃ hc2 hm2 r, fX9_notch pv_NN a1 a2 a3 a4 hc = some (hc2, r) ∧ fX10_notch pv_NN a1 a2 a3 a4 hm = some (hm2, r) ∧ S hc2 hm2
def sm_longer (S : pv_H → pv_H → Prop) : Prop := ∀ hc hm, S hc hm → ∀ a1 a2 a3 a4 : Int, (-2147483648 ≤ a1 ∧ a1 ≤ 2147483647) → (-2147483648 ≤ a2 ∧ a2 ≤ 2147483647) → (-2147483648 ≤ a3 ∧ a3 ≤ 2147483647) → (-2147483648 ≤ a4 ∧ a4 ≤ 2147483647) → ∃ hc2 hm2 r, fX9_longer pv_NN a1 a2 a3 a4 hc = some (hc2, r) ∧ fX10_longer pv_NN a1 a2 a3 a4 hm = some (hm2, r) ∧ S hc2 hm2
def sm_thinner (S : pv_H → pv_H → Prop) : Prop := ∀ hc hm, S hc hm → ∀ a1 a2 a3 a4 : Int, (-2147483648 ≤ a1 ∧ a1 ≤ 2147483647) → (-2147483648 ≤ a2 ∧ a2 ≤ 2147483647) → (-2147483648 ≤ a3 ∧ a3 ≤ 2147483647) → (-2147483648 ≤ a4 ∧ a4 ≤ 2147483647) → ∃ hc2 hm2 r, fX9_thinner pv_NN a1 a2 a3 a4 hc = some (hc2, r) ∧ fX10_thinner pv_NN a1 a2 a3 a4 hm = some (hm2, r) ∧ S hc2 hm2
def sm_beside (S : pv_H → pv_H → Prop) : Prop := ∀ hc hm, S hc hm → ∀ a1 a2 a3 a4 : Int, (-2147483648 ≤ a1 ∧ a1 ≤ 2147483647) → (-2147483648 ≤ a2 ∧ a2 ≤ 2147483647) → (-2147483648 ≤ a3 ∧ a3 ≤ 2147483647) → (-2147483648 ≤ a4 ∧ a4 ≤ 2147483647) → ∃ hc2 hm2 r, fX9_beside pv_NN a1 a2 a3 a4 hc = some (hc2, r) ∧ fX10_beside pv_NN a1 a2 a3 a4 hm = some (hm2, r) ∧ S hc2 hm2
def sm_never (S : pv_H → pv_H → Prop) : Prop := ∀ hc hm, S hc hm → ∀ a1 a2 : Int, (-2147483648 ≤ a1 ∧ a1 ≤ 2147483647) → (-2147483648 ≤ a2 ∧ a2 ≤ 2147483647) → ∃ hc2 hm2 r, fX9_never pv_NN a1 a2 hc = some (hc2, r) ∧ fX10_never pv_NN a1 a2 hm = some (hm2, r) ∧ S hc2 hm2
def sm_read (S : pv_H → pv_H → Prop) : Prop := ∀ hc hm, S hc hm → ∀ a1 a2 a3 a4 : Int, (-2147483648 ≤ a1 ∧ a1 ≤ 2147483647) → (-2147483648 ≤ a2 ∧ a2 ≤ 2147483647) → (-2147483648 ≤ a3 ∧ a3 ≤ 2147483647) → (-2147483648 ≤ a4 ∧ a4 ≤ 2147483647) → ∃ hc2 hm2 r, fX9_read pv_NN a1 a2 a3 a4 hc = some (hc2, r) ∧ fX10_read pv_NN a1 a2 a3 a4 hm = some (hm2, r) ∧ S hc2 hm2
def sm_was (S : pv_H → pv_H → Prop) : Prop := ∀ hc hm, S hc hm → ∀ a1 a2 a3 a4 : Int, (-2147483648 ≤ a1 ∧ a1 ≤ 2147483647) → (-2147483648 ≤ a2 ∧ a2 ≤ 2147483647) → (-2147483648 ≤ a3 ∧ a3 ≤ 2147483647) → (-2147483648 ≤ a4 ∧ a4 ≤ 2147483647) → ∃ hc2 hm2 r, fX9_was pv_NN a1 a2 a3 a4 hc = some (hc2, r) ∧ fX10_was pv_NN a1 a2 a3 a4 hm = some (hm2, r) ∧ S hc2 hm2
def sm_found (S : pv_H → pv_H → Prop) : Prop := ∀ hc hm, S hc hm → ∀ a1 a2 a3 a4 a5 : Int, (-2147483648 ≤ a1 ∧ a1 ≤ 2147483647) → (-2147483648 ≤ a2 ∧ a2 ≤ 2147483647) → (-2147483648 ≤ a3 ∧ a3 ≤ 2147483647) → (-2147483648 ≤ a4 ∧ a4 ≤ 2147483647) → (-2147483648 ≤ a5 ∧ a5 ≤ 2147483647) → ∃ hc2 hm2 r, fX9_found pv_NN a1 a2 a3 a4 a5 hc = some (hc2, r) ∧ fX10_found pv_NN a1 a2 a3 a4 a5 hm = some (hm2, r) ∧ S hc2 hm2
def sm_middle (S : pv_H → pv_H → Prop) : Prop := ∀ hc hm, S hc hm → ∀ a1 a2 a3 a4 : Int, (-2147483648 ≤ a1 ∧ a1 ≤ 2147483647) → (-2147483648 ≤ a2 ∧ a2 ≤ 2147483647) → (-2147483648 ≤ a3 ∧ a3 ≤ 2147483647) → (-2147483648 ≤ a4 ∧ a4 ≤ 2147483647) → ∃ hc2 hm2 r, fX9_middle pv_NN a1 a2 a3 a4 hc = some (hc2, r) ∧ fX10_middle pv_NN a1 a2 a3 a4 hm = some (hm2, r) ∧ S hc2 hm2
def sm_filmed (S : pv_H → pv_H → Prop) : Prop := ∀ hc hm, S hc hm → ∀ a1 a2 a3 a4 a5 : Int, (-2147483648 ≤ a1 ∧ a1 ≤ 2147483647) → (-2147483648 ≤ a2 ∧ a2 ≤ 2147483647) → (-2147483648 ≤ a3 ∧ a3 ≤ 2147483647) → (-2147483648 ≤ a4 ∧ a4 ≤ 2147483647) → (-2147483648 ≤ a5 ∧ a5 ≤ 2147483647) → ∃ hc2 hm2 r, fX9_filmed pv_NN a1 a2 a3 a4 a5 hc = some (hc2, r) ∧ fX10_filmed pv_NN a1 a2 a3 a4 a5 hm = some (hm2, r) ∧ S hc2 hm2
def sm_swapped (S : pv_H → pv_H → Prop) : Prop := ∀ hc hm, S hc hm → ∀ a1 a2 a3 : Int, (-2147483648 ≤ a1 ∧ a1 ≤ 2147483647) → (-2147483648 ≤ a2 ∧ a2 ≤ 2147483647) → (-2147483648 ≤ a3 ∧ a3 ≤ 2147483647) → ∃ hc2 hm2 r, fX9_swapped pv_NN a1 a2 a3 hc = some (hc2, r) ∧ fX10_swapped pv_NN a1 a2 a3 hm = some (hm2, r) ∧ S hc2 hm2
def sm_grid (S : pv_H → pv_H → Prop) : Prop := ∀ hc hm, S hc hm → ∀ a1 a2 a3 : Int, (-2147483648 ≤ a1 ∧ a1 ≤ 2147483647) → (-2147483648 ≤ a2 ∧ a2 ≤ 2147483647) → (-2147483648 ≤ a3 ∧ a3 ≤ 2147483647) → ∃ hc2 hm2 r, fX9_grid pv_NN a1 a2 a3 hc = some (hc2, r) ∧ fX10_grid pv_NN a1 a2 a3 hm = some (hm2, r) ∧ S hc2 hm2
def sm_flies (S : pv_H → pv_H → Prop) : Prop := ∀ hc hm, S hc hm → ∀ a1 : Int, (-2147483648 ≤ a1 ∧ a1 ≤ 2147483647) → ∃ hc2 hm2 r, fX9_flies pv_NN a1 hc = some (hc2, r) ∧ fX10_flies pv_NN a1 hm = some (hm2, r) ∧ S hc2 hm2
def sm_row (S : pv_H → pv_H → Prop) : Prop := ∀ hc hm, S hc hm → ∀ a1 a2 a3 : Int, (-2147483648 ≤ a1 ∧ a1 ≤ 2147483647) → (-2147483648 ≤ a2 ∧ a2 ≤ 2147483647) → (-2147483648 ≤ a3 ∧ a3 ≤ 2147483647) → ∃ hc2 hm2 r, fX9_row pv_NN a1 a2 a3 hc = some (hc2, r) ∧ fX10_row pv_NN a1 a2 a3 hm = some (hm2, r) ∧ S hc2 hm2
def sm_write (S : pv_H → pv_H → Prop) : Prop := ∀ hc hm, S hc hm → ∀ a1 a2 a3 : Int, (-2147483648 ≤ a1 ∧ a1 ≤ 2147483647) → (-2147483648 ≤ a2 ∧ a2 ≤ 2147483647) → (-9223372036854775808 ≤ a3 ∧ a3 ≤ 9223372036854775807) → ∃ hc2 hm2 r, fX9_write pv_NN a1 a2 a3 hc = some (hc2, r) ∧ fX10_write pv_NN a1 a2 a3 hm = some (hm2, r) ∧ S hc2 hm2
def sm_keep (S : pv_H → pv_H → Prop) : Prop := ∀ hc hm, S hc hm → ∀ a1 a2 : Int, (-2147483648 ≤ a1 ∧ a1 ≤ 2147483647) → (-2147483648 ≤ a2 ∧ a2 ≤ 2147483647) → ∃ hc2 hm2 r, fX9_keep pv_NN a1 a2 hc = some (hc2, r) ∧ fX10_keep pv_NN a1 a2 hm = some (hm2, r) ∧ S hc2 hm2
def sm_image (S : pv_H → pv_H → Prop) : Prop := ∀ hc hm, S hc hm → ∀ a1 : Int, (-2147483648 ≤ a1 ∧ a1 ≤ 2147483647) → ∃ hc2 hm2 r, fX9_image pv_NN a1 hc = some (hc2, r) ∧ fX10_image pv_NN a1 hm = some (hm2, r) ∧ S hc2 hm2
def sm_restore (S : pv_H → pv_H → Prop) : Prop := ∀ hc hm, S hc hm → ∀ a1 : Int, (-2147483648 ≤ a1 ∧ a1 ≤ 2147483647) → ∃ hc2 hm2 r, fX9_restore pv_NN a1 hc = some (hc2, r) ∧ fX10_restore pv_NN a1 hm = some (hm2, r) ∧ S hc2 hm2
def sm_status (S : pv_H → pv_H → Prop) : Prop := ∀ hc hm, S hc hm → ∀ a1 : Int, (-2147483648 ≤ a1 ∧ a1 ≤ 2147483647) → ∃ hm2 r, fX9_status pv_NN a1 hc = some r ∧ fX10_status pv_NN a1 hm = some (hm2, r) ∧ S hc hm2
def sm_count (S : pv_H → pv_H → Prop) : Prop := ∀ hc hm, S hc hm → ∀ a1 : Int, (-2147483648 ≤ a1 ∧ a1 ≤ 2147483647) → ∃ hm2 r, fX9_count pv_NN a1 hc = some r ∧ fX10_count pv_NN a1 hm = some (hm2, r) ∧ S hc hm2
theorem lc_feed {S : pv_H → pv_H → Prop} {L : Nat} {xs : Nat → Int32} {i : Nat} {hc hm : pv_H} (hL : i + 6 ≤ L) (hLm : L ≤ 3072) (hs : sm_feed S) (hS : S hc hm) (k : ∀ hc2 hm2, S hc2 hm2 → LV L xs 2019 i [] hc2 hm2) : LV L xs 216 i [] hc hm := by
  obtain ⟨hc2, hm2, r, e1, e2, hS2⟩ := hs hc hm hS (xs (i + 1)).toInt (xs (i + 2)).toInt (xs (i + 3)).toInt (xs (i + 4)).toInt (xs (i + 5)).toInt (pv_rg _) (pv_rg _) (pv_rg _) (pv_rg _) (pv_rg _)
  refine LV.x dL_law_216 ?_
  refine LV.arg 1 (by decide) hL hLm dL_law_217 dL_law_218 dL_law_219 dL_law_220 dL_law_221 ?_
  refine LV.arg 2 (by decide) hL hLm dL_law_222 dL_law_223 dL_law_224 dL_law_225 dL_law_226 ?_
  refine LV.arg 3 (by decide) hL hLm dL_law_227 dL_law_228 dL_law_229 dL_law_230 dL_law_231 ?_
  refine LV.arg 4 (by decide) hL hLm dL_law_232 dL_law_233 dL_law_234 dL_law_235 dL_law_236 ?_
  refine LV.arg 5 (by decide) hL hLm dL_law_237 dL_law_238 dL_law_239 dL_law_240 dL_law_241 ?_
  refine LV.callC (hc2 := hc2) (As := [.inl (xs (i + 1)).toInt, .inl (xs (i + 2)).toInt, .inl (xs (i + 3)).toInt, .inl (xs (i + 4)).toInt, .inl (xs (i + 5)).toInt]) (st := []) (v := .inl r) dL_law_242 md_X9_feed ml_L_13 im_X9_feed se_X9_feed (tX9_feed (by decide) e1) rfl (fun _ _ _ => rfl) (fun v hv => Or.inl (by simp only [List.mem_cons, List.not_mem_nil, or_false] at hv; rcases hv with rfl | rfl | rfl | rfl | rfl <;> intro n <;> first | exact pv_rg _ | exact pv_rgl _ | (show _ ∧ _; split <;> decide))) (fun v hv => by cases hv) (fun _ _ _ => rfl) (fun _ z => z) (by decide) ?_
  refine LV.m dL_law_245 ?_
  refine LV.arg 1 (by decide) hL hLm dL_law_246 dL_law_247 dL_law_248 dL_law_249 dL_law_250 ?_
  refine LV.arg 2 (by decide) hL hLm dL_law_251 dL_law_252 dL_law_253 dL_law_254 dL_law_255 ?_
  refine LV.arg 3 (by decide) hL hLm dL_law_256 dL_law_257 dL_law_258 dL_law_259 dL_law_260 ?_
  refine LV.arg 4 (by decide) hL hLm dL_law_261 dL_law_262 dL_law_263 dL_law_264 dL_law_265 ?_
  refine LV.arg 5 (by decide) hL hLm dL_law_266 dL_law_267 dL_law_268 dL_law_269 dL_law_270 ?_
  refine LV.callM (hm2 := hm2) (As := [.inl (xs (i + 1)).toInt, .inl (xs (i + 2)).toInt, .inl (xs (i + 3)).toInt, .inl (xs (i + 4)).toInt, .inl (xs (i + 5)).toInt]) (st := [.inl r]) (v := .inl r) dL_law_271 md_X10_feed ml_L_17 im_X10_feed se_X10_feed (tX10_feed (by decide) e2) rfl (fun _ _ _ => rfl) (fun v hv => Or.inl (by simp only [List.mem_cons, List.not_mem_nil, or_false] at hv; rcases hv with rfl | rfl | rfl | rfl | rfl <;> intro n <;> first | exact pv_rg _ | exact pv_rgl _ | (show _ ∧ _; split <;> decide))) (fun v hv => by simp at hv ⊢; simp [hv]) (fun _ _ _ => rfl) (fun _ z => z) (Nat.le_of_ble_eq_true rfl) ?_
  refine LV.eq (tgt := 2019) dL_law_274 (by decide) ?_
  exact k hc2 hm2 hS2

theorem lc_text {S : pv_H → pv_H → Prop} {L : Nat} {xs : Nat → Int32} {i : Nat} {hc hm : pv_H} (hL : i + 6 ≤ L) (hLm : L ≤ 3072) (hs : sm_text S) (hS : S hc hm) (k : ∀ hc2 hm2, S hc2 hm2 → LV L xs 2019 i [] hc2 hm2) : LV L xs 279 i [] hc hm := by
  obtain ⟨hc2, hm2, r, e1, e2, hS2⟩ := hs hc hm hS (xs (i + 1)).toInt (xs (i + 2)).toInt (xs (i + 3)).toInt (pv_rg _) (pv_rg _) (pv_rg _)
  refine LV.x dL_law_279 ?_
  refine LV.arg 1 (by decide) hL hLm dL_law_280 dL_law_281 dL_law_282 dL_law_283 dL_law_284 ?_
  refine LV.arg 2 (by decide) hL hLm dL_law_285 dL_law_286 dL_law_287 dL_law_288 dL_law_289 ?_
  refine LV.arg 3 (by decide) hL hLm dL_law_290 dL_law_291 dL_law_292 dL_law_293 dL_law_294 ?_
  refine LV.callC (hc2 := hc2) (As := [.inl (xs (i + 1)).toInt, .inl (xs (i + 2)).toInt, .inl (xs (i + 3)).toInt]) (st := []) (v := .inl r) dL_law_295 md_X9_text ml_L_18 im_X9_text se_X9_text (tX9_text (by decide) e1) rfl (fun _ _ _ => rfl) (fun v hv => Or.inl (by simp only [List.mem_cons, List.not_mem_nil, or_false] at hv; rcases hv with rfl | rfl | rfl <;> intro n <;> first | exact pv_rg _ | exact pv_rgl _ | (show _ ∧ _; split <;> decide))) (fun v hv => by cases hv) (fun _ _ _ => rfl) (fun _ z => z) (by decide) ?_
  refine LV.m dL_law_298 ?_
  refine LV.arg 1 (by decide) hL hLm dL_law_299 dL_law_300 dL_law_301 dL_law_302 dL_law_303 ?_
  refine LV.arg 2 (by decide) hL hLm dL_law_304 dL_law_305 dL_law_306 dL_law_307 dL_law_308 ?_
  refine LV.arg 3 (by decide) hL hLm dL_law_309 dL_law_310 dL_law_311 dL_law_312 dL_law_313 ?_
  refine LV.callM (hm2 := hm2) (As := [.inl (xs (i + 1)).toInt, .inl (xs (i + 2)).toInt, .inl (xs (i + 3)).toInt]) (st := [.inl r]) (v := .inl r) dL_law_314 md_X10_text ml_L_22 im_X10_text se_X10_text (tX10_text (by decide) e2) rfl (fun _ _ _ => rfl) (fun v hv => Or.inl (by simp only [List.mem_cons, List.not_mem_nil, or_false] at hv; rcases hv with rfl | rfl | rfl <;> intro n <;> first | exact pv_rg _ | exact pv_rgl _ | (show _ ∧ _; split <;> decide))) (fun v hv => by simp at hv ⊢; simp [hv]) (fun _ _ _ => rfl) (fun _ z => z) (Nat.le_of_ble_eq_true rfl) ?_
  refine LV.eq (tgt := 2019) dL_law_317 (by decide) ?_
  exact k hc2 hm2 hS2

theorem lc_fault {S : pv_H → pv_H → Prop} {L : Nat} {xs : Nat → Int32} {i : Nat} {hc hm : pv_H} (hL : i + 6 ≤ L) (hLm : L ≤ 3072) (hs : sm_fault S) (hS : S hc hm) (k : ∀ hc2 hm2, S hc2 hm2 → LV L xs 2019 i [] hc2 hm2) : LV L xs 322 i [] hc hm := by
  obtain ⟨hm2, r, e1, e2, hS2⟩ := hs hc hm hS (xs (i + 1)).toInt (pv_rg _)
  refine LV.x dL_law_322 ?_
  refine LV.arg 1 (by decide) hL hLm dL_law_323 dL_law_324 dL_law_325 dL_law_326 dL_law_327 ?_
  refine LV.callC (hc2 := hc) (As := [.inl (xs (i + 1)).toInt]) (st := []) (v := .inl r) dL_law_328 md_X9_fault ml_L_23 im_X9_fault se_X9_fault (tX9_fault (by decide) e1) rfl (fun _ _ _ => rfl) (fun v hv => Or.inl (by simp only [List.mem_cons, List.not_mem_nil, or_false] at hv; rcases hv with rfl <;> intro n <;> first | exact pv_rg _ | exact pv_rgl _ | (show _ ∧ _; split <;> decide))) (fun v hv => by cases hv) (fun _ _ _ => rfl) (fun _ z => z) (by decide) ?_
  refine LV.m dL_law_331 ?_
  refine LV.arg 1 (by decide) hL hLm dL_law_332 dL_law_333 dL_law_334 dL_law_335 dL_law_336 ?_
  refine LV.callM (hm2 := hm2) (As := [.inl (xs (i + 1)).toInt]) (st := [.inl r]) (v := .inl r) dL_law_337 md_X10_fault ml_L_27 im_X10_fault se_X10_fault (tX10_fault (by decide) e2) rfl (fun _ _ _ => rfl) (fun v hv => Or.inl (by simp only [List.mem_cons, List.not_mem_nil, or_false] at hv; rcases hv with rfl <;> intro n <;> first | exact pv_rg _ | exact pv_rgl _ | (show _ ∧ _; split <;> decide))) (fun v hv => by simp at hv ⊢; simp [hv]) (fun _ _ _ => rfl) (fun _ z => z) (Nat.le_of_ble_eq_true rfl) ?_
  refine LV.eq (tgt := 2019) dL_law_340 (by decide) ?_
  exact k hc hm2 hS2

theorem lc_rod {S : pv_H → pv_H → Prop} {L : Nat} {xs : Nat → Int32} {i : Nat} {hc hm : pv_H} (hL : i + 6 ≤ L) (hLm : L ≤ 3072) (hs : sm_rod S) (hS : S hc hm) (k : ∀ hc2 hm2, S hc2 hm2 → LV L xs 2019 i [] hc2 hm2) : LV L xs 345 i [] hc hm := by
  obtain ⟨hc2, hm2, r, e1, e2, hS2⟩ := hs hc hm hS (xs (i + 1)).toInt (xs (i + 2)).toInt (pv_rg _) (pv_rg _)
  refine LV.x dL_law_345 ?_
  refine LV.arg 1 (by decide) hL hLm dL_law_346 dL_law_347 dL_law_348 dL_law_349 dL_law_350 ?_
  refine LV.arg 2 (by decide) hL hLm dL_law_351 dL_law_352 dL_law_353 dL_law_354 dL_law_355 ?_
  refine LV.callC (hc2 := hc2) (As := [.inl (xs (i + 1)).toInt, .inl (xs (i + 2)).toInt]) (st := []) (v := .inl r) dL_law_356 md_X9_rod ml_L_28 im_X9_rod se_X9_rod (tX9_rod (by decide) e1) rfl (fun _ _ _ => rfl) (fun v hv => Or.inl (by simp only [List.mem_cons, List.not_mem_nil, or_false] at hv; rcases hv with rfl | rfl <;> intro n <;> first | exact pv_rg _ | exact pv_rgl _ | (show _ ∧ _; split <;> decide))) (fun v hv => by cases hv) (fun _ _ _ => rfl) (fun _ z => z) (by decide) ?_
  refine LV.m dL_law_359 ?_
  refine LV.arg 1 (by decide) hL hLm dL_law_360 dL_law_361 dL_law_362 dL_law_363 dL_law_364 ?_
  refine LV.arg 2 (by decide) hL hLm dL_law_365 dL_law_366 dL_law_367 dL_law_368 dL_law_369 ?_
  refine LV.callM (hm2 := hm2) (As := [.inl (xs (i + 1)).toInt, .inl (xs (i + 2)).toInt]) (st := [.inl r]) (v := .inl r) dL_law_370 md_X10_rod ml_L_32 im_X10_rod se_X10_rod (tX10_rod (by decide) e2) rfl (fun _ _ _ => rfl) (fun v hv => Or.inl (by simp only [List.mem_cons, List.not_mem_nil, or_false] at hv; rcases hv with rfl | rfl <;> intro n <;> first | exact pv_rg _ | exact pv_rgl _ | (show _ ∧ _; split <;> decide))) (fun v hv => by simp at hv ⊢; simp [hv]) (fun _ _ _ => rfl) (fun _ z => z) (Nat.le_of_ble_eq_true rfl) ?_
  refine LV.eq (tgt := 2019) dL_law_373 (by decide) ?_
  exact k hc2 hm2 hS2

theorem lc_cell {S : pv_H → pv_H → Prop} {L : Nat} {xs : Nat → Int32} {i : Nat} {hc hm : pv_H} (hL : i + 6 ≤ L) (hLm : L ≤ 3072) (hs : sm_cell S) (hS : S hc hm) (k : ∀ hc2 hm2, S hc2 hm2 → LV L xs 2019 i [] hc2 hm2) : LV L xs 378 i [] hc hm := by
  obtain ⟨hc2, hm2, r, e1, e2, hS2⟩ := hs hc hm hS (xs (i + 1)).toInt (xs (i + 2)).toInt (xs (i + 3)).toInt (pv_rg _) (pv_rg _) (pv_rg _)
  refine LV.x dL_law_378 ?_
  refine LV.arg 1 (by decide) hL hLm dL_law_379 dL_law_380 dL_law_381 dL_law_382 dL_law_383 ?_
  refine LV.arg 2 (by decide) hL hLm dL_law_384 dL_law_385 dL_law_386 dL_law_387 dL_law_388 ?_
  refine LV.arg 3 (by decide) hL hLm dL_law_389 dL_law_390 dL_law_391 dL_law_392 dL_law_393 ?_
  refine LV.callC (hc2 := hc2) (As := [.inl (xs (i + 1)).toInt, .inl (xs (i + 2)).toInt, .inl (xs (i + 3)).toInt]) (st := []) (v := .inl r) dL_law_394 md_X9_cell ml_L_33 im_X9_cell se_X9_cell (tX9_cell (by decide) e1) rfl (fun _ _ _ => rfl) (fun v hv => Or.inl (by simp only [List.mem_cons, List.not_mem_nil, or_false] at hv; rcases hv with rfl | rfl | rfl <;> intro n <;> first | exact pv_rg _ | exact pv_rgl _ | (show _ ∧ _; split <;> decide))) (fun v hv => by cases hv) (fun _ _ _ => rfl) (fun _ z => z) (by decide) ?_
  refine LV.m dL_law_397 ?_
  refine LV.arg 1 (by decide) hL hLm dL_law_398 dL_law_399 dL_law_400 dL_law_401 dL_law_402 ?_
  refine LV.arg 2 (by decide) hL hLm dL_law_403 dL_law_404 dL_law_405 dL_law_406 dL_law_407 ?_
  refine LV.arg 3 (by decide) hL hLm dL_law_408 dL_law_409 dL_law_410 dL_law_411 dL_law_412 ?_
  refine LV.callM (hm2 := hm2) (As := [.inl (xs (i + 1)).toInt, .inl (xs (i + 2)).toInt, .inl (xs (i + 3)).toInt]) (st := [.inl r]) (v := .inl r) dL_law_413 md_X10_cell ml_L_36 im_X10_cell se_X10_cell (tX10_cell (by decide) e2) rfl (fun _ _ _ => rfl) (fun v hv => Or.inl (by simp only [List.mem_cons, List.not_mem_nil, or_false] at hv; rcases hv with rfl | rfl | rfl <;> intro n <;> first | exact pv_rg _ | exact pv_rgl _ | (show _ ∧ _; split <;> decide))) (fun v hv => by simp at hv ⊢; simp [hv]) (fun _ _ _ => rfl) (fun _ z => z) (Nat.le_of_ble_eq_true rfl) ?_
  refine LV.eq (tgt := 2019) dL_law_416 (by decide) ?_
  exact k hc2 hm2 hS2

theorem lc_strength {S : pv_H → pv_H → Prop} {L : Nat} {xs : Nat → Int32} {i : Nat} {hc hm : pv_H} (hL : i + 6 ≤ L) (hLm : L ≤ 3072) (hs : sm_strength S) (hS : S hc hm) (k : ∀ hc2 hm2, S hc2 hm2 → LV L xs 2019 i [] hc2 hm2) : LV L xs 421 i [] hc hm := by
  obtain ⟨hc2, hm2, r, e1, e2, hS2⟩ := hs hc hm hS (xs (i + 1)).toInt (xs (i + 2)).toInt (xs (i + 3)).toInt (pv_rg _) (pv_rg _) (pv_rg _)
  refine LV.x dL_law_421 ?_
  refine LV.arg 1 (by decide) hL hLm dL_law_422 dL_law_423 dL_law_424 dL_law_425 dL_law_426 ?_
  refine LV.arg 2 (by decide) hL hLm dL_law_427 dL_law_428 dL_law_429 dL_law_430 dL_law_431 ?_
  refine LV.arg 3 (by decide) hL hLm dL_law_432 dL_law_433 dL_law_434 dL_law_435 dL_law_436 ?_
  refine LV.callC (hc2 := hc2) (As := [.inl (xs (i + 1)).toInt, .inl (xs (i + 2)).toInt, .inl (xs (i + 3)).toInt]) (st := []) (v := .inl r) dL_law_437 md_X9_strength ml_L_37 im_X9_strength se_X9_strength (tX9_strength (by decide) e1) rfl (fun _ _ _ => rfl) (fun v hv => Or.inl (by simp only [List.mem_cons, List.not_mem_nil, or_false] at hv; rcases hv with rfl | rfl | rfl <;> intro n <;> first | exact pv_rg _ | exact pv_rgl _ | (show _ ∧ _; split <;> decide))) (fun v hv => by cases hv) (fun _ _ _ => rfl) (fun _ z => z) (by decide) ?_
  refine LV.m dL_law_440 ?_
  refine LV.arg 1 (by decide) hL hLm dL_law_441 dL_law_442 dL_law_443 dL_law_444 dL_law_445 ?_
  refine LV.arg 2 (by decide) hL hLm dL_law_446 dL_law_447 dL_law_448 dL_law_449 dL_law_450 ?_
  refine LV.arg 3 (by decide) hL hLm dL_law_451 dL_law_452 dL_law_453 dL_law_454 dL_law_455 ?_
  refine LV.callM (hm2 := hm2) (As := [.inl (xs (i + 1)).toInt, .inl (xs (i + 2)).toInt, .inl (xs (i + 3)).toInt]) (st := [.inl r]) (v := .inl r) dL_law_456 md_X10_strength ml_L_40 im_X10_strength se_X10_strength (tX10_strength (by decide) e2) rfl (fun _ _ _ => rfl) (fun v hv => Or.inl (by simp only [List.mem_cons, List.not_mem_nil, or_false] at hv; rcases hv with rfl | rfl | rfl <;> intro n <;> first | exact pv_rg _ | exact pv_rgl _ | (show _ ∧ _; split <;> decide))) (fun v hv => by simp at hv ⊢; simp [hv]) (fun _ _ _ => rfl) (fun _ z => z) (Nat.le_of_ble_eq_true rfl) ?_
  refine LV.eq (tgt := 2019) dL_law_459 (by decide) ?_
  exact k hc2 hm2 hS2

theorem lc_bent {S : pv_H → pv_H → Prop} {L : Nat} {xs : Nat → Int32} {i : Nat} {hc hm : pv_H} (hL : i + 6 ≤ L) (hLm : L ≤ 3072) (hs : sm_bent S) (hS : S hc hm) (k : ∀ hc2 hm2, S hc2 hm2 → LV L xs 2019 i [] hc2 hm2) : LV L xs 464 i [] hc hm := by
  obtain ⟨hc2, hm2, r, e1, e2, hS2⟩ := hs hc hm hS (xs (i + 1)).toInt (xs (i + 2)).toInt (if (xs (i + 3)).toInt = 0 then 0 else 1) (pv_rg _) (pv_rg _) (by split <;> simp)
  refine LV.x dL_law_464 ?_
  refine LV.arg 1 (by decide) hL hLm dL_law_465 dL_law_466 dL_law_467 dL_law_468 dL_law_469 ?_
  refine LV.arg 2 (by decide) hL hLm dL_law_470 dL_law_471 dL_law_472 dL_law_473 dL_law_474 ?_
  refine LV.arg 3 (by decide) hL hLm dL_law_475 dL_law_476 dL_law_477 dL_law_478 dL_law_479 ?_
  refine LV.tru (t1 := 487) (t2 := 488) dL_law_480 (by decide) dL_law_483 dL_law_484 (by decide) dL_law_487 rfl ?_
  refine LV.callC (hc2 := hc2) (As := [.inl (xs (i + 1)).toInt, .inl (xs (i + 2)).toInt, .inl (if (xs (i + 3)).toInt = 0 then 0 else 1)]) (st := []) (v := .inl r) dL_law_488 md_X9_bent ml_L_41 im_X9_bent se_X9_bent (tX9_bent (by decide) e1) rfl (fun _ _ _ => rfl) (fun v hv => Or.inl (by simp only [List.mem_cons, List.not_mem_nil, or_false] at hv; rcases hv with rfl | rfl | rfl <;> intro n <;> first | exact pv_rg _ | exact pv_rgl _ | (show _ ∧ _; split <;> decide))) (fun v hv => by cases hv) (fun _ _ _ => rfl) (fun _ z => z) (by decide) ?_
  refine LV.m dL_law_491 ?_
  refine LV.arg 1 (by decide) hL hLm dL_law_492 dL_law_493 dL_law_494 dL_law_495 dL_law_496 ?_
  refine LV.arg 2 (by decide) hL hLm dL_law_497 dL_law_498 dL_law_499 dL_law_500 dL_law_501 ?_
  refine LV.arg 3 (by decide) hL hLm dL_law_502 dL_law_503 dL_law_504 dL_law_505 dL_law_506 ?_
  refine LV.tru (t1 := 514) (t2 := 515) dL_law_507 (by decide) dL_law_510 dL_law_511 (by decide) dL_law_514 rfl ?_
  refine LV.callM (hm2 := hm2) (As := [.inl (xs (i + 1)).toInt, .inl (xs (i + 2)).toInt, .inl (if (xs (i + 3)).toInt = 0 then 0 else 1)]) (st := [.inl r]) (v := .inl r) dL_law_515 md_X10_bent ml_L_45 im_X10_bent se_X10_bent (tX10_bent (by decide) e2) rfl (fun _ _ _ => rfl) (fun v hv => Or.inl (by simp only [List.mem_cons, List.not_mem_nil, or_false] at hv; rcases hv with rfl | rfl | rfl <;> intro n <;> first | exact pv_rg _ | exact pv_rgl _ | (show _ ∧ _; split <;> decide))) (fun v hv => by simp at hv ⊢; simp [hv]) (fun _ _ _ => rfl) (fun _ z => z) (Nat.le_of_ble_eq_true rfl) ?_
  refine LV.eq (tgt := 2019) dL_law_518 (by decide) ?_
  exact k hc2 hm2 hS2

theorem lc_go {S : pv_H → pv_H → Prop} {L : Nat} {xs : Nat → Int32} {i : Nat} {hc hm : pv_H} (hL : i + 6 ≤ L) (hLm : L ≤ 3072) (hs : sm_go S) (hS : S hc hm) (k : ∀ hc2 hm2, S hc2 hm2 → LV L xs 2019 i [] hc2 hm2) : LV L xs 523 i [] hc hm := by
  obtain ⟨hc2, hm2, r, e1, e2, hS2⟩ := hs hc hm hS (xs (i + 1)).toInt (xs (i + 2)).toInt (xs (i + 3)).toInt (pv_rg _) (pv_rg _) (pv_rg _)
  refine LV.x dL_law_523 ?_
  refine LV.arg 1 (by decide) hL hLm dL_law_524 dL_law_525 dL_law_526 dL_law_527 dL_law_528 ?_
  refine LV.arg 2 (by decide) hL hLm dL_law_529 dL_law_530 dL_law_531 dL_law_532 dL_law_533 ?_
  refine LV.arg 3 (by decide) hL hLm dL_law_534 dL_law_535 dL_law_536 dL_law_537 dL_law_538 ?_
  refine LV.callC (hc2 := hc2) (As := [.inl (xs (i + 1)).toInt, .inl (xs (i + 2)).toInt, .inl (xs (i + 3)).toInt]) (st := []) (v := .inl r) dL_law_539 md_X9_go ml_L_46 im_X9_go se_X9_go (tX9_go (by decide) e1) rfl (fun _ _ _ => rfl) (fun v hv => Or.inl (by simp only [List.mem_cons, List.not_mem_nil, or_false] at hv; rcases hv with rfl | rfl | rfl <;> intro n <;> first | exact pv_rg _ | exact pv_rgl _ | (show _ ∧ _; split <;> decide))) (fun v hv => by cases hv) (fun _ _ _ => rfl) (fun _ z => z) (by decide) ?_
  refine LV.m dL_law_542 ?_
  refine LV.arg 1 (by decide) hL hLm dL_law_543 dL_law_544 dL_law_545 dL_law_546 dL_law_547 ?_
  refine LV.arg 2 (by decide) hL hLm dL_law_548 dL_law_549 dL_law_550 dL_law_551 dL_law_552 ?_
  refine LV.arg 3 (by decide) hL hLm dL_law_553 dL_law_554 dL_law_555 dL_law_556 dL_law_557 ?_
  refine LV.callM (hm2 := hm2) (As := [.inl (xs (i + 1)).toInt, .inl (xs (i + 2)).toInt, .inl (xs (i + 3)).toInt]) (st := [.inl r]) (v := .inl r) dL_law_558 md_X10_go ml_L_49 im_X10_go se_X10_go (tX10_go (by decide) e2) rfl (fun _ _ _ => rfl) (fun v hv => Or.inl (by simp only [List.mem_cons, List.not_mem_nil, or_false] at hv; rcases hv with rfl | rfl | rfl <;> intro n <;> first | exact pv_rg _ | exact pv_rgl _ | (show _ ∧ _; split <;> decide))) (fun v hv => by simp at hv ⊢; simp [hv]) (fun _ _ _ => rfl) (fun _ z => z) (Nat.le_of_ble_eq_true rfl) ?_
  refine LV.eq (tgt := 2019) dL_law_561 (by decide) ?_
  exact k hc2 hm2 hS2

theorem lc_broke {S : pv_H → pv_H → Prop} {L : Nat} {xs : Nat → Int32} {i : Nat} {hc hm : pv_H} (hL : i + 6 ≤ L) (hLm : L ≤ 3072) (hs : sm_broke S) (hS : S hc hm) (k : ∀ hc2 hm2, S hc2 hm2 → LV L xs 2019 i [] hc2 hm2) : LV L xs 566 i [] hc hm := by
  obtain ⟨hc2, hm2, r, e1, e2, hS2⟩ := hs hc hm hS (xs (i + 1)).toInt (xs (i + 2)).toInt (pv_rg _) (pv_rg _)
  refine LV.x dL_law_566 ?_
  refine LV.arg 1 (by decide) hL hLm dL_law_567 dL_law_568 dL_law_569 dL_law_570 dL_law_571 ?_
  refine LV.arg 2 (by decide) hL hLm dL_law_572 dL_law_573 dL_law_574 dL_law_575 dL_law_576 ?_
  refine LV.callC (hc2 := hc2) (As := [.inl (xs (i + 1)).toInt, .inl (xs (i + 2)).toInt]) (st := []) (v := .inl r) dL_law_577 md_X9_broke ml_L_50 im_X9_broke se_X9_broke (tX9_broke (by decide) e1) rfl (fun _ _ _ => rfl) (fun v hv => Or.inl (by simp only [List.mem_cons, List.not_mem_nil, or_false] at hv; rcases hv with rfl | rfl <;> intro n <;> first | exact pv_rg _ | exact pv_rgl _ | (show _ ∧ _; split <;> decide))) (fun v hv => by cases hv) (fun _ _ _ => rfl) (fun _ z => z) (by decide) ?_
  refine LV.m dL_law_580 ?_
  refine LV.arg 1 (by decide) hL hLm dL_law_581 dL_law_582 dL_law_583 dL_law_584 dL_law_585 ?_
  refine LV.arg 2 (by decide) hL hLm dL_law_586 dL_law_587 dL_law_588 dL_law_589 dL_law_590 ?_
  refine LV.callM (hm2 := hm2) (As := [.inl (xs (i + 1)).toInt, .inl (xs (i + 2)).toInt]) (st := [.inl r]) (v := .inl r) dL_law_591 md_X10_broke ml_L_53 im_X10_broke se_X10_broke (tX10_broke (by decide) e2) rfl (fun _ _ _ => rfl) (fun v hv => Or.inl (by simp only [List.mem_cons, List.not_mem_nil, or_false] at hv; rcases hv with rfl | rfl <;> intro n <;> first | exact pv_rg _ | exact pv_rgl _ | (show _ ∧ _; split <;> decide))) (fun v hv => by simp at hv ⊢; simp [hv]) (fun _ _ _ => rfl) (fun _ z => z) (Nat.le_of_ble_eq_true rfl) ?_
  refine LV.eq (tgt := 2019) dL_law_594 (by decide) ?_
  exact k hc2 hm2 hS2

theorem lc_piece {S : pv_H → pv_H → Prop} {L : Nat} {xs : Nat → Int32} {i : Nat} {hc hm : pv_H} (hL : i + 6 ≤ L) (hLm : L ≤ 3072) (hs : sm_piece S) (hS : S hc hm) (k : ∀ hc2 hm2, S hc2 hm2 → LV L xs 2019 i [] hc2 hm2) : LV L xs 599 i [] hc hm := by
  obtain ⟨hc2, hm2, r, e1, e2, hS2⟩ := hs hc hm hS (xs (i + 1)).toInt (pv_rg _)
  refine LV.x dL_law_599 ?_
  refine LV.arg 1 (by decide) hL hLm dL_law_600 dL_law_601 dL_law_602 dL_law_603 dL_law_604 ?_
  refine LV.callC (hc2 := hc2) (As := [.inl (xs (i + 1)).toInt]) (st := []) (v := .inl r) dL_law_605 md_X9_piece ml_L_54 im_X9_piece se_X9_piece (tX9_piece (by decide) e1) rfl (fun _ _ _ => rfl) (fun v hv => Or.inl (by simp only [List.mem_cons, List.not_mem_nil, or_false] at hv; rcases hv with rfl <;> intro n <;> first | exact pv_rg _ | exact pv_rgl _ | (show _ ∧ _; split <;> decide))) (fun v hv => by cases hv) (fun _ _ _ => rfl) (fun _ z => z) (by decide) ?_
  refine LV.m dL_law_608 ?_
  refine LV.arg 1 (by decide) hL hLm dL_law_609 dL_law_610 dL_law_611 dL_law_612 dL_law_613 ?_
  refine LV.callM (hm2 := hm2) (As := [.inl (xs (i + 1)).toInt]) (st := [.inl r]) (v := .inl r) dL_law_614 md_X10_piece ml_L_57 im_X10_piece se_X10_piece (tX10_piece (by decide) e2) rfl (fun _ _ _ => rfl) (fun v hv => Or.inl (by simp only [List.mem_cons, List.not_mem_nil, or_false] at hv; rcases hv with rfl <;> intro n <;> first | exact pv_rg _ | exact pv_rgl _ | (show _ ∧ _; split <;> decide))) (fun v hv => by simp at hv ⊢; simp [hv]) (fun _ _ _ => rfl) (fun _ z => z) (Nat.le_of_ble_eq_true rfl) ?_
  refine LV.eq (tgt := 2019) dL_law_617 (by decide) ?_
  exact k hc2 hm2 hS2

theorem lc_wave {S : pv_H → pv_H → Prop} {L : Nat} {xs : Nat → Int32} {i : Nat} {hc hm : pv_H} (hL : i + 6 ≤ L) (hLm : L ≤ 3072) (hs : sm_wave S) (hS : S hc hm) (k : ∀ hc2 hm2, S hc2 hm2 → LV L xs 2019 i [] hc2 hm2) : LV L xs 622 i [] hc hm := by
  obtain ⟨hc2, hm2, r, e1, e2, hS2⟩ := hs hc hm hS (xs (i + 1)).toInt (xs (i + 2)).toInt (pv_rg _) (pv_rg _)
  refine LV.x dL_law_622 ?_
  refine LV.arg 1 (by decide) hL hLm dL_law_623 dL_law_624 dL_law_625 dL_law_626 dL_law_627 ?_
  refine LV.arg 2 (by decide) hL hLm dL_law_628 dL_law_629 dL_law_630 dL_law_631 dL_law_632 ?_
  refine LV.callC (hc2 := hc2) (As := [.inl (xs (i + 1)).toInt, .inl (xs (i + 2)).toInt]) (st := []) (v := .inl r) dL_law_633 md_X9_wave ml_L_58 im_X9_wave se_X9_wave (tX9_wave (by decide) e1) rfl (fun _ _ _ => rfl) (fun v hv => Or.inl (by simp only [List.mem_cons, List.not_mem_nil, or_false] at hv; rcases hv with rfl | rfl <;> intro n <;> first | exact pv_rg _ | exact pv_rgl _ | (show _ ∧ _; split <;> decide))) (fun v hv => by cases hv) (fun _ _ _ => rfl) (fun _ z => z) (by decide) ?_
  refine LV.m dL_law_636 ?_
  refine LV.arg 1 (by decide) hL hLm dL_law_637 dL_law_638 dL_law_639 dL_law_640 dL_law_641 ?_
  refine LV.arg 2 (by decide) hL hLm dL_law_642 dL_law_643 dL_law_644 dL_law_645 dL_law_646 ?_
  refine LV.callM (hm2 := hm2) (As := [.inl (xs (i + 1)).toInt, .inl (xs (i + 2)).toInt]) (st := [.inl r]) (v := .inl r) dL_law_647 md_X10_wave ml_L_61 im_X10_wave se_X10_wave (tX10_wave (by decide) e2) rfl (fun _ _ _ => rfl) (fun v hv => Or.inl (by simp only [List.mem_cons, List.not_mem_nil, or_false] at hv; rcases hv with rfl | rfl <;> intro n <;> first | exact pv_rg _ | exact pv_rgl _ | (show _ ∧ _; split <;> decide))) (fun v hv => by simp at hv ⊢; simp [hv]) (fun _ _ _ => rfl) (fun _ z => z) (Nat.le_of_ble_eq_true rfl) ?_
  refine LV.eq (tgt := 2019) dL_law_650 (by decide) ?_
  exact k hc2 hm2 hS2

theorem lc_run {S : pv_H → pv_H → Prop} {L : Nat} {xs : Nat → Int32} {i : Nat} {hc hm : pv_H} (hL : i + 6 ≤ L) (hLm : L ≤ 3072) (hs : sm_run S) (hS : S hc hm) (k : ∀ hc2 hm2, S hc2 hm2 → LV L xs 2019 i [] hc2 hm2) : LV L xs 655 i [] hc hm := by
  obtain ⟨hc2, hm2, r, e1, e2, hS2⟩ := hs hc hm hS (xs (i + 1)).toInt (pv_rg _)
  refine LV.x dL_law_655 ?_
  refine LV.arg 1 (by decide) hL hLm dL_law_656 dL_law_657 dL_law_658 dL_law_659 dL_law_660 ?_
  refine LV.callC (hc2 := hc2) (As := [.inl (xs (i + 1)).toInt]) (st := []) (v := .inl r) dL_law_661 md_X9_run ml_L_62 im_X9_run se_X9_run (tX9_run (by decide) e1) rfl (fun _ _ _ => rfl) (fun v hv => Or.inl (by simp only [List.mem_cons, List.not_mem_nil, or_false] at hv; rcases hv with rfl <;> intro n <;> first | exact pv_rg _ | exact pv_rgl _ | (show _ ∧ _; split <;> decide))) (fun v hv => by cases hv) (fun _ _ _ => rfl) (fun _ z => z) (by decide) ?_
  refine LV.m dL_law_664 ?_
  refine LV.arg 1 (by decide) hL hLm dL_law_665 dL_law_666 dL_law_667 dL_law_668 dL_law_669 ?_
  refine LV.callM (hm2 := hm2) (As := [.inl (xs (i + 1)).toInt]) (st := [.inl r]) (v := .inl r) dL_law_670 md_X10_run ml_L_65 im_X10_run se_X10_run (tX10_run (by decide) e2) rfl (fun _ _ _ => rfl) (fun v hv => Or.inl (by simp only [List.mem_cons, List.not_mem_nil, or_false] at hv; rcases hv with rfl <;> intro n <;> first | exact pv_rg _ | exact pv_rgl _ | (show _ ∧ _; split <;> decide))) (fun v hv => by simp at hv ⊢; simp [hv]) (fun _ _ _ => rfl) (fun _ z => z) (Nat.le_of_ble_eq_true rfl) ?_
  refine LV.eq (tgt := 2019) dL_law_673 (by decide) ?_
  exact k hc2 hm2 hS2

theorem lc_why {S : pv_H → pv_H → Prop} {L : Nat} {xs : Nat → Int32} {i : Nat} {hc hm : pv_H} (hL : i + 6 ≤ L) (hLm : L ≤ 3072) (hs : sm_why S) (hS : S hc hm) (k : ∀ hc2 hm2, S hc2 hm2 → LV L xs 2019 i [] hc2 hm2) : LV L xs 678 i [] hc hm := by
  obtain ⟨hc2, hm2, r, e1, e2, hS2⟩ := hs hc hm hS  
  refine LV.x dL_law_678 ?_
  refine LV.callC (hc2 := hc2) (As := []) (st := []) (v := .inl r) dL_law_679 md_X9_why ml_L_66 im_X9_why se_X9_why (tX9_why (by decide) e1) rfl (fun _ _ _ => rfl) (fun v hv => by cases hv) (fun v hv => by cases hv) (fun _ _ _ => rfl) (fun _ z => z) (by decide) ?_
  refine LV.m dL_law_682 ?_
  refine LV.callM (hm2 := hm2) (As := []) (st := [.inl r]) (v := .inl r) dL_law_683 md_X10_why ml_L_70 im_X10_why se_X10_why (tX10_why (by decide) e2) rfl (fun _ _ _ => rfl) (fun v hv => by cases hv) (fun v hv => by simp at hv ⊢; simp [hv]) (fun _ _ _ => rfl) (fun _ z => z) (Nat.le_of_ble_eq_true rfl) ?_
  refine LV.eq (tgt := 2019) dL_law_686 (by decide) ?_
  exact k hc2 hm2 hS2

theorem lc_film {S : pv_H → pv_H → Prop} {L : Nat} {xs : Nat → Int32} {i : Nat} {hc hm : pv_H} (hL : i + 6 ≤ L) (hLm : L ≤ 3072) (hs : sm_film S) (hS : S hc hm) (k : ∀ hc2 hm2, S hc2 hm2 → LV L xs 2019 i [] hc2 hm2) : LV L xs 691 i [] hc hm := by
  obtain ⟨hc2, hm2, r, e1, e2, hS2⟩ := hs hc hm hS (xs (i + 1)).toInt (pv_rg _)
  refine LV.x dL_law_691 ?_
  refine LV.arg 1 (by decide) hL hLm dL_law_692 dL_law_693 dL_law_694 dL_law_695 dL_law_696 ?_
  refine LV.callC (hc2 := hc2) (As := [.inl (xs (i + 1)).toInt]) (st := []) (v := .inl r) dL_law_697 md_X9_film ml_L_71 im_X9_film se_X9_film (tX9_film (by decide) e1) rfl (fun _ _ _ => rfl) (fun v hv => Or.inl (by simp only [List.mem_cons, List.not_mem_nil, or_false] at hv; rcases hv with rfl <;> intro n <;> first | exact pv_rg _ | exact pv_rgl _ | (show _ ∧ _; split <;> decide))) (fun v hv => by cases hv) (fun _ _ _ => rfl) (fun _ z => z) (by decide) ?_
  refine LV.m dL_law_700 ?_
  refine LV.arg 1 (by decide) hL hLm dL_law_701 dL_law_702 dL_law_703 dL_law_704 dL_law_705 ?_
  refine LV.callM (hm2 := hm2) (As := [.inl (xs (i + 1)).toInt]) (st := [.inl r]) (v := .inl r) dL_law_706 md_X10_film ml_L_74 im_X10_film se_X10_film (tX10_film (by decide) e2) rfl (fun _ _ _ => rfl) (fun v hv => Or.inl (by simp only [List.mem_cons, List.not_mem_nil, or_false] at hv; rcases hv with rfl <;> intro n <;> first | exact pv_rg _ | exact pv_rgl _ | (show _ ∧ _; split <;> decide))) (fun v hv => by simp at hv ⊢; simp [hv]) (fun _ _ _ => rfl) (fun _ z => z) (Nat.le_of_ble_eq_true rfl) ?_
  refine LV.eq (tgt := 2019) dL_law_709 (by decide) ?_
  exact k hc2 hm2 hS2

theorem lc_beyond {S : pv_H → pv_H → Prop} {L : Nat} {xs : Nat → Int32} {i : Nat} {hc hm : pv_H} (hL : i + 6 ≤ L) (hLm : L ≤ 3072) (hs : sm_beyond S) (hS : S hc hm) (k : ∀ hc2 hm2, S hc2 hm2 → LV L xs 2019 i [] hc2 hm2) : LV L xs 714 i [] hc hm := by
  obtain ⟨hc2, hm2, r, e1, e2, hS2⟩ := hs hc hm hS (xs (i + 1)).toInt (xs (i + 2)).toInt (xs (i + 3)).toInt (xs (i + 4)).toInt (pv_rg _) (pv_rg _) (pv_rg _) (pv_rg _)
  refine LV.x dL_law_714 ?_
  refine LV.arg 1 (by decide) hL hLm dL_law_715 dL_law_716 dL_law_717 dL_law_718 dL_law_719 ?_
  refine LV.arg 2 (by decide) hL hLm dL_law_720 dL_law_721 dL_law_722 dL_law_723 dL_law_724 ?_
  refine LV.arg 3 (by decide) hL hLm dL_law_725 dL_law_726 dL_law_727 dL_law_728 dL_law_729 ?_
  refine LV.arg 4 (by decide) hL hLm dL_law_730 dL_law_731 dL_law_732 dL_law_733 dL_law_734 ?_
  refine LV.callC (hc2 := hc2) (As := [.inl (xs (i + 1)).toInt, .inl (xs (i + 2)).toInt, .inl (xs (i + 3)).toInt, .inl (xs (i + 4)).toInt]) (st := []) (v := .inl r) dL_law_735 md_X9_beyond ml_L_75 im_X9_beyond se_X9_beyond (tX9_beyond (by decide) e1) rfl (fun _ _ _ => rfl) (fun v hv => Or.inl (by simp only [List.mem_cons, List.not_mem_nil, or_false] at hv; rcases hv with rfl | rfl | rfl | rfl <;> intro n <;> first | exact pv_rg _ | exact pv_rgl _ | (show _ ∧ _; split <;> decide))) (fun v hv => by cases hv) (fun _ _ _ => rfl) (fun _ z => z) (by decide) ?_
  refine LV.m dL_law_738 ?_
  refine LV.arg 1 (by decide) hL hLm dL_law_739 dL_law_740 dL_law_741 dL_law_742 dL_law_743 ?_
  refine LV.arg 2 (by decide) hL hLm dL_law_744 dL_law_745 dL_law_746 dL_law_747 dL_law_748 ?_
  refine LV.arg 3 (by decide) hL hLm dL_law_749 dL_law_750 dL_law_751 dL_law_752 dL_law_753 ?_
  refine LV.arg 4 (by decide) hL hLm dL_law_754 dL_law_755 dL_law_756 dL_law_757 dL_law_758 ?_
  refine LV.callM (hm2 := hm2) (As := [.inl (xs (i + 1)).toInt, .inl (xs (i + 2)).toInt, .inl (xs (i + 3)).toInt, .inl (xs (i + 4)).toInt]) (st := [.inl r]) (v := .inl r) dL_law_759 md_X10_beyond ml_L_79 im_X10_beyond se_X10_beyond (tX10_beyond (by decide) e2) rfl (fun _ _ _ => rfl) (fun v hv => Or.inl (by simp only [List.mem_cons, List.not_mem_nil, or_false] at hv; rcases hv with rfl | rfl | rfl | rfl <;> intro n <;> first | exact pv_rg _ | exact pv_rgl _ | (show _ ∧ _; split <;> decide))) (fun v hv => by simp at hv ⊢; simp [hv]) (fun _ _ _ => rfl) (fun _ z => z) (Nat.le_of_ble_eq_true rfl) ?_
  refine LV.eq (tgt := 2019) dL_law_762 (by decide) ?_
  exact k hc2 hm2 hS2

theorem lc_odds {S : pv_H → pv_H → Prop} {L : Nat} {xs : Nat → Int32} {i : Nat} {hc hm : pv_H} (hL : i + 6 ≤ L) (hLm : L ≤ 3072) (hs : sm_odds S) (hS : S hc hm) (k : ∀ hc2 hm2, S hc2 hm2 → LV L xs 2019 i [] hc2 hm2) : LV L xs 767 i [] hc hm := by
  obtain ⟨hc2, hm2, r, e1, e2, hS2⟩ := hs hc hm hS (xs (i + 1)).toInt (xs (i + 2)).toInt (xs (i + 3)).toInt (xs (i + 4)).toInt (pv_rg _) (pv_rg _) (pv_rg _) (pv_rg _)
  refine LV.x dL_law_767 ?_
  refine LV.arg 1 (by decide) hL hLm dL_law_768 dL_law_769 dL_law_770 dL_law_771 dL_law_772 ?_
  refine LV.arg 2 (by decide) hL hLm dL_law_773 dL_law_774 dL_law_775 dL_law_776 dL_law_777 ?_
  refine LV.arg 3 (by decide) hL hLm dL_law_778 dL_law_779 dL_law_780 dL_law_781 dL_law_782 ?_
  refine LV.arg 4 (by decide) hL hLm dL_law_783 dL_law_784 dL_law_785 dL_law_786 dL_law_787 ?_
  refine LV.callC (hc2 := hc2) (As := [.inl (xs (i + 1)).toInt, .inl (xs (i + 2)).toInt, .inl (xs (i + 3)).toInt, .inl (xs (i + 4)).toInt]) (st := []) (v := .inl r) dL_law_788 md_X9_odds ml_L_80 im_X9_odds se_X9_odds (tX9_odds (by decide) e1) rfl (fun _ _ _ => rfl) (fun v hv => Or.inl (by simp only [List.mem_cons, List.not_mem_nil, or_false] at hv; rcases hv with rfl | rfl | rfl | rfl <;> intro n <;> first | exact pv_rg _ | exact pv_rgl _ | (show _ ∧ _; split <;> decide))) (fun v hv => by cases hv) (fun _ _ _ => rfl) (fun _ z => z) (by decide) ?_
  refine LV.m dL_law_791 ?_
  refine LV.arg 1 (by decide) hL hLm dL_law_792 dL_law_793 dL_law_794 dL_law_795 dL_law_796 ?_
  refine LV.arg 2 (by decide) hL hLm dL_law_797 dL_law_798 dL_law_799 dL_law_800 dL_law_801 ?_
  refine LV.arg 3 (by decide) hL hLm dL_law_802 dL_law_803 dL_law_804 dL_law_805 dL_law_806 ?_
  refine LV.arg 4 (by decide) hL hLm dL_law_807 dL_law_808 dL_law_809 dL_law_810 dL_law_811 ?_
  refine LV.callM (hm2 := hm2) (As := [.inl (xs (i + 1)).toInt, .inl (xs (i + 2)).toInt, .inl (xs (i + 3)).toInt, .inl (xs (i + 4)).toInt]) (st := [.inl r]) (v := .inl r) dL_law_812 md_X10_odds ml_L_83 im_X10_odds se_X10_odds (tX10_odds (by decide) e2) rfl (fun _ _ _ => rfl) (fun v hv => Or.inl (by simp only [List.mem_cons, List.not_mem_nil, or_false] at hv; rcases hv with rfl | rfl | rfl | rfl <;> intro n <;> first | exact pv_rg _ | exact pv_rgl _ | (show _ ∧ _; split <;> decide))) (fun v hv => by simp at hv ⊢; simp [hv]) (fun _ _ _ => rfl) (fun _ z => z) (Nat.le_of_ble_eq_true rfl) ?_
  refine LV.eq (tgt := 2019) dL_law_815 (by decide) ?_
  exact k hc2 hm2 hS2

theorem lc_ends {S : pv_H → pv_H → Prop} {L : Nat} {xs : Nat → Int32} {i : Nat} {hc hm : pv_H} (hL : i + 6 ≤ L) (hLm : L ≤ 3072) (hs : sm_ends S) (hS : S hc hm) (k : ∀ hc2 hm2, S hc2 hm2 → LV L xs 2019 i [] hc2 hm2) : LV L xs 820 i [] hc hm := by
  obtain ⟨hc2, hm2, r, e1, e2, hS2⟩ := hs hc hm hS (xs (i + 1)).toInt (xs (i + 2)).toInt (xs (i + 3)).toInt (xs (i + 4)).toInt (pv_rg _) (pv_rg _) (pv_rg _) (pv_rg _)
  refine LV.x dL_law_820 ?_
  refine LV.arg 1 (by decide) hL hLm dL_law_821 dL_law_822 dL_law_823 dL_law_824 dL_law_825 ?_
  refine LV.arg 2 (by decide) hL hLm dL_law_826 dL_law_827 dL_law_828 dL_law_829 dL_law_830 ?_
  refine LV.arg 3 (by decide) hL hLm dL_law_831 dL_law_832 dL_law_833 dL_law_834 dL_law_835 ?_
  refine LV.arg 4 (by decide) hL hLm dL_law_836 dL_law_837 dL_law_838 dL_law_839 dL_law_840 ?_
  refine LV.callC (hc2 := hc2) (As := [.inl (xs (i + 1)).toInt, .inl (xs (i + 2)).toInt, .inl (xs (i + 3)).toInt, .inl (xs (i + 4)).toInt]) (st := []) (v := .inl r) dL_law_841 md_X9_ends ml_L_84 im_X9_ends se_X9_ends (tX9_ends (by decide) e1) rfl (fun _ _ _ => rfl) (fun v hv => Or.inl (by simp only [List.mem_cons, List.not_mem_nil, or_false] at hv; rcases hv with rfl | rfl | rfl | rfl <;> intro n <;> first | exact pv_rg _ | exact pv_rgl _ | (show _ ∧ _; split <;> decide))) (fun v hv => by cases hv) (fun _ _ _ => rfl) (fun _ z => z) (by decide) ?_
  refine LV.m dL_law_844 ?_
  refine LV.arg 1 (by decide) hL hLm dL_law_845 dL_law_846 dL_law_847 dL_law_848 dL_law_849 ?_
  refine LV.arg 2 (by decide) hL hLm dL_law_850 dL_law_851 dL_law_852 dL_law_853 dL_law_854 ?_
  refine LV.arg 3 (by decide) hL hLm dL_law_855 dL_law_856 dL_law_857 dL_law_858 dL_law_859 ?_
  refine LV.arg 4 (by decide) hL hLm dL_law_860 dL_law_861 dL_law_862 dL_law_863 dL_law_864 ?_
  refine LV.callM (hm2 := hm2) (As := [.inl (xs (i + 1)).toInt, .inl (xs (i + 2)).toInt, .inl (xs (i + 3)).toInt, .inl (xs (i + 4)).toInt]) (st := [.inl r]) (v := .inl r) dL_law_865 md_X10_ends ml_L_87 im_X10_ends se_X10_ends (tX10_ends (by decide) e2) rfl (fun _ _ _ => rfl) (fun v hv => Or.inl (by simp only [List.mem_cons, List.not_mem_nil, or_false] at hv; rcases hv with rfl | rfl | rfl | rfl <;> intro n <;> first | exact pv_rg _ | exact pv_rgl _ | (show _ ∧ _; split <;> decide))) (fun v hv => by simp at hv ⊢; simp [hv]) (fun _ _ _ => rfl) (fun _ z => z) (Nat.le_of_ble_eq_true rfl) ?_
  refine LV.eq (tgt := 2019) dL_law_868 (by decide) ?_
  exact k hc2 hm2 hS2

theorem lc_paced {S : pv_H → pv_H → Prop} {L : Nat} {xs : Nat → Int32} {i : Nat} {hc hm : pv_H} (hL : i + 6 ≤ L) (hLm : L ≤ 3072) (hs : sm_paced S) (hS : S hc hm) (k : ∀ hc2 hm2, S hc2 hm2 → LV L xs 2019 i [] hc2 hm2) : LV L xs 873 i [] hc hm := by
  obtain ⟨hc2, hm2, r, e1, e2, hS2⟩ := hs hc hm hS (xs (i + 1)).toInt (xs (i + 2)).toInt (xs (i + 3)).toInt (xs (i + 4)).toInt (pv_rg _) (pv_rg _) (pv_rg _) (pv_rg _)
  refine LV.x dL_law_873 ?_
  refine LV.arg 1 (by decide) hL hLm dL_law_874 dL_law_875 dL_law_876 dL_law_877 dL_law_878 ?_
  refine LV.arg 2 (by decide) hL hLm dL_law_879 dL_law_880 dL_law_881 dL_law_882 dL_law_883 ?_
  refine LV.arg 3 (by decide) hL hLm dL_law_884 dL_law_885 dL_law_886 dL_law_887 dL_law_888 ?_
  refine LV.arg 4 (by decide) hL hLm dL_law_889 dL_law_890 dL_law_891 dL_law_892 dL_law_893 ?_
  refine LV.callC (hc2 := hc2) (As := [.inl (xs (i + 1)).toInt, .inl (xs (i + 2)).toInt, .inl (xs (i + 3)).toInt, .inl (xs (i + 4)).toInt]) (st := []) (v := .inl r) dL_law_894 md_X9_paced ml_L_88 im_X9_paced se_X9_paced (tX9_paced (by decide) e1) rfl (fun _ _ _ => rfl) (fun v hv => Or.inl (by simp only [List.mem_cons, List.not_mem_nil, or_false] at hv; rcases hv with rfl | rfl | rfl | rfl <;> intro n <;> first | exact pv_rg _ | exact pv_rgl _ | (show _ ∧ _; split <;> decide))) (fun v hv => by cases hv) (fun _ _ _ => rfl) (fun _ z => z) (by decide) ?_
  refine LV.m dL_law_897 ?_
  refine LV.arg 1 (by decide) hL hLm dL_law_898 dL_law_899 dL_law_900 dL_law_901 dL_law_902 ?_
  refine LV.arg 2 (by decide) hL hLm dL_law_903 dL_law_904 dL_law_905 dL_law_906 dL_law_907 ?_
  refine LV.arg 3 (by decide) hL hLm dL_law_908 dL_law_909 dL_law_910 dL_law_911 dL_law_912 ?_
  refine LV.arg 4 (by decide) hL hLm dL_law_913 dL_law_914 dL_law_915 dL_law_916 dL_law_917 ?_
  refine LV.callM (hm2 := hm2) (As := [.inl (xs (i + 1)).toInt, .inl (xs (i + 2)).toInt, .inl (xs (i + 3)).toInt, .inl (xs (i + 4)).toInt]) (st := [.inl r]) (v := .inl r) dL_law_918 md_X10_paced ml_L_91 im_X10_paced se_X10_paced (tX10_paced (by decide) e2) rfl (fun _ _ _ => rfl) (fun v hv => Or.inl (by simp only [List.mem_cons, List.not_mem_nil, or_false] at hv; rcases hv with rfl | rfl | rfl | rfl <;> intro n <;> first | exact pv_rg _ | exact pv_rgl _ | (show _ ∧ _; split <;> decide))) (fun v hv => by simp at hv ⊢; simp [hv]) (fun _ _ _ => rfl) (fun _ z => z) (Nat.le_of_ble_eq_true rfl) ?_
  refine LV.eq (tgt := 2019) dL_law_921 (by decide) ?_
  exact k hc2 hm2 hS2

theorem lc_turned {S : pv_H → pv_H → Prop} {L : Nat} {xs : Nat → Int32} {i : Nat} {hc hm : pv_H} (hL : i + 6 ≤ L) (hLm : L ≤ 3072) (hs : sm_turned S) (hS : S hc hm) (k : ∀ hc2 hm2, S hc2 hm2 → LV L xs 2019 i [] hc2 hm2) : LV L xs 926 i [] hc hm := by
  obtain ⟨hc2, hm2, r, e1, e2, hS2⟩ := hs hc hm hS (xs (i + 1)).toInt (xs (i + 2)).toInt (xs (i + 3)).toInt (xs (i + 4)).toInt (pv_rg _) (pv_rg _) (pv_rg _) (pv_rg _)
  refine LV.x dL_law_926 ?_
  refine LV.arg 1 (by decide) hL hLm dL_law_927 dL_law_928 dL_law_929 dL_law_930 dL_law_931 ?_
  refine LV.arg 2 (by decide) hL hLm dL_law_932 dL_law_933 dL_law_934 dL_law_935 dL_law_936 ?_
  refine LV.arg 3 (by decide) hL hLm dL_law_937 dL_law_938 dL_law_939 dL_law_940 dL_law_941 ?_
  refine LV.arg 4 (by decide) hL hLm dL_law_942 dL_law_943 dL_law_944 dL_law_945 dL_law_946 ?_
  refine LV.callC (hc2 := hc2) (As := [.inl (xs (i + 1)).toInt, .inl (xs (i + 2)).toInt, .inl (xs (i + 3)).toInt, .inl (xs (i + 4)).toInt]) (st := []) (v := .inl r) dL_law_947 md_X9_turned ml_L_92 im_X9_turned se_X9_turned (tX9_turned (by decide) e1) rfl (fun _ _ _ => rfl) (fun v hv => Or.inl (by simp only [List.mem_cons, List.not_mem_nil, or_false] at hv; rcases hv with rfl | rfl | rfl | rfl <;> intro n <;> first | exact pv_rg _ | exact pv_rgl _ | (show _ ∧ _; split <;> decide))) (fun v hv => by cases hv) (fun _ _ _ => rfl) (fun _ z => z) (by decide) ?_
  refine LV.m dL_law_950 ?_
  refine LV.arg 1 (by decide) hL hLm dL_law_951 dL_law_952 dL_law_953 dL_law_954 dL_law_955 ?_
  refine LV.arg 2 (by decide) hL hLm dL_law_956 dL_law_957 dL_law_958 dL_law_959 dL_law_960 ?_
  refine LV.arg 3 (by decide) hL hLm dL_law_961 dL_law_962 dL_law_963 dL_law_964 dL_law_965 ?_
  refine LV.arg 4 (by decide) hL hLm dL_law_966 dL_law_967 dL_law_968 dL_law_969 dL_law_970 ?_
  refine LV.callM (hm2 := hm2) (As := [.inl (xs (i + 1)).toInt, .inl (xs (i + 2)).toInt, .inl (xs (i + 3)).toInt, .inl (xs (i + 4)).toInt]) (st := [.inl r]) (v := .inl r) dL_law_971 md_X10_turned ml_L_95 im_X10_turned se_X10_turned (tX10_turned (by decide) e2) rfl (fun _ _ _ => rfl) (fun v hv => Or.inl (by simp only [List.mem_cons, List.not_mem_nil, or_false] at hv; rcases hv with rfl | rfl | rfl | rfl <;> intro n <;> first | exact pv_rg _ | exact pv_rgl _ | (show _ ∧ _; split <;> decide))) (fun v hv => by simp at hv ⊢; simp [hv]) (fun _ _ _ => rfl) (fun _ z => z) (Nat.le_of_ble_eq_true rfl) ?_
  refine LV.eq (tgt := 2019) dL_law_974 (by decide) ?_
  exact k hc2 hm2 hS2

theorem lc_least {S : pv_H → pv_H → Prop} {L : Nat} {xs : Nat → Int32} {i : Nat} {hc hm : pv_H} (hL : i + 6 ≤ L) (hLm : L ≤ 3072) (hs : sm_least S) (hS : S hc hm) (k : ∀ hc2 hm2, S hc2 hm2 → LV L xs 2019 i [] hc2 hm2) : LV L xs 979 i [] hc hm := by
  obtain ⟨hc2, hm2, r, e1, e2, hS2⟩ := hs hc hm hS (xs (i + 1)).toInt (xs (i + 2)).toInt (xs (i + 3)).toInt (pv_rg _) (pv_rg _) (pv_rg _)
  refine LV.x dL_law_979 ?_
  refine LV.arg 1 (by decide) hL hLm dL_law_980 dL_law_981 dL_law_982 dL_law_983 dL_law_984 ?_
  refine LV.arg 2 (by decide) hL hLm dL_law_985 dL_law_986 dL_law_987 dL_law_988 dL_law_989 ?_
  refine LV.arg 3 (by decide) hL hLm dL_law_990 dL_law_991 dL_law_992 dL_law_993 dL_law_994 ?_
  refine LV.callC (hc2 := hc2) (As := [.inl (xs (i + 1)).toInt, .inl (xs (i + 2)).toInt, .inl (xs (i + 3)).toInt]) (st := []) (v := .inl r) dL_law_995 md_X9_least ml_L_96 im_X9_least se_X9_least (tX9_least (by decide) e1) rfl (fun _ _ _ => rfl) (fun v hv => Or.inl (by simp only [List.mem_cons, List.not_mem_nil, or_false] at hv; rcases hv with rfl | rfl | rfl <;> intro n <;> first | exact pv_rg _ | exact pv_rgl _ | (show _ ∧ _; split <;> decide))) (fun v hv => by cases hv) (fun _ _ _ => rfl) (fun _ z => z) (by decide) ?_
  refine LV.m dL_law_998 ?_
  refine LV.arg 1 (by decide) hL hLm dL_law_999 dL_law_1000 dL_law_1001 dL_law_1002 dL_law_1003 ?_
  refine LV.arg 2 (by decide) hL hLm dL_law_1004 dL_law_1005 dL_law_1006 dL_law_1007 dL_law_1008 ?_
  refine LV.arg 3 (by decide) hL hLm dL_law_1009 dL_law_1010 dL_law_1011 dL_law_1012 dL_law_1013 ?_
  refine LV.callM (hm2 := hm2) (As := [.inl (xs (i + 1)).toInt, .inl (xs (i + 2)).toInt, .inl (xs (i + 3)).toInt]) (st := [.inl r]) (v := .inl r) dL_law_1014 md_X10_least ml_L_99 im_X10_least se_X10_least (tX10_least (by decide) e2) rfl (fun _ _ _ => rfl) (fun v hv => Or.inl (by simp only [List.mem_cons, List.not_mem_nil, or_false] at hv; rcases hv with rfl | rfl | rfl <;> intro n <;> first | exact pv_rg _ | exact pv_rgl _ | (show _ ∧ _; split <;> decide))) (fun v hv => by simp at hv ⊢; simp [hv]) (fun _ _ _ => rfl) (fun _ z => z) (Nat.le_of_ble_eq_true rfl) ?_
  refine LV.eq (tgt := 2019) dL_law_1017 (by decide) ?_
  exact k hc2 hm2 hS2

theorem lc_line {S : pv_H → pv_H → Prop} {L : Nat} {xs : Nat → Int32} {i : Nat} {hc hm : pv_H} (hL : i + 6 ≤ L) (hLm : L ≤ 3072) (hs : sm_line S) (hS : S hc hm) (k : ∀ hc2 hm2, S hc2 hm2 → LV L xs 2019 i [] hc2 hm2) : LV L xs 1022 i [] hc hm := by
  obtain ⟨hc2, hm2, r, e1, e2, hS2⟩ := hs hc hm hS (xs (i + 1)).toInt (xs (i + 2)).toInt (xs (i + 3)).toInt (xs (i + 4)).toInt (pv_rg _) (pv_rg _) (pv_rg _) (pv_rg _)
  refine LV.x dL_law_1022 ?_
  refine LV.arg 1 (by decide) hL hLm dL_law_1023 dL_law_1024 dL_law_1025 dL_law_1026 dL_law_1027 ?_
  refine LV.arg 2 (by decide) hL hLm dL_law_1028 dL_law_1029 dL_law_1030 dL_law_1031 dL_law_1032 ?_
  refine LV.arg 3 (by decide) hL hLm dL_law_1033 dL_law_1034 dL_law_1035 dL_law_1036 dL_law_1037 ?_
  refine LV.arg 4 (by decide) hL hLm dL_law_1038 dL_law_1039 dL_law_1040 dL_law_1041 dL_law_1042 ?_
  refine LV.callC (hc2 := hc2) (As := [.inl (xs (i + 1)).toInt, .inl (xs (i + 2)).toInt, .inl (xs (i + 3)).toInt, .inl (xs (i + 4)).toInt]) (st := []) (v := .inl r) dL_law_1043 md_X9_line ml_L_100 im_X9_line se_X9_line (tX9_line (by decide) e1) rfl (fun _ _ _ => rfl) (fun v hv => Or.inl (by simp only [List.mem_cons, List.not_mem_nil, or_false] at hv; rcases hv with rfl | rfl | rfl | rfl <;> intro n <;> first | exact pv_rg _ | exact pv_rgl _ | (show _ ∧ _; split <;> decide))) (fun v hv => by cases hv) (fun _ _ _ => rfl) (fun _ z => z) (by decide) ?_
  refine LV.m dL_law_1046 ?_
  refine LV.arg 1 (by decide) hL hLm dL_law_1047 dL_law_1048 dL_law_1049 dL_law_1050 dL_law_1051 ?_
  refine LV.arg 2 (by decide) hL hLm dL_law_1052 dL_law_1053 dL_law_1054 dL_law_1055 dL_law_1056 ?_
  refine LV.arg 3 (by decide) hL hLm dL_law_1057 dL_law_1058 dL_law_1059 dL_law_1060 dL_law_1061 ?_
  refine LV.arg 4 (by decide) hL hLm dL_law_1062 dL_law_1063 dL_law_1064 dL_law_1065 dL_law_1066 ?_
  refine LV.callM (hm2 := hm2) (As := [.inl (xs (i + 1)).toInt, .inl (xs (i + 2)).toInt, .inl (xs (i + 3)).toInt, .inl (xs (i + 4)).toInt]) (st := [.inl r]) (v := .inl r) dL_law_1067 md_X10_line ml_L_103 im_X10_line se_X10_line (tX10_line (by decide) e2) rfl (fun _ _ _ => rfl) (fun v hv => Or.inl (by simp only [List.mem_cons, List.not_mem_nil, or_false] at hv; rcases hv with rfl | rfl | rfl | rfl <;> intro n <;> first | exact pv_rg _ | exact pv_rgl _ | (show _ ∧ _; split <;> decide))) (fun v hv => by simp at hv ⊢; simp [hv]) (fun _ _ _ => rfl) (fun _ z => z) (Nat.le_of_ble_eq_true rfl) ?_
  refine LV.eq (tgt := 2019) dL_law_1070 (by decide) ?_
  exact k hc2 hm2 hS2

theorem lc_notched {S : pv_H → pv_H → Prop} {L : Nat} {xs : Nat → Int32} {i : Nat} {hc hm : pv_H} (hL : i + 6 ≤ L) (hLm : L ≤ 3072) (hs : sm_notched S) (hS : S hc hm) (k : ∀ hc2 hm2, S hc2 hm2 → LV L xs 2019 i [] hc2 hm2) : LV L xs 1075 i [] hc hm := by
  obtain ⟨hc2, hm2, r, e1, e2, hS2⟩ := hs hc hm hS (xs (i + 1)).toInt (xs (i + 2)).toInt (xs (i + 3)).toInt (xs (i + 4)).toInt (xs (i + 5)).toInt (pv_rg _) (pv_rg _) (pv_rg _) (pv_rg _) (pv_rg _)
  refine LV.x dL_law_1075 ?_
  refine LV.arg 1 (by decide) hL hLm dL_law_1076 dL_law_1077 dL_law_1078 dL_law_1079 dL_law_1080 ?_
  refine LV.arg 2 (by decide) hL hLm dL_law_1081 dL_law_1082 dL_law_1083 dL_law_1084 dL_law_1085 ?_
  refine LV.arg 3 (by decide) hL hLm dL_law_1086 dL_law_1087 dL_law_1088 dL_law_1089 dL_law_1090 ?_
  refine LV.arg 4 (by decide) hL hLm dL_law_1091 dL_law_1092 dL_law_1093 dL_law_1094 dL_law_1095 ?_
  refine LV.arg 5 (by decide) hL hLm dL_law_1096 dL_law_1097 dL_law_1098 dL_law_1099 dL_law_1100 ?_
  refine LV.callC (hc2 := hc2) (As := [.inl (xs (i + 1)).toInt, .inl (xs (i + 2)).toInt, .inl (xs (i + 3)).toInt, .inl (xs (i + 4)).toInt, .inl (xs (i + 5)).toInt]) (st := []) (v := .inl r) dL_law_1101 md_X9_notched ml_L_104 im_X9_notched se_X9_notched (tX9_notched (by decide) e1) rfl (fun _ _ _ => rfl) (fun v hv => Or.inl (by simp only [List.mem_cons, List.not_mem_nil, or_false] at hv; rcases hv with rfl | rfl | rfl | rfl | rfl <;> intro n <;> first | exact pv_rg _ | exact pv_rgl _ | (show _ ∧ _; split <;> decide))) (fun v hv => by cases hv) (fun _ _ _ => rfl) (fun _ z => z) (by decide) ?_
  refine LV.m dL_law_1104 ?_
  refine LV.arg 1 (by decide) hL hLm dL_law_1105 dL_law_1106 dL_law_1107 dL_law_1108 dL_law_1109 ?_
  refine LV.arg 2 (by decide) hL hLm dL_law_1110 dL_law_1111 dL_law_1112 dL_law_1113 dL_law_1114 ?_
  refine LV.arg 3 (by decide) hL hLm dL_law_1115 dL_law_1116 dL_law_1117 dL_law_1118 dL_law_1119 ?_
  refine LV.arg 4 (by decide) hL hLm dL_law_1120 dL_law_1121 dL_law_1122 dL_law_1123 dL_law_1124 ?_
  refine LV.arg 5 (by decide) hL hLm dL_law_1125 dL_law_1126 dL_law_1127 dL_law_1128 dL_law_1129 ?_
  refine LV.callM (hm2 := hm2) (As := [.inl (xs (i + 1)).toInt, .inl (xs (i + 2)).toInt, .inl (xs (i + 3)).toInt, .inl (xs (i + 4)).toInt, .inl (xs (i + 5)).toInt]) (st := [.inl r]) (v := .inl r) dL_law_1130 md_X10_notched ml_L_107 im_X10_notched se_X10_notched (tX10_notched (by decide) e2) rfl (fun _ _ _ => rfl) (fun v hv => Or.inl (by simp only [List.mem_cons, List.not_mem_nil, or_false] at hv; rcases hv with rfl | rfl | rfl | rfl | rfl <;> intro n <;> first | exact pv_rg _ | exact pv_rgl _ | (show _ ∧ _; split <;> decide))) (fun v hv => by simp at hv ⊢; simp [hv]) (fun _ _ _ => rfl) (fun _ z => z) (Nat.le_of_ble_eq_true rfl) ?_
  refine LV.eq (tgt := 2019) dL_law_1133 (by decide) ?_
  exact k hc2 hm2 hS2

theorem lc_notch {S : pv_H → pv_H → Prop} {L : Nat} {xs : Nat → Int32} {i : Nat} {hc hm : pv_H} (hL : i + 6 ≤ L) (hLm : L ≤ 3072) (hs : sm_notch S) (hS : S hc hm) (k : ∀ hc2 hm2, S hc2 hm2 → LV L xs 2019 i [] hc2 hm2) : LV L xs 1138 i [] hc hm := by
  obtain ⟨hc2, hm2, r, e1, e2, hS2⟩ := hs hc hm hS (xs (i + 1)).toInt (xs (i + 2)).toInt (xs (i + 3)).toInt (xs (i + 4)).toInt (pv_rg _) (pv_rg _) (pv_rg _) (pv_rg _)
  refine LV.x dL_law_1138 ?_
  refine LV.arg 1 (by decide) hL hLm dL_law_1139 dL_law_1140 dL_law_1141 dL_law_1142 dL_law_1143 ?_
  refine LV.arg 2 (by decide) hL hLm dL_law_1144 dL_law_1145 dL_law_1146 dL_law_1147 dL_law_1148 ?_
  refine LV.arg 3 (by decide) hL hLm dL_law_1149 dL_law_1150 dL_law_1151 dL_law_1152 dL_law_1153 ?_
  refine LV.arg 4 (by decide) hL hLm dL_law_1154 dL_law_1155 dL_law_1156 dL_law_1157 dL_law_1158 ?_
  refine LV.callC (hc2 := hc2) (As := [.inl (xs (i + 1)).toInt, .inl (xs (i + 2)).toInt, .inl (xs (i + 3)).toInt, .inl (xs (i + 4)).toInt]) (st := []) (v := .inl r) dL_law_1159 md_X9_notch ml_L_108 im_X9_notch se_X9_notch (tX9_notch (by decide) e1) rfl (fun _ _ _ => rfl) (fun v hv => Or.inl (by simp only [List.mem_cons, List.not_mem_nil, or_false] at hv; rcases hv with rfl | rfl | rfl | rfl <;> intro n <;> first | exact pv_rg _ | exact pv_rgl _ | (show _ ∧ _; split <;> decide))) (fun v hv => by cases hv) (fun _ _ _ => rfl) (fun _ z => z) (by decide) ?_
  refine LV.m dL_law_1162 ?_
  refine LV.arg 1 (by decide) hL hLm dL_law_1163 dL_law_1164 dL_law_1165 dL_law_1166 dL_law_1167 ?_
  refine LV.arg 2 (by decide) hL hLm dL_law_1168 dL_law_1169 dL_law_1170 dL_law_1171 dL_law_1172 ?_
  refine LV.arg 3 (by decide) hL hLm dL_law_1173 dL_law_1174 dL_law_1175 dL_law_1176 dL_law_1177 ?_
  refine LV.arg 4 (by decide) hL hLm dL_law_1178 dL_law_1179 dL_law_1180 dL_law_1181 dL_law_1182 ?_
  refine LV.callM (hm2 := hm2) (As := [.inl (xs (i + 1)).toInt, .inl (xs (i + 2)).toInt, .inl (xs (i + 3)).toInt, .inl (xs (i + 4)).toInt]) (st := [.inl r]) (v := .inl r) dL_law_1183 md_X10_notch ml_L_111 im_X10_notch se_X10_notch (tX10_notch (by decide) e2) rfl (fun _ _ _ => rfl) (fun v hv => Or.inl (by simp only [List.mem_cons, List.not_mem_nil, or_false] at hv; rcases hv with rfl | rfl | rfl | rfl <;> intro n <;> first | exact pv_rg _ | exact pv_rgl _ | (show _ ∧ _; split <;> decide))) (fun v hv => by simp at hv ⊢; simp [hv]) (fun _ _ _ => rfl) (fun _ z => z) (Nat.le_of_ble_eq_true rfl) ?_
  refine LV.eq (tgt := 2019) dL_law_1186 (by decide) ?_
  exact k hc2 hm2 hS2

theorem lc_longer {S : pv_H → pv_H → Prop} {L : Nat} {xs : Nat → Int32} {i : Nat} {hc hm : pv_H} (hL : i + 6 ≤ L) (hLm : L ≤ 3072) (hs : sm_longer S) (hS : S hc hm) (k : ∀ hc2 hm2, S hc2 hm2 → LV L xs 2019 i [] hc2 hm2) : LV L xs 1191 i [] hc hm := by
  obtain ⟨hc2, hm2, r, e1, e2, hS2⟩ := hs hc hm hS (xs (i + 1)).toInt (xs (i + 2)).toInt (xs (i + 3)).toInt (xs (i + 4)).toInt (pv_rg _) (pv_rg _) (pv_rg _) (pv_rg _)
  refine LV.x dL_law_1191 ?_
  refine LV.arg 1 (by decide) hL hLm dL_law_1192 dL_law_1193 dL_law_1194 dL_law_1195 dL_law_1196 ?_
  refine LV.arg 2 (by decide) hL hLm dL_law_1197 dL_law_1198 dL_law_1199 dL_law_1200 dL_law_1201 ?_
  refine LV.arg 3 (by decide) hL hLm dL_law_1202 dL_law_1203 dL_law_1204 dL_law_1205 dL_law_1206 ?_
  refine LV.arg 4 (by decide) hL hLm dL_law_1207 dL_law_1208 dL_law_1209 dL_law_1210 dL_law_1211 ?_
  refine LV.callC (hc2 := hc2) (As := [.inl (xs (i + 1)).toInt, .inl (xs (i + 2)).toInt, .inl (xs (i + 3)).toInt, .inl (xs (i + 4)).toInt]) (st := []) (v := .inl r) dL_law_1212 md_X9_longer ml_L_112 im_X9_longer se_X9_longer (tX9_longer (by decide) e1) rfl (fun _ _ _ => rfl) (fun v hv => Or.inl (by simp only [List.mem_cons, List.not_mem_nil, or_false] at hv; rcases hv with rfl | rfl | rfl | rfl <;> intro n <;> first | exact pv_rg _ | exact pv_rgl _ | (show _ ∧ _; split <;> decide))) (fun v hv => by cases hv) (fun _ _ _ => rfl) (fun _ z => z) (by decide) ?_
  refine LV.m dL_law_1215 ?_
  refine LV.arg 1 (by decide) hL hLm dL_law_1216 dL_law_1217 dL_law_1218 dL_law_1219 dL_law_1220 ?_
  refine LV.arg 2 (by decide) hL hLm dL_law_1221 dL_law_1222 dL_law_1223 dL_law_1224 dL_law_1225 ?_
  refine LV.arg 3 (by decide) hL hLm dL_law_1226 dL_law_1227 dL_law_1228 dL_law_1229 dL_law_1230 ?_
  refine LV.arg 4 (by decide) hL hLm dL_law_1231 dL_law_1232 dL_law_1233 dL_law_1234 dL_law_1235 ?_
  refine LV.callM (hm2 := hm2) (As := [.inl (xs (i + 1)).toInt, .inl (xs (i + 2)).toInt, .inl (xs (i + 3)).toInt, .inl (xs (i + 4)).toInt]) (st := [.inl r]) (v := .inl r) dL_law_1236 md_X10_longer ml_L_115 im_X10_longer se_X10_longer (tX10_longer (by decide) e2) rfl (fun _ _ _ => rfl) (fun v hv => Or.inl (by simp only [List.mem_cons, List.not_mem_nil, or_false] at hv; rcases hv with rfl | rfl | rfl | rfl <;> intro n <;> first | exact pv_rg _ | exact pv_rgl _ | (show _ ∧ _; split <;> decide))) (fun v hv => by simp at hv ⊢; simp [hv]) (fun _ _ _ => rfl) (fun _ z => z) (Nat.le_of_ble_eq_true rfl) ?_
  refine LV.eq (tgt := 2019) dL_law_1239 (by decide) ?_
  exact k hc2 hm2 hS2

theorem lc_thinner {S : pv_H → pv_H → Prop} {L : Nat} {xs : Nat → Int32} {i : Nat} {hc hm : pv_H} (hL : i + 6 ≤ L) (hLm : L ≤ 3072) (hs : sm_thinner S) (hS : S hc hm) (k : ∀ hc2 hm2, S hc2 hm2 → LV L xs 2019 i [] hc2 hm2) : LV L xs 1244 i [] hc hm := by
  obtain ⟨hc2, hm2, r, e1, e2, hS2⟩ := hs hc hm hS (xs (i + 1)).toInt (xs (i + 2)).toInt (xs (i + 3)).toInt (xs (i + 4)).toInt (pv_rg _) (pv_rg _) (pv_rg _) (pv_rg _)
  refine LV.x dL_law_1244 ?_
  refine LV.arg 1 (by decide) hL hLm dL_law_1245 dL_law_1246 dL_law_1247 dL_law_1248 dL_law_1249 ?_
  refine LV.arg 2 (by decide) hL hLm dL_law_1250 dL_law_1251 dL_law_1252 dL_law_1253 dL_law_1254 ?_
  refine LV.arg 3 (by decide) hL hLm dL_law_1255 dL_law_1256 dL_law_1257 dL_law_1258 dL_law_1259 ?_
  refine LV.arg 4 (by decide) hL hLm dL_law_1260 dL_law_1261 dL_law_1262 dL_law_1263 dL_law_1264 ?_
  refine LV.callC (hc2 := hc2) (As := [.inl (xs (i + 1)).toInt, .inl (xs (i + 2)).toInt, .inl (xs (i + 3)).toInt, .inl (xs (i + 4)).toInt]) (st := []) (v := .inl r) dL_law_1265 md_X9_thinner ml_L_116 im_X9_thinner se_X9_thinner (tX9_thinner (by decide) e1) rfl (fun _ _ _ => rfl) (fun v hv => Or.inl (by simp only [List.mem_cons, List.not_mem_nil, or_false] at hv; rcases hv with rfl | rfl | rfl | rfl <;> intro n <;> first | exact pv_rg _ | exact pv_rgl _ | (show _ ∧ _; split <;> decide))) (fun v hv => by cases hv) (fun _ _ _ => rfl) (fun _ z => z) (by decide) ?_
  refine LV.m dL_law_1268 ?_
  refine LV.arg 1 (by decide) hL hLm dL_law_1269 dL_law_1270 dL_law_1271 dL_law_1272 dL_law_1273 ?_
  refine LV.arg 2 (by decide) hL hLm dL_law_1274 dL_law_1275 dL_law_1276 dL_law_1277 dL_law_1278 ?_
  refine LV.arg 3 (by decide) hL hLm dL_law_1279 dL_law_1280 dL_law_1281 dL_law_1282 dL_law_1283 ?_
  refine LV.arg 4 (by decide) hL hLm dL_law_1284 dL_law_1285 dL_law_1286 dL_law_1287 dL_law_1288 ?_
  refine LV.callM (hm2 := hm2) (As := [.inl (xs (i + 1)).toInt, .inl (xs (i + 2)).toInt, .inl (xs (i + 3)).toInt, .inl (xs (i + 4)).toInt]) (st := [.inl r]) (v := .inl r) dL_law_1289 md_X10_thinner ml_L_119 im_X10_thinner se_X10_thinner (tX10_thinner (by decide) e2) rfl (fun _ _ _ => rfl) (fun v hv => Or.inl (by simp only [List.mem_cons, List.not_mem_nil, or_false] at hv; rcases hv with rfl | rfl | rfl | rfl <;> intro n <;> first | exact pv_rg _ | exact pv_rgl _ | (show _ ∧ _; split <;> decide))) (fun v hv => by simp at hv ⊢; simp [hv]) (fun _ _ _ => rfl) (fun _ z => z) (Nat.le_of_ble_eq_true rfl) ?_
  refine LV.eq (tgt := 2019) dL_law_1292 (by decide) ?_
  exact k hc2 hm2 hS2

theorem lc_beside {S : pv_H → pv_H → Prop} {L : Nat} {xs : Nat → Int32} {i : Nat} {hc hm : pv_H} (hL : i + 6 ≤ L) (hLm : L ≤ 3072) (hs : sm_beside S) (hS : S hc hm) (k : ∀ hc2 hm2, S hc2 hm2 → LV L xs 2019 i [] hc2 hm2) : LV L xs 1297 i [] hc hm := by
  obtain ⟨hc2, hm2, r, e1, e2, hS2⟩ := hs hc hm hS (xs (i + 1)).toInt (xs (i + 2)).toInt (xs (i + 3)).toInt (xs (i + 4)).toInt (pv_rg _) (pv_rg _) (pv_rg _) (pv_rg _)
  refine LV.x dL_law_1297 ?_
  refine LV.arg 1 (by decide) hL hLm dL_law_1298 dL_law_1299 dL_law_1300 dL_law_1301 dL_law_1302 ?_
  refine LV.arg 2 (by decide) hL hLm dL_law_1303 dL_law_1304 dL_law_1305 dL_law_1306 dL_law_1307 ?_
  refine LV.arg 3 (by decide) hL hLm dL_law_1308 dL_law_1309 dL_law_1310 dL_law_1311 dL_law_1312 ?_
  refine LV.arg 4 (by decide) hL hLm dL_law_1313 dL_law_1314 dL_law_1315 dL_law_1316 dL_law_1317 ?_
  refine LV.callC (hc2 := hc2) (As := [.inl (xs (i + 1)).toInt, .inl (xs (i + 2)).toInt, .inl (xs (i + 3)).toInt, .inl (xs (i + 4)).toInt]) (st := []) (v := .inl r) dL_law_1318 md_X9_beside ml_L_120 im_X9_beside se_X9_beside (tX9_beside (by decide) e1) rfl (fun _ _ _ => rfl) (fun v hv => Or.inl (by simp only [List.mem_cons, List.not_mem_nil, or_false] at hv; rcases hv with rfl | rfl | rfl | rfl <;> intro n <;> first | exact pv_rg _ | exact pv_rgl _ | (show _ ∧ _; split <;> decide))) (fun v hv => by cases hv) (fun _ _ _ => rfl) (fun _ z => z) (by decide) ?_
  refine LV.m dL_law_1321 ?_
  refine LV.arg 1 (by decide) hL hLm dL_law_1322 dL_law_1323 dL_law_1324 dL_law_1325 dL_law_1326 ?_
  refine LV.arg 2 (by decide) hL hLm dL_law_1327 dL_law_1328 dL_law_1329 dL_law_1330 dL_law_1331 ?_
  refine LV.arg 3 (by decide) hL hLm dL_law_1332 dL_law_1333 dL_law_1334 dL_law_1335 dL_law_1336 ?_
  refine LV.arg 4 (by decide) hL hLm dL_law_1337 dL_law_1338 dL_law_1339 dL_law_1340 dL_law_1341 ?_
  refine LV.callM (hm2 := hm2) (As := [.inl (xs (i + 1)).toInt, .inl (xs (i + 2)).toInt, .inl (xs (i + 3)).toInt, .inl (xs (i + 4)).toInt]) (st := [.inl r]) (v := .inl r) dL_law_1342 md_X10_beside ml_L_123 im_X10_beside se_X10_beside (tX10_beside (by decide) e2) rfl (fun _ _ _ => rfl) (fun v hv => Or.inl (by simp only [List.mem_cons, List.not_mem_nil, or_false] at hv; rcases hv with rfl | rfl | rfl | rfl <;> intro n <;> first | exact pv_rg _ | exact pv_rgl _ | (show _ ∧ _; split <;> decide))) (fun v hv => by simp at hv ⊢; simp [hv]) (fun _ _ _ => rfl) (fun _ z => z) (Nat.le_of_ble_eq_true rfl) ?_
  refine LV.eq (tgt := 2019) dL_law_1345 (by decide) ?_
  exact k hc2 hm2 hS2

theorem lc_never {S : pv_H → pv_H → Prop} {L : Nat} {xs : Nat → Int32} {i : Nat} {hc hm : pv_H} (hL : i + 6 ≤ L) (hLm : L ≤ 3072) (hs : sm_never S) (hS : S hc hm) (k : ∀ hc2 hm2, S hc2 hm2 → LV L xs 2019 i [] hc2 hm2) : LV L xs 1350 i [] hc hm := by
  obtain ⟨hc2, hm2, r, e1, e2, hS2⟩ := hs hc hm hS (xs (i + 1)).toInt (xs (i + 2)).toInt (pv_rg _) (pv_rg _)
  refine LV.x dL_law_1350 ?_
  refine LV.arg 1 (by decide) hL hLm dL_law_1351 dL_law_1352 dL_law_1353 dL_law_1354 dL_law_1355 ?_
  refine LV.arg 2 (by decide) hL hLm dL_law_1356 dL_law_1357 dL_law_1358 dL_law_1359 dL_law_1360 ?_
  refine LV.callC (hc2 := hc2) (As := [.inl (xs (i + 1)).toInt, .inl (xs (i + 2)).toInt]) (st := []) (v := .inl r) dL_law_1361 md_X9_never ml_L_124 im_X9_never se_X9_never (tX9_never (by decide) e1) rfl (fun _ _ _ => rfl) (fun v hv => Or.inl (by simp only [List.mem_cons, List.not_mem_nil, or_false] at hv; rcases hv with rfl | rfl <;> intro n <;> first | exact pv_rg _ | exact pv_rgl _ | (show _ ∧ _; split <;> decide))) (fun v hv => by cases hv) (fun _ _ _ => rfl) (fun _ z => z) (by decide) ?_
  refine LV.m dL_law_1364 ?_
  refine LV.arg 1 (by decide) hL hLm dL_law_1365 dL_law_1366 dL_law_1367 dL_law_1368 dL_law_1369 ?_
  refine LV.arg 2 (by decide) hL hLm dL_law_1370 dL_law_1371 dL_law_1372 dL_law_1373 dL_law_1374 ?_
  refine LV.callM (hm2 := hm2) (As := [.inl (xs (i + 1)).toInt, .inl (xs (i + 2)).toInt]) (st := [.inl r]) (v := .inl r) dL_law_1375 md_X10_never ml_L_127 im_X10_never se_X10_never (tX10_never (by decide) e2) rfl (fun _ _ _ => rfl) (fun v hv => Or.inl (by simp only [List.mem_cons, List.not_mem_nil, or_false] at hv; rcases hv with rfl | rfl <;> intro n <;> first | exact pv_rg _ | exact pv_rgl _ | (show _ ∧ _; split <;> decide))) (fun v hv => by simp at hv ⊢; simp [hv]) (fun _ _ _ => rfl) (fun _ z => z) (Nat.le_of_ble_eq_true rfl) ?_
  refine LV.eq (tgt := 2019) dL_law_1378 (by decide) ?_
  exact k hc2 hm2 hS2

theorem lc_read {S : pv_H → pv_H → Prop} {L : Nat} {xs : Nat → Int32} {i : Nat} {hc hm : pv_H} (hL : i + 6 ≤ L) (hLm : L ≤ 3072) (hs : sm_read S) (hS : S hc hm) (k : ∀ hc2 hm2, S hc2 hm2 → LV L xs 2019 i [] hc2 hm2) : LV L xs 1383 i [] hc hm := by
  obtain ⟨hc2, hm2, r, e1, e2, hS2⟩ := hs hc hm hS (xs (i + 1)).toInt (xs (i + 2)).toInt (xs (i + 3)).toInt (xs (i + 4)).toInt (pv_rg _) (pv_rg _) (pv_rg _) (pv_rg _)
  refine LV.x dL_law_1383 ?_
  refine LV.arg 1 (by decide) hL hLm dL_law_1384 dL_law_1385 dL_law_1386 dL_law_1387 dL_law_1388 ?_
  refine LV.arg 2 (by decide) hL hLm dL_law_1389 dL_law_1390 dL_law_1391 dL_law_1392 dL_law_1393 ?_
  refine LV.arg 3 (by decide) hL hLm dL_law_1394 dL_law_1395 dL_law_1396 dL_law_1397 dL_law_1398 ?_
  refine LV.arg 4 (by decide) hL hLm dL_law_1399 dL_law_1400 dL_law_1401 dL_law_1402 dL_law_1403 ?_
  refine LV.callC (hc2 := hc2) (As := [.inl (xs (i + 1)).toInt, .inl (xs (i + 2)).toInt, .inl (xs (i + 3)).toInt, .inl (xs (i + 4)).toInt]) (st := []) (v := .inl r) dL_law_1404 md_X9_read ml_L_128 im_X9_read se_X9_read (tX9_read (by decide) e1) rfl (fun _ _ _ => rfl) (fun v hv => Or.inl (by simp only [List.mem_cons, List.not_mem_nil, or_false] at hv; rcases hv with rfl | rfl | rfl | rfl <;> intro n <;> first | exact pv_rg _ | exact pv_rgl _ | (show _ ∧ _; split <;> decide))) (fun v hv => by cases hv) (fun _ _ _ => rfl) (fun _ z => z) (by decide) ?_
  refine LV.m dL_law_1407 ?_
  refine LV.arg 1 (by decide) hL hLm dL_law_1408 dL_law_1409 dL_law_1410 dL_law_1411 dL_law_1412 ?_
  refine LV.arg 2 (by decide) hL hLm dL_law_1413 dL_law_1414 dL_law_1415 dL_law_1416 dL_law_1417 ?_
  refine LV.arg 3 (by decide) hL hLm dL_law_1418 dL_law_1419 dL_law_1420 dL_law_1421 dL_law_1422 ?_
  refine LV.arg 4 (by decide) hL hLm dL_law_1423 dL_law_1424 dL_law_1425 dL_law_1426 dL_law_1427 ?_
  refine LV.callM (hm2 := hm2) (As := [.inl (xs (i + 1)).toInt, .inl (xs (i + 2)).toInt, .inl (xs (i + 3)).toInt, .inl (xs (i + 4)).toInt]) (st := [.inl r]) (v := .inl r) dL_law_1428 md_X10_read ml_L_131 im_X10_read se_X10_read (tX10_read (by decide) e2) rfl (fun _ _ _ => rfl) (fun v hv => Or.inl (by simp only [List.mem_cons, List.not_mem_nil, or_false] at hv; rcases hv with rfl | rfl | rfl | rfl <;> intro n <;> first | exact pv_rg _ | exact pv_rgl _ | (show _ ∧ _; split <;> decide))) (fun v hv => by simp at hv ⊢; simp [hv]) (fun _ _ _ => rfl) (fun _ z => z) (Nat.le_of_ble_eq_true rfl) ?_
  refine LV.eq (tgt := 2019) dL_law_1431 (by decide) ?_
  exact k hc2 hm2 hS2

theorem lc_was {S : pv_H → pv_H → Prop} {L : Nat} {xs : Nat → Int32} {i : Nat} {hc hm : pv_H} (hL : i + 6 ≤ L) (hLm : L ≤ 3072) (hs : sm_was S) (hS : S hc hm) (k : ∀ hc2 hm2, S hc2 hm2 → LV L xs 2019 i [] hc2 hm2) : LV L xs 1436 i [] hc hm := by
  obtain ⟨hc2, hm2, r, e1, e2, hS2⟩ := hs hc hm hS (xs (i + 1)).toInt (xs (i + 2)).toInt (xs (i + 3)).toInt (xs (i + 4)).toInt (pv_rg _) (pv_rg _) (pv_rg _) (pv_rg _)
  refine LV.x dL_law_1436 ?_
  refine LV.arg 1 (by decide) hL hLm dL_law_1437 dL_law_1438 dL_law_1439 dL_law_1440 dL_law_1441 ?_
  refine LV.arg 2 (by decide) hL hLm dL_law_1442 dL_law_1443 dL_law_1444 dL_law_1445 dL_law_1446 ?_
  refine LV.arg 3 (by decide) hL hLm dL_law_1447 dL_law_1448 dL_law_1449 dL_law_1450 dL_law_1451 ?_
  refine LV.arg 4 (by decide) hL hLm dL_law_1452 dL_law_1453 dL_law_1454 dL_law_1455 dL_law_1456 ?_
  refine LV.callC (hc2 := hc2) (As := [.inl (xs (i + 1)).toInt, .inl (xs (i + 2)).toInt, .inl (xs (i + 3)).toInt, .inl (xs (i + 4)).toInt]) (st := []) (v := .inl r) dL_law_1457 md_X9_was ml_L_132 im_X9_was se_X9_was (tX9_was (by decide) e1) rfl (fun _ _ _ => rfl) (fun v hv => Or.inl (by simp only [List.mem_cons, List.not_mem_nil, or_false] at hv; rcases hv with rfl | rfl | rfl | rfl <;> intro n <;> first | exact pv_rg _ | exact pv_rgl _ | (show _ ∧ _; split <;> decide))) (fun v hv => by cases hv) (fun _ _ _ => rfl) (fun _ z => z) (by decide) ?_
  refine LV.m dL_law_1460 ?_
  refine LV.arg 1 (by decide) hL hLm dL_law_1461 dL_law_1462 dL_law_1463 dL_law_1464 dL_law_1465 ?_
  refine LV.arg 2 (by decide) hL hLm dL_law_1466 dL_law_1467 dL_law_1468 dL_law_1469 dL_law_1470 ?_
  refine LV.arg 3 (by decide) hL hLm dL_law_1471 dL_law_1472 dL_law_1473 dL_law_1474 dL_law_1475 ?_
  refine LV.arg 4 (by decide) hL hLm dL_law_1476 dL_law_1477 dL_law_1478 dL_law_1479 dL_law_1480 ?_
  refine LV.callM (hm2 := hm2) (As := [.inl (xs (i + 1)).toInt, .inl (xs (i + 2)).toInt, .inl (xs (i + 3)).toInt, .inl (xs (i + 4)).toInt]) (st := [.inl r]) (v := .inl r) dL_law_1481 md_X10_was ml_L_135 im_X10_was se_X10_was (tX10_was (by decide) e2) rfl (fun _ _ _ => rfl) (fun v hv => Or.inl (by simp only [List.mem_cons, List.not_mem_nil, or_false] at hv; rcases hv with rfl | rfl | rfl | rfl <;> intro n <;> first | exact pv_rg _ | exact pv_rgl _ | (show _ ∧ _; split <;> decide))) (fun v hv => by simp at hv ⊢; simp [hv]) (fun _ _ _ => rfl) (fun _ z => z) (Nat.le_of_ble_eq_true rfl) ?_
  refine LV.eq (tgt := 2019) dL_law_1484 (by decide) ?_
  exact k hc2 hm2 hS2

theorem lc_found {S : pv_H → pv_H → Prop} {L : Nat} {xs : Nat → Int32} {i : Nat} {hc hm : pv_H} (hL : i + 6 ≤ L) (hLm : L ≤ 3072) (hs : sm_found S) (hS : S hc hm) (k : ∀ hc2 hm2, S hc2 hm2 → LV L xs 2019 i [] hc2 hm2) : LV L xs 1489 i [] hc hm := by
  obtain ⟨hc2, hm2, r, e1, e2, hS2⟩ := hs hc hm hS (xs (i + 1)).toInt (xs (i + 2)).toInt (xs (i + 3)).toInt (xs (i + 4)).toInt (xs (i + 5)).toInt (pv_rg _) (pv_rg _) (pv_rg _) (pv_rg _) (pv_rg _)
  refine LV.x dL_law_1489 ?_
  refine LV.arg 1 (by decide) hL hLm dL_law_1490 dL_law_1491 dL_law_1492 dL_law_1493 dL_law_1494 ?_
  refine LV.arg 2 (by decide) hL hLm dL_law_1495 dL_law_1496 dL_law_1497 dL_law_1498 dL_law_1499 ?_
  refine LV.arg 3 (by decide) hL hLm dL_law_1500 dL_law_1501 dL_law_1502 dL_law_1503 dL_law_1504 ?_
  refine LV.arg 4 (by decide) hL hLm dL_law_1505 dL_law_1506 dL_law_1507 dL_law_1508 dL_law_1509 ?_
  refine LV.arg 5 (by decide) hL hLm dL_law_1510 dL_law_1511 dL_law_1512 dL_law_1513 dL_law_1514 ?_
  refine LV.callC (hc2 := hc2) (As := [.inl (xs (i + 1)).toInt, .inl (xs (i + 2)).toInt, .inl (xs (i + 3)).toInt, .inl (xs (i + 4)).toInt, .inl (xs (i + 5)).toInt]) (st := []) (v := .inl r) dL_law_1515 md_X9_found ml_L_136 im_X9_found se_X9_found (tX9_found (by decide) e1) rfl (fun _ _ _ => rfl) (fun v hv => Or.inl (by simp only [List.mem_cons, List.not_mem_nil, or_false] at hv; rcases hv with rfl | rfl | rfl | rfl | rfl <;> intro n <;> first | exact pv_rg _ | exact pv_rgl _ | (show _ ∧ _; split <;> decide))) (fun v hv => by cases hv) (fun _ _ _ => rfl) (fun _ z => z) (by decide) ?_
  refine LV.m dL_law_1518 ?_
  refine LV.arg 1 (by decide) hL hLm dL_law_1519 dL_law_1520 dL_law_1521 dL_law_1522 dL_law_1523 ?_
  refine LV.arg 2 (by decide) hL hLm dL_law_1524 dL_law_1525 dL_law_1526 dL_law_1527 dL_law_1528 ?_
  refine LV.arg 3 (by decide) hL hLm dL_law_1529 dL_law_1530 dL_law_1531 dL_law_1532 dL_law_1533 ?_
  refine LV.arg 4 (by decide) hL hLm dL_law_1534 dL_law_1535 dL_law_1536 dL_law_1537 dL_law_1538 ?_
  refine LV.arg 5 (by decide) hL hLm dL_law_1539 dL_law_1540 dL_law_1541 dL_law_1542 dL_law_1543 ?_
  refine LV.callM (hm2 := hm2) (As := [.inl (xs (i + 1)).toInt, .inl (xs (i + 2)).toInt, .inl (xs (i + 3)).toInt, .inl (xs (i + 4)).toInt, .inl (xs (i + 5)).toInt]) (st := [.inl r]) (v := .inl r) dL_law_1544 md_X10_found ml_L_139 im_X10_found se_X10_found (tX10_found (by decide) e2) rfl (fun _ _ _ => rfl) (fun v hv => Or.inl (by simp only [List.mem_cons, List.not_mem_nil, or_false] at hv; rcases hv with rfl | rfl | rfl | rfl | rfl <;> intro n <;> first | exact pv_rg _ | exact pv_rgl _ | (show _ ∧ _; split <;> decide))) (fun v hv => by simp at hv ⊢; simp [hv]) (fun _ _ _ => rfl) (fun _ z => z) (Nat.le_of_ble_eq_true rfl) ?_
  refine LV.eq (tgt := 2019) dL_law_1547 (by decide) ?_
  exact k hc2 hm2 hS2

theorem lc_middle {S : pv_H → pv_H → Prop} {L : Nat} {xs : Nat → Int32} {i : Nat} {hc hm : pv_H} (hL : i + 6 ≤ L) (hLm : L ≤ 3072) (hs : sm_middle S) (hS : S hc hm) (k : ∀ hc2 hm2, S hc2 hm2 → LV L xs 2019 i [] hc2 hm2) : LV L xs 1552 i [] hc hm := by
  obtain ⟨hc2, hm2, r, e1, e2, hS2⟩ := hs hc hm hS (xs (i + 1)).toInt (xs (i + 2)).toInt (xs (i + 3)).toInt (xs (i + 4)).toInt (pv_rg _) (pv_rg _) (pv_rg _) (pv_rg _)
  refine LV.x dL_law_1552 ?_
  refine LV.arg 1 (by decide) hL hLm dL_law_1553 dL_law_1554 dL_law_1555 dL_law_1556 dL_law_1557 ?_
  refine LV.arg 2 (by decide) hL hLm dL_law_1558 dL_law_1559 dL_law_1560 dL_law_1561 dL_law_1562 ?_
  refine LV.arg 3 (by decide) hL hLm dL_law_1563 dL_law_1564 dL_law_1565 dL_law_1566 dL_law_1567 ?_
  refine LV.arg 4 (by decide) hL hLm dL_law_1568 dL_law_1569 dL_law_1570 dL_law_1571 dL_law_1572 ?_
  refine LV.callC (hc2 := hc2) (As := [.inl (xs (i + 1)).toInt, .inl (xs (i + 2)).toInt, .inl (xs (i + 3)).toInt, .inl (xs (i + 4)).toInt]) (st := []) (v := .inl r) dL_law_1573 md_X9_middle ml_L_140 im_X9_middle se_X9_middle (tX9_middle (by decide) e1) rfl (fun _ _ _ => rfl) (fun v hv => Or.inl (by simp only [List.mem_cons, List.not_mem_nil, or_false] at hv; rcases hv with rfl | rfl | rfl | rfl <;> intro n <;> first | exact pv_rg _ | exact pv_rgl _ | (show _ ∧ _; split <;> decide))) (fun v hv => by cases hv) (fun _ _ _ => rfl) (fun _ z => z) (by decide) ?_
  refine LV.m dL_law_1576 ?_
  refine LV.arg 1 (by decide) hL hLm dL_law_1577 dL_law_1578 dL_law_1579 dL_law_1580 dL_law_1581 ?_
  refine LV.arg 2 (by decide) hL hLm dL_law_1582 dL_law_1583 dL_law_1584 dL_law_1585 dL_law_1586 ?_
  refine LV.arg 3 (by decide) hL hLm dL_law_1587 dL_law_1588 dL_law_1589 dL_law_1590 dL_law_1591 ?_
  refine LV.arg 4 (by decide) hL hLm dL_law_1592 dL_law_1593 dL_law_1594 dL_law_1595 dL_law_1596 ?_
  refine LV.callM (hm2 := hm2) (As := [.inl (xs (i + 1)).toInt, .inl (xs (i + 2)).toInt, .inl (xs (i + 3)).toInt, .inl (xs (i + 4)).toInt]) (st := [.inl r]) (v := .inl r) dL_law_1597 md_X10_middle ml_L_143 im_X10_middle se_X10_middle (tX10_middle (by decide) e2) rfl (fun _ _ _ => rfl) (fun v hv => Or.inl (by simp only [List.mem_cons, List.not_mem_nil, or_false] at hv; rcases hv with rfl | rfl | rfl | rfl <;> intro n <;> first | exact pv_rg _ | exact pv_rgl _ | (show _ ∧ _; split <;> decide))) (fun v hv => by simp at hv ⊢; simp [hv]) (fun _ _ _ => rfl) (fun _ z => z) (Nat.le_of_ble_eq_true rfl) ?_
  refine LV.eq (tgt := 2019) dL_law_1600 (by decide) ?_
  exact k hc2 hm2 hS2

theorem lc_filmed {S : pv_H → pv_H → Prop} {L : Nat} {xs : Nat → Int32} {i : Nat} {hc hm : pv_H} (hL : i + 6 ≤ L) (hLm : L ≤ 3072) (hs : sm_filmed S) (hS : S hc hm) (k : ∀ hc2 hm2, S hc2 hm2 → LV L xs 2019 i [] hc2 hm2) : LV L xs 1605 i [] hc hm := by
  obtain ⟨hc2, hm2, r, e1, e2, hS2⟩ := hs hc hm hS (xs (i + 1)).toInt (xs (i + 2)).toInt (xs (i + 3)).toInt (xs (i + 4)).toInt (xs (i + 5)).toInt (pv_rg _) (pv_rg _) (pv_rg _) (pv_rg _) (pv_rg _)
  refine LV.x dL_law_1605 ?_
  refine LV.arg 1 (by decide) hL hLm dL_law_1606 dL_law_1607 dL_law_1608 dL_law_1609 dL_law_1610 ?_
  refine LV.arg 2 (by decide) hL hLm dL_law_1611 dL_law_1612 dL_law_1613 dL_law_1614 dL_law_1615 ?_
  refine LV.arg 3 (by decide) hL hLm dL_law_1616 dL_law_1617 dL_law_1618 dL_law_1619 dL_law_1620 ?_
  refine LV.arg 4 (by decide) hL hLm dL_law_1621 dL_law_1622 dL_law_1623 dL_law_1624 dL_law_1625 ?_
  refine LV.arg 5 (by decide) hL hLm dL_law_1626 dL_law_1627 dL_law_1628 dL_law_1629 dL_law_1630 ?_
  refine LV.callC (hc2 := hc2) (As := [.inl (xs (i + 1)).toInt, .inl (xs (i + 2)).toInt, .inl (xs (i + 3)).toInt, .inl (xs (i + 4)).toInt, .inl (xs (i + 5)).toInt]) (st := []) (v := .inl r) dL_law_1631 md_X9_filmed ml_L_144 im_X9_filmed se_X9_filmed (tX9_filmed (by decide) e1) rfl (fun _ _ _ => rfl) (fun v hv => Or.inl (by simp only [List.mem_cons, List.not_mem_nil, or_false] at hv; rcases hv with rfl | rfl | rfl | rfl | rfl <;> intro n <;> first | exact pv_rg _ | exact pv_rgl _ | (show _ ∧ _; split <;> decide))) (fun v hv => by cases hv) (fun _ _ _ => rfl) (fun _ z => z) (by decide) ?_
  refine LV.m dL_law_1634 ?_
  refine LV.arg 1 (by decide) hL hLm dL_law_1635 dL_law_1636 dL_law_1637 dL_law_1638 dL_law_1639 ?_
  refine LV.arg 2 (by decide) hL hLm dL_law_1640 dL_law_1641 dL_law_1642 dL_law_1643 dL_law_1644 ?_
  refine LV.arg 3 (by decide) hL hLm dL_law_1645 dL_law_1646 dL_law_1647 dL_law_1648 dL_law_1649 ?_
  refine LV.arg 4 (by decide) hL hLm dL_law_1650 dL_law_1651 dL_law_1652 dL_law_1653 dL_law_1654 ?_
  refine LV.arg 5 (by decide) hL hLm dL_law_1655 dL_law_1656 dL_law_1657 dL_law_1658 dL_law_1659 ?_
  refine LV.callM (hm2 := hm2) (As := [.inl (xs (i + 1)).toInt, .inl (xs (i + 2)).toInt, .inl (xs (i + 3)).toInt, .inl (xs (i + 4)).toInt, .inl (xs (i + 5)).toInt]) (st := [.inl r]) (v := .inl r) dL_law_1660 md_X10_filmed ml_L_147 im_X10_filmed se_X10_filmed (tX10_filmed (by decide) e2) rfl (fun _ _ _ => rfl) (fun v hv => Or.inl (by simp only [List.mem_cons, List.not_mem_nil, or_false] at hv; rcases hv with rfl | rfl | rfl | rfl | rfl <;> intro n <;> first | exact pv_rg _ | exact pv_rgl _ | (show _ ∧ _; split <;> decide))) (fun v hv => by simp at hv ⊢; simp [hv]) (fun _ _ _ => rfl) (fun _ z => z) (Nat.le_of_ble_eq_true rfl) ?_
  refine LV.eq (tgt := 2019) dL_law_1663 (by decide) ?_
  exact k hc2 hm2 hS2

theorem lc_swapped {S : pv_H → pv_H → Prop} {L : Nat} {xs : Nat → Int32} {i : Nat} {hc hm : pv_H} (hL : i + 6 ≤ L) (hLm : L ≤ 3072) (hs : sm_swapped S) (hS : S hc hm) (k : ∀ hc2 hm2, S hc2 hm2 → LV L xs 2019 i [] hc2 hm2) : LV L xs 1668 i [] hc hm := by
  obtain ⟨hc2, hm2, r, e1, e2, hS2⟩ := hs hc hm hS (xs (i + 1)).toInt (xs (i + 2)).toInt (xs (i + 3)).toInt (pv_rg _) (pv_rg _) (pv_rg _)
  refine LV.x dL_law_1668 ?_
  refine LV.arg 1 (by decide) hL hLm dL_law_1669 dL_law_1670 dL_law_1671 dL_law_1672 dL_law_1673 ?_
  refine LV.arg 2 (by decide) hL hLm dL_law_1674 dL_law_1675 dL_law_1676 dL_law_1677 dL_law_1678 ?_
  refine LV.arg 3 (by decide) hL hLm dL_law_1679 dL_law_1680 dL_law_1681 dL_law_1682 dL_law_1683 ?_
  refine LV.callC (hc2 := hc2) (As := [.inl (xs (i + 1)).toInt, .inl (xs (i + 2)).toInt, .inl (xs (i + 3)).toInt]) (st := []) (v := .inl r) dL_law_1684 md_X9_swapped ml_L_148 im_X9_swapped se_X9_swapped (tX9_swapped (by decide) e1) rfl (fun _ _ _ => rfl) (fun v hv => Or.inl (by simp only [List.mem_cons, List.not_mem_nil, or_false] at hv; rcases hv with rfl | rfl | rfl <;> intro n <;> first | exact pv_rg _ | exact pv_rgl _ | (show _ ∧ _; split <;> decide))) (fun v hv => by cases hv) (fun _ _ _ => rfl) (fun _ z => z) (by decide) ?_
  refine LV.m dL_law_1687 ?_
  refine LV.arg 1 (by decide) hL hLm dL_law_1688 dL_law_1689 dL_law_1690 dL_law_1691 dL_law_1692 ?_
  refine LV.arg 2 (by decide) hL hLm dL_law_1693 dL_law_1694 dL_law_1695 dL_law_1696 dL_law_1697 ?_
  refine LV.arg 3 (by decide) hL hLm dL_law_1698 dL_law_1699 dL_law_1700 dL_law_1701 dL_law_1702 ?_
  refine LV.callM (hm2 := hm2) (As := [.inl (xs (i + 1)).toInt, .inl (xs (i + 2)).toInt, .inl (xs (i + 3)).toInt]) (st := [.inl r]) (v := .inl r) dL_law_1703 md_X10_swapped ml_L_151 im_X10_swapped se_X10_swapped (tX10_swapped (by decide) e2) rfl (fun _ _ _ => rfl) (fun v hv => Or.inl (by simp only [List.mem_cons, List.not_mem_nil, or_false] at hv; rcases hv with rfl | rfl | rfl <;> intro n <;> first | exact pv_rg _ | exact pv_rgl _ | (show _ ∧ _; split <;> decide))) (fun v hv => by simp at hv ⊢; simp [hv]) (fun _ _ _ => rfl) (fun _ z => z) (Nat.le_of_ble_eq_true rfl) ?_
  refine LV.eq (tgt := 2019) dL_law_1706 (by decide) ?_
  exact k hc2 hm2 hS2

theorem lc_grid {S : pv_H → pv_H → Prop} {L : Nat} {xs : Nat → Int32} {i : Nat} {hc hm : pv_H} (hL : i + 6 ≤ L) (hLm : L ≤ 3072) (hs : sm_grid S) (hS : S hc hm) (k : ∀ hc2 hm2, S hc2 hm2 → LV L xs 2019 i [] hc2 hm2) : LV L xs 1711 i [] hc hm := by
  obtain ⟨hc2, hm2, r, e1, e2, hS2⟩ := hs hc hm hS (xs (i + 1)).toInt (xs (i + 2)).toInt (xs (i + 3)).toInt (pv_rg _) (pv_rg _) (pv_rg _)
  refine LV.x dL_law_1711 ?_
  refine LV.arg 1 (by decide) hL hLm dL_law_1712 dL_law_1713 dL_law_1714 dL_law_1715 dL_law_1716 ?_
  refine LV.arg 2 (by decide) hL hLm dL_law_1717 dL_law_1718 dL_law_1719 dL_law_1720 dL_law_1721 ?_
  refine LV.arg 3 (by decide) hL hLm dL_law_1722 dL_law_1723 dL_law_1724 dL_law_1725 dL_law_1726 ?_
  refine LV.callC (hc2 := hc2) (As := [.inl (xs (i + 1)).toInt, .inl (xs (i + 2)).toInt, .inl (xs (i + 3)).toInt]) (st := []) (v := .inl r) dL_law_1727 md_X9_grid ml_L_152 im_X9_grid se_X9_grid (tX9_grid (by decide) e1) rfl (fun _ _ _ => rfl) (fun v hv => Or.inl (by simp only [List.mem_cons, List.not_mem_nil, or_false] at hv; rcases hv with rfl | rfl | rfl <;> intro n <;> first | exact pv_rg _ | exact pv_rgl _ | (show _ ∧ _; split <;> decide))) (fun v hv => by cases hv) (fun _ _ _ => rfl) (fun _ z => z) (by decide) ?_
  refine LV.m dL_law_1730 ?_
  refine LV.arg 1 (by decide) hL hLm dL_law_1731 dL_law_1732 dL_law_1733 dL_law_1734 dL_law_1735 ?_
  refine LV.arg 2 (by decide) hL hLm dL_law_1736 dL_law_1737 dL_law_1738 dL_law_1739 dL_law_1740 ?_
  refine LV.arg 3 (by decide) hL hLm dL_law_1741 dL_law_1742 dL_law_1743 dL_law_1744 dL_law_1745 ?_
  refine LV.callM (hm2 := hm2) (As := [.inl (xs (i + 1)).toInt, .inl (xs (i + 2)).toInt, .inl (xs (i + 3)).toInt]) (st := [.inl r]) (v := .inl r) dL_law_1746 md_X10_grid ml_L_155 im_X10_grid se_X10_grid (tX10_grid (by decide) e2) rfl (fun _ _ _ => rfl) (fun v hv => Or.inl (by simp only [List.mem_cons, List.not_mem_nil, or_false] at hv; rcases hv with rfl | rfl | rfl <;> intro n <;> first | exact pv_rg _ | exact pv_rgl _ | (show _ ∧ _; split <;> decide))) (fun v hv => by simp at hv ⊢; simp [hv]) (fun _ _ _ => rfl) (fun _ z => z) (Nat.le_of_ble_eq_true rfl) ?_
  refine LV.eq (tgt := 2019) dL_law_1749 (by decide) ?_
  exact k hc2 hm2 hS2

theorem lc_flies {S : pv_H → pv_H → Prop} {L : Nat} {xs : Nat → Int32} {i : Nat} {hc hm : pv_H} (hL : i + 6 ≤ L) (hLm : L ≤ 3072) (hs : sm_flies S) (hS : S hc hm) (k : ∀ hc2 hm2, S hc2 hm2 → LV L xs 2019 i [] hc2 hm2) : LV L xs 1754 i [] hc hm := by
  obtain ⟨hc2, hm2, r, e1, e2, hS2⟩ := hs hc hm hS (xs (i + 1)).toInt (pv_rg _)
  refine LV.x dL_law_1754 ?_
  refine LV.arg 1 (by decide) hL hLm dL_law_1755 dL_law_1756 dL_law_1757 dL_law_1758 dL_law_1759 ?_
  refine LV.callC (hc2 := hc2) (As := [.inl (xs (i + 1)).toInt]) (st := []) (v := .inl r) dL_law_1760 md_X9_flies ml_L_156 im_X9_flies se_X9_flies (tX9_flies (by decide) e1) rfl (fun _ _ _ => rfl) (fun v hv => Or.inl (by simp only [List.mem_cons, List.not_mem_nil, or_false] at hv; rcases hv with rfl <;> intro n <;> first | exact pv_rg _ | exact pv_rgl _ | (show _ ∧ _; split <;> decide))) (fun v hv => by cases hv) (fun _ _ _ => rfl) (fun _ z => z) (by decide) ?_
  refine LV.m dL_law_1763 ?_
  refine LV.arg 1 (by decide) hL hLm dL_law_1764 dL_law_1765 dL_law_1766 dL_law_1767 dL_law_1768 ?_
  refine LV.callM (hm2 := hm2) (As := [.inl (xs (i + 1)).toInt]) (st := [.inl r]) (v := .inl r) dL_law_1769 md_X10_flies ml_L_159 im_X10_flies se_X10_flies (tX10_flies (by decide) e2) rfl (fun _ _ _ => rfl) (fun v hv => Or.inl (by simp only [List.mem_cons, List.not_mem_nil, or_false] at hv; rcases hv with rfl <;> intro n <;> first | exact pv_rg _ | exact pv_rgl _ | (show _ ∧ _; split <;> decide))) (fun v hv => by simp at hv ⊢; simp [hv]) (fun _ _ _ => rfl) (fun _ z => z) (Nat.le_of_ble_eq_true rfl) ?_
  refine LV.eq (tgt := 2019) dL_law_1772 (by decide) ?_
  exact k hc2 hm2 hS2

theorem lc_row {S : pv_H → pv_H → Prop} {L : Nat} {xs : Nat → Int32} {i : Nat} {hc hm : pv_H} (hL : i + 6 ≤ L) (hLm : L ≤ 3072) (hs : sm_row S) (hS : S hc hm) (k : ∀ hc2 hm2, S hc2 hm2 → LV L xs 2019 i [] hc2 hm2) : LV L xs 1777 i [] hc hm := by
  obtain ⟨hc2, hm2, r, e1, e2, hS2⟩ := hs hc hm hS (xs (i + 1)).toInt (xs (i + 2)).toInt (xs (i + 3)).toInt (pv_rg _) (pv_rg _) (pv_rg _)
  refine LV.x dL_law_1777 ?_
  refine LV.arg 1 (by decide) hL hLm dL_law_1778 dL_law_1779 dL_law_1780 dL_law_1781 dL_law_1782 ?_
  refine LV.arg 2 (by decide) hL hLm dL_law_1783 dL_law_1784 dL_law_1785 dL_law_1786 dL_law_1787 ?_
  refine LV.arg 3 (by decide) hL hLm dL_law_1788 dL_law_1789 dL_law_1790 dL_law_1791 dL_law_1792 ?_
  refine LV.callC (hc2 := hc2) (As := [.inl (xs (i + 1)).toInt, .inl (xs (i + 2)).toInt, .inl (xs (i + 3)).toInt]) (st := []) (v := .inl r) dL_law_1793 md_X9_row ml_L_160 im_X9_row se_X9_row (tX9_row (by decide) e1) rfl (fun _ _ _ => rfl) (fun v hv => Or.inl (by simp only [List.mem_cons, List.not_mem_nil, or_false] at hv; rcases hv with rfl | rfl | rfl <;> intro n <;> first | exact pv_rg _ | exact pv_rgl _ | (show _ ∧ _; split <;> decide))) (fun v hv => by cases hv) (fun _ _ _ => rfl) (fun _ z => z) (by decide) ?_
  refine LV.m dL_law_1796 ?_
  refine LV.arg 1 (by decide) hL hLm dL_law_1797 dL_law_1798 dL_law_1799 dL_law_1800 dL_law_1801 ?_
  refine LV.arg 2 (by decide) hL hLm dL_law_1802 dL_law_1803 dL_law_1804 dL_law_1805 dL_law_1806 ?_
  refine LV.arg 3 (by decide) hL hLm dL_law_1807 dL_law_1808 dL_law_1809 dL_law_1810 dL_law_1811 ?_
  refine LV.callM (hm2 := hm2) (As := [.inl (xs (i + 1)).toInt, .inl (xs (i + 2)).toInt, .inl (xs (i + 3)).toInt]) (st := [.inl r]) (v := .inl r) dL_law_1812 md_X10_row ml_L_163 im_X10_row se_X10_row (tX10_row (by decide) e2) rfl (fun _ _ _ => rfl) (fun v hv => Or.inl (by simp only [List.mem_cons, List.not_mem_nil, or_false] at hv; rcases hv with rfl | rfl | rfl <;> intro n <;> first | exact pv_rg _ | exact pv_rgl _ | (show _ ∧ _; split <;> decide))) (fun v hv => by simp at hv ⊢; simp [hv]) (fun _ _ _ => rfl) (fun _ z => z) (Nat.le_of_ble_eq_true rfl) ?_
  refine LV.eq (tgt := 2019) dL_law_1815 (by decide) ?_
  exact k hc2 hm2 hS2

theorem lc_write {S : pv_H → pv_H → Prop} {L : Nat} {xs : Nat → Int32} {i : Nat} {hc hm : pv_H} (hL : i + 6 ≤ L) (hLm : L ≤ 3072) (hs : sm_write S) (hS : S hc hm) (k : ∀ hc2 hm2, S hc2 hm2 → LV L xs 2019 i [] hc2 hm2) : LV L xs 1820 i [] hc hm := by
  obtain ⟨hc2, hm2, r, e1, e2, hS2⟩ := hs hc hm hS (xs (i + 1)).toInt (xs (i + 2)).toInt (lw_l2 (lw_l1 (xs (i + 3)).toInt) (xs (i + 4)).toInt) (pv_rg _) (pv_rg _) (pv_rgl _)
  refine LV.x dL_law_1820 ?_
  refine LV.arg 1 (by decide) hL hLm dL_law_1821 dL_law_1822 dL_law_1823 dL_law_1824 dL_law_1825 ?_
  refine LV.arg 2 (by decide) hL hLm dL_law_1826 dL_law_1827 dL_law_1828 dL_law_1829 dL_law_1830 ?_
  refine LV.arg 3 (by decide) hL hLm dL_law_1831 dL_law_1832 dL_law_1833 dL_law_1834 dL_law_1835 ?_
  refine LV.hi dL_law_1836 dL_law_1837 dL_law_1839 ?_
  refine LV.arg 4 (by decide) hL hLm dL_law_1840 dL_law_1841 dL_law_1842 dL_law_1843 dL_law_1844 ?_
  refine LV.lo dL_law_1845 dL_law_1846 dL_law_1849 dL_law_1850 ?_
  refine LV.callC (hc2 := hc2) (As := [.inl (xs (i + 1)).toInt, .inl (xs (i + 2)).toInt, .inr (.inl (lw_l2 (lw_l1 (xs (i + 3)).toInt) (xs (i + 4)).toInt))]) (st := []) (v := .inr (.inl r)) dL_law_1851 md_X9_write ml_L_166 im_X9_write se_X9_write (tX9_write (by decide) e1) rfl (fun _ _ _ => rfl) (fun v hv => Or.inl (by simp only [List.mem_cons, List.not_mem_nil, or_false] at hv; rcases hv with rfl | rfl | rfl <;> intro n <;> first | exact pv_rg _ | exact pv_rgl _ | (show _ ∧ _; split <;> decide))) (fun v hv => by cases hv) (fun _ _ _ => rfl) (fun _ z => z) (by decide) ?_
  refine LV.m dL_law_1854 ?_
  refine LV.arg 1 (by decide) hL hLm dL_law_1855 dL_law_1856 dL_law_1857 dL_law_1858 dL_law_1859 ?_
  refine LV.arg 2 (by decide) hL hLm dL_law_1860 dL_law_1861 dL_law_1862 dL_law_1863 dL_law_1864 ?_
  refine LV.arg 3 (by decide) hL hLm dL_law_1865 dL_law_1866 dL_law_1867 dL_law_1868 dL_law_1869 ?_
  refine LV.hi dL_law_1870 dL_law_1871 dL_law_1873 ?_
  refine LV.arg 4 (by decide) hL hLm dL_law_1874 dL_law_1875 dL_law_1876 dL_law_1877 dL_law_1878 ?_
  refine LV.lo dL_law_1879 dL_law_1880 dL_law_1883 dL_law_1884 ?_
  refine LV.callM (hm2 := hm2) (As := [.inl (xs (i + 1)).toInt, .inl (xs (i + 2)).toInt, .inr (.inl (lw_l2 (lw_l1 (xs (i + 3)).toInt) (xs (i + 4)).toInt))]) (st := [.inr (.inl r)]) (v := .inr (.inl r)) dL_law_1885 md_X10_write ml_L_170 im_X10_write se_X10_write (tX10_write (by decide) e2) rfl (fun _ _ _ => rfl) (fun v hv => Or.inl (by simp only [List.mem_cons, List.not_mem_nil, or_false] at hv; rcases hv with rfl | rfl | rfl <;> intro n <;> first | exact pv_rg _ | exact pv_rgl _ | (show _ ∧ _; split <;> decide))) (fun v hv => by simp at hv ⊢; simp [hv]) (fun _ _ _ => rfl) (fun _ z => z) (Nat.le_of_ble_eq_true rfl) ?_
  refine LV.leq (tgt := 2019) dL_law_1888 dL_law_1889 (by decide) ?_
  exact k hc2 hm2 hS2

theorem lc_keep {S : pv_H → pv_H → Prop} {L : Nat} {xs : Nat → Int32} {i : Nat} {hc hm : pv_H} (hL : i + 6 ≤ L) (hLm : L ≤ 3072) (hs : sm_keep S) (hS : S hc hm) (k : ∀ hc2 hm2, S hc2 hm2 → LV L xs 2019 i [] hc2 hm2) : LV L xs 1894 i [] hc hm := by
  obtain ⟨hc2, hm2, r, e1, e2, hS2⟩ := hs hc hm hS (xs (i + 1)).toInt (xs (i + 2)).toInt (pv_rg _) (pv_rg _)
  refine LV.x dL_law_1894 ?_
  refine LV.arg 1 (by decide) hL hLm dL_law_1895 dL_law_1896 dL_law_1897 dL_law_1898 dL_law_1899 ?_
  refine LV.arg 2 (by decide) hL hLm dL_law_1900 dL_law_1901 dL_law_1902 dL_law_1903 dL_law_1904 ?_
  refine LV.callC (hc2 := hc2) (As := [.inl (xs (i + 1)).toInt, .inl (xs (i + 2)).toInt]) (st := []) (v := .inl r) dL_law_1905 md_X9_keep ml_L_171 im_X9_keep se_X9_keep (tX9_keep (by decide) e1) rfl (fun _ _ _ => rfl) (fun v hv => Or.inl (by simp only [List.mem_cons, List.not_mem_nil, or_false] at hv; rcases hv with rfl | rfl <;> intro n <;> first | exact pv_rg _ | exact pv_rgl _ | (show _ ∧ _; split <;> decide))) (fun v hv => by cases hv) (fun _ _ _ => rfl) (fun _ z => z) (by decide) ?_
  refine LV.m dL_law_1908 ?_
  refine LV.arg 1 (by decide) hL hLm dL_law_1909 dL_law_1910 dL_law_1911 dL_law_1912 dL_law_1913 ?_
  refine LV.arg 2 (by decide) hL hLm dL_law_1914 dL_law_1915 dL_law_1916 dL_law_1917 dL_law_1918 ?_
  refine LV.callM (hm2 := hm2) (As := [.inl (xs (i + 1)).toInt, .inl (xs (i + 2)).toInt]) (st := [.inl r]) (v := .inl r) dL_law_1919 md_X10_keep ml_L_174 im_X10_keep se_X10_keep (tX10_keep (by decide) e2) rfl (fun _ _ _ => rfl) (fun v hv => Or.inl (by simp only [List.mem_cons, List.not_mem_nil, or_false] at hv; rcases hv with rfl | rfl <;> intro n <;> first | exact pv_rg _ | exact pv_rgl _ | (show _ ∧ _; split <;> decide))) (fun v hv => by simp at hv ⊢; simp [hv]) (fun _ _ _ => rfl) (fun _ z => z) (Nat.le_of_ble_eq_true rfl) ?_
  refine LV.eq (tgt := 2019) dL_law_1922 (by decide) ?_
  exact k hc2 hm2 hS2

theorem lc_image {S : pv_H → pv_H → Prop} {L : Nat} {xs : Nat → Int32} {i : Nat} {hc hm : pv_H} (hL : i + 6 ≤ L) (hLm : L ≤ 3072) (hs : sm_image S) (hS : S hc hm) (k : ∀ hc2 hm2, S hc2 hm2 → LV L xs 2019 i [] hc2 hm2) : LV L xs 1927 i [] hc hm := by
  obtain ⟨hc2, hm2, r, e1, e2, hS2⟩ := hs hc hm hS (xs (i + 1)).toInt (pv_rg _)
  refine LV.x dL_law_1927 ?_
  refine LV.arg 1 (by decide) hL hLm dL_law_1928 dL_law_1929 dL_law_1930 dL_law_1931 dL_law_1932 ?_
  refine LV.callC (hc2 := hc2) (As := [.inl (xs (i + 1)).toInt]) (st := []) (v := .inl r) dL_law_1933 md_X9_image ml_L_175 im_X9_image se_X9_image (tX9_image (by decide) e1) rfl (fun _ _ _ => rfl) (fun v hv => Or.inl (by simp only [List.mem_cons, List.not_mem_nil, or_false] at hv; rcases hv with rfl <;> intro n <;> first | exact pv_rg _ | exact pv_rgl _ | (show _ ∧ _; split <;> decide))) (fun v hv => by cases hv) (fun _ _ _ => rfl) (fun _ z => z) (by decide) ?_
  refine LV.m dL_law_1936 ?_
  refine LV.arg 1 (by decide) hL hLm dL_law_1937 dL_law_1938 dL_law_1939 dL_law_1940 dL_law_1941 ?_
  refine LV.callM (hm2 := hm2) (As := [.inl (xs (i + 1)).toInt]) (st := [.inl r]) (v := .inl r) dL_law_1942 md_X10_image ml_L_178 im_X10_image se_X10_image (tX10_image (by decide) e2) rfl (fun _ _ _ => rfl) (fun v hv => Or.inl (by simp only [List.mem_cons, List.not_mem_nil, or_false] at hv; rcases hv with rfl <;> intro n <;> first | exact pv_rg _ | exact pv_rgl _ | (show _ ∧ _; split <;> decide))) (fun v hv => by simp at hv ⊢; simp [hv]) (fun _ _ _ => rfl) (fun _ z => z) (Nat.le_of_ble_eq_true rfl) ?_
  refine LV.eq (tgt := 2019) dL_law_1945 (by decide) ?_
  exact k hc2 hm2 hS2

theorem lc_restore {S : pv_H → pv_H → Prop} {L : Nat} {xs : Nat → Int32} {i : Nat} {hc hm : pv_H} (hL : i + 6 ≤ L) (hLm : L ≤ 3072) (hs : sm_restore S) (hS : S hc hm) (k : ∀ hc2 hm2, S hc2 hm2 → LV L xs 2019 i [] hc2 hm2) : LV L xs 1950 i [] hc hm := by
  obtain ⟨hc2, hm2, r, e1, e2, hS2⟩ := hs hc hm hS (xs (i + 1)).toInt (pv_rg _)
  refine LV.x dL_law_1950 ?_
  refine LV.arg 1 (by decide) hL hLm dL_law_1951 dL_law_1952 dL_law_1953 dL_law_1954 dL_law_1955 ?_
  refine LV.callC (hc2 := hc2) (As := [.inl (xs (i + 1)).toInt]) (st := []) (v := .inl r) dL_law_1956 md_X9_restore ml_L_179 im_X9_restore se_X9_restore (tX9_restore (by decide) e1) rfl (fun _ _ _ => rfl) (fun v hv => Or.inl (by simp only [List.mem_cons, List.not_mem_nil, or_false] at hv; rcases hv with rfl <;> intro n <;> first | exact pv_rg _ | exact pv_rgl _ | (show _ ∧ _; split <;> decide))) (fun v hv => by cases hv) (fun _ _ _ => rfl) (fun _ z => z) (by decide) ?_
  refine LV.m dL_law_1959 ?_
  refine LV.arg 1 (by decide) hL hLm dL_law_1960 dL_law_1961 dL_law_1962 dL_law_1963 dL_law_1964 ?_
  refine LV.callM (hm2 := hm2) (As := [.inl (xs (i + 1)).toInt]) (st := [.inl r]) (v := .inl r) dL_law_1965 md_X10_restore ml_L_182 im_X10_restore se_X10_restore (tX10_restore (by decide) e2) rfl (fun _ _ _ => rfl) (fun v hv => Or.inl (by simp only [List.mem_cons, List.not_mem_nil, or_false] at hv; rcases hv with rfl <;> intro n <;> first | exact pv_rg _ | exact pv_rgl _ | (show _ ∧ _; split <;> decide))) (fun v hv => by simp at hv ⊢; simp [hv]) (fun _ _ _ => rfl) (fun _ z => z) (Nat.le_of_ble_eq_true rfl) ?_
  refine LV.eq (tgt := 2019) dL_law_1968 (by decide) ?_
  exact k hc2 hm2 hS2

theorem lc_status {S : pv_H → pv_H → Prop} {L : Nat} {xs : Nat → Int32} {i : Nat} {hc hm : pv_H} (hL : i + 6 ≤ L) (hLm : L ≤ 3072) (hs : sm_status S) (hS : S hc hm) (k : ∀ hc2 hm2, S hc2 hm2 → LV L xs 2019 i [] hc2 hm2) : LV L xs 1973 i [] hc hm := by
  obtain ⟨hm2, r, e1, e2, hS2⟩ := hs hc hm hS (xs (i + 1)).toInt (pv_rg _)
  refine LV.x dL_law_1973 ?_
  refine LV.arg 1 (by decide) hL hLm dL_law_1974 dL_law_1975 dL_law_1976 dL_law_1977 dL_law_1978 ?_
  refine LV.callC (hc2 := hc) (As := [.inl (xs (i + 1)).toInt]) (st := []) (v := .inl r) dL_law_1979 md_X9_status ml_L_183 im_X9_status se_X9_status (tX9_status (by decide) e1) rfl (fun _ _ _ => rfl) (fun v hv => Or.inl (by simp only [List.mem_cons, List.not_mem_nil, or_false] at hv; rcases hv with rfl <;> intro n <;> first | exact pv_rg _ | exact pv_rgl _ | (show _ ∧ _; split <;> decide))) (fun v hv => by cases hv) (fun _ _ _ => rfl) (fun _ z => z) (by decide) ?_
  refine LV.m dL_law_1982 ?_
  refine LV.arg 1 (by decide) hL hLm dL_law_1983 dL_law_1984 dL_law_1985 dL_law_1986 dL_law_1987 ?_
  refine LV.callM (hm2 := hm2) (As := [.inl (xs (i + 1)).toInt]) (st := [.inl r]) (v := .inl r) dL_law_1988 md_X10_status ml_L_186 im_X10_status se_X10_status (tX10_status (by decide) e2) rfl (fun _ _ _ => rfl) (fun v hv => Or.inl (by simp only [List.mem_cons, List.not_mem_nil, or_false] at hv; rcases hv with rfl <;> intro n <;> first | exact pv_rg _ | exact pv_rgl _ | (show _ ∧ _; split <;> decide))) (fun v hv => by simp at hv ⊢; simp [hv]) (fun _ _ _ => rfl) (fun _ z => z) (Nat.le_of_ble_eq_true rfl) ?_
  refine LV.eq (tgt := 2019) dL_law_1991 (by decide) ?_
  exact k hc hm2 hS2

theorem lc_count {S : pv_H → pv_H → Prop} {L : Nat} {xs : Nat → Int32} {i : Nat} {hc hm : pv_H} (hL : i + 6 ≤ L) (hLm : L ≤ 3072) (hs : sm_count S) (hS : S hc hm) (k : ∀ hc2 hm2, S hc2 hm2 → LV L xs 2019 i [] hc2 hm2) : LV L xs 1996 i [] hc hm := by
  obtain ⟨hm2, r, e1, e2, hS2⟩ := hs hc hm hS (xs (i + 1)).toInt (pv_rg _)
  refine LV.x dL_law_1996 ?_
  refine LV.arg 1 (by decide) hL hLm dL_law_1997 dL_law_1998 dL_law_1999 dL_law_2000 dL_law_2001 ?_
  refine LV.callC (hc2 := hc) (As := [.inl (xs (i + 1)).toInt]) (st := []) (v := .inl r) dL_law_2002 md_X9_count ml_L_187 im_X9_count se_X9_count (tX9_count (by decide) e1) rfl (fun _ _ _ => rfl) (fun v hv => Or.inl (by simp only [List.mem_cons, List.not_mem_nil, or_false] at hv; rcases hv with rfl <;> intro n <;> first | exact pv_rg _ | exact pv_rgl _ | (show _ ∧ _; split <;> decide))) (fun v hv => by cases hv) (fun _ _ _ => rfl) (fun _ z => z) (by decide) ?_
  refine LV.m dL_law_2005 ?_
  refine LV.arg 1 (by decide) hL hLm dL_law_2006 dL_law_2007 dL_law_2008 dL_law_2009 dL_law_2010 ?_
  refine LV.callM (hm2 := hm2) (As := [.inl (xs (i + 1)).toInt]) (st := [.inl r]) (v := .inl r) dL_law_2011 md_X10_count ml_L_190 im_X10_count se_X10_count (tX10_count (by decide) e2) rfl (fun _ _ _ => rfl) (fun v hv => Or.inl (by simp only [List.mem_cons, List.not_mem_nil, or_false] at hv; rcases hv with rfl <;> intro n <;> first | exact pv_rg _ | exact pv_rgl _ | (show _ ∧ _; split <;> decide))) (fun v hv => by simp at hv ⊢; simp [hv]) (fun _ _ _ => rfl) (fun _ z => z) (Nat.le_of_ble_eq_true rfl) ?_
  refine LV.eq (tgt := 2019) dL_law_2014 (by decide) ?_
  exact k hc hm2 hS2
