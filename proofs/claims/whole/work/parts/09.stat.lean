/-! copies -/
def pv_cp (f g : Nat → Int) (sp dp n : Nat) : Nat → Int := fun k => if dp ≤ k ∧ k < dp + n then f (sp + (k - dp)) else g k
theorem pv_cp_of {f g : Nat → Int} {sp dp n : Nat} : va_cpy (fun k => Int32.ofInt (f k)) (fun k => Int32.ofInt (g k)) sp dp n = fun k => Int32.ofInt (pv_cp f g sp dp n k) := by
  funext k
  unfold va_cpy pv_cp
  split <;> rfl
theorem pv_cp_os {m kd : Nat} {f g : Nat → Int} {sp dp n : Nat} (hf : ∀ k, pv_os m kd (f k)) (hg : ∀ k, pv_os m kd (g k)) : ∀ k, pv_os m kd (pv_cp f g sp dp n k) := by
  intro k
  unfold pv_cp
  split
  · exact hf _
  · exact hg _
theorem pv_oH_ur {sh : pv_Sh} {h : pv_H} {i : Nat} {f : Nat → Int} {q : Nat × Nat} (o : pv_oH sh h) (e : sh[i]? = some q) (hf : ∀ k, pv_os sh.length (pv_kd q k) (f k)) : pv_oH sh (pv_ur h i f) := by
  intro a q2 ea b
  by_cases ha : a = i
  · subst ha
    rw [e] at ea
    cases ea
    rw [pv_ur_self]
    exact hf b
  · rw [pv_ur_ne ha]
    exact o a q2 ea b
theorem pv_nlt {x : Int} (h1 : 0 ≤ x) (h2 : x ≤ 2147483647) : ¬ Int32.ofInt x < 0 := by
  rw [pv_z, pv_lt (by omega) h2 (by decide) (by decide)]
  omega
theorem pv_t0_os : ∀ k, -2147483648 ≤ pv_t0.getD k 0 ∧ pv_t0.getD k 0 ≤ 2147483647 := by
  intro k
  have h : ∀ x ∈ pv_t0, (-2147483648 : Int) ≤ x ∧ x ≤ 2147483647 := by decide
  rw [List.getD_eq_getElem?_getD]
  cases e : pv_t0[k]? with
  | none => exact ⟨by decide, by decide⟩
  | some x => exact h x (List.mem_of_getElem? e)
theorem pv_t1_os : ∀ k, -2147483648 ≤ pv_t1.getD k 0 ∧ pv_t1.getD k 0 ≤ 2147483647 := by
  intro k
  have h : ∀ x ∈ pv_t1, (-2147483648 : Int) ≤ x ∧ x ≤ 2147483647 := by decide
  rw [List.getD_eq_getElem?_getD]
  cases e : pv_t1[k]? with
  | none => exact ⟨by decide, by decide⟩
  | some x => exact h x (List.mem_of_getElem? e)
theorem pv_t2_os : ∀ k, -2147483648 ≤ pv_t2.getD k 0 ∧ pv_t2.getD k 0 ≤ 2147483647 := by
  intro k
  have h : ∀ x ∈ pv_t2, (-2147483648 : Int) ≤ x ∧ x ≤ 2147483647 := by decide
  rw [List.getD_eq_getElem?_getD]
  cases e : pv_t2[k]? with
  | none => exact ⟨by decide, by decide⟩
  | some x => exact h x (List.mem_of_getElem? e)
section PCT
variable {p : Program} {l : Launch} {e : Env} {R : Room} {s : State} {m : MethodId} {args : Array Value} {below : List Frame} {meth : Method} {c : Code} {H : Heap} {locs : List Loc} {cells slots : Nat} {Q : State → Prop}
variable {cc : ByteArray} {pc : Nat} {ls : Array Slot} {rest : List Value} {D : va_G} {cl : List vw_C} {A : Nat → Prop} {a : Nat} {tys : List (ClassId × FieldType)} {ws : va_W}
/-- a copy out of a table of ints that nobody writes -/
theorem pv_copyT (hexec : p.tables.exec = Jvm.exec) (hb : c.code = cc) (hml : c.maxLocals = ls.size) {own : String} {index : Nat} (hown : s.vm.findClass own = some m.cls) (hlink : (Cond.methodLink own index arraycopyName).before args s = true) (hnat : (Cond.native arraycopyName).before args s = true) (hstat : (Cond.static arraycopyName).before args s = true) (hini : (Cond.initialized "java/lang/System").before args s = true)
    (hK : va_K D cl tys s) (hP : va_P D cl ws H) (hD : va_D A ws) (hS : va_S A s.heap H locs) {b0 n0 : Nat} {f : Nat → Int32} (hX : va_T .int b0 n0 (fun j => .int (f j)) A s s.heap) (q1 t1 : Nat) {c1 : ClassId} {n1 : Nat} {g : Nat → Int32} (ha1 : ws[q1]? = some (a, .inl (c1, n1, .inl g))) (ht1 : tys[t1]? = some (c1, .int))
    {sp dp n : Int32} (h1 : ¬ sp < 0) (h2 : ¬ dp < 0) (h3 : ¬ n < 0) (h4 : sp.toNatClampNeg + n.toNatClampNeg ≤ n0) (h5 : dp.toNatClampNeg + n.toNatClampNeg ≤ n1)
    (hframes : 1 ≤ R.frames) (hlocals : (rest.map fun v => v.category).sum + (nativeFrameWords "java/lang/System" "arraycopy" 5 + 11) ≤ R.locals) (hdg : decode cc pc = .ok (.invokestatic index, 3))
    (kk : ∀ (H1 : Heap) (locs1 : List Loc), va_P D cl (ws.set q1 (a, .inl (c1, n1, .inl (va_cpy f g sp.toNatClampNeg dp.toNatClampNeg n.toNatClampNeg)))) H1 → va_D A (ws.set q1 (a, .inl (c1, n1, .inl (va_cpy f g sp.toNatClampNeg dp.toNatClampNeg n.toNatClampNeg)))) → va_S A s.heap H1 locs1 → W p l e R s m args below meth c H1 locs1 cells slots Q (F0 m (pc + 3) ls rest)) : W p l e R s m args below meth c H locs cells slots Q (F0 m pc ls (.int n :: .int dp :: .ref a :: .int sp :: .ref b0 :: rest)) := by
  have nn : ∀ z : Int32, ¬ z < 0 → z.toInt = (z.toNatClampNeg : Int) := by
    intro z hz
    have hz0 : (0 : Int) ≤ z.toInt := by simpa using Int32.le_iff_toInt_le.mp (Int32.not_lt.mp hz)
    show z.toInt = ((z.toInt.toNat : Nat) : Int)
    omega
  intro T hT X
  obtain ⟨scr, hs1, hs2, hs3, hs4, -, hs5, hs7⟩ := hX
  have hc0 : H[b0]? = some scr := by rw [hS.2.1 b0 (Array.getElem?_eq_some_iff.mp hs1).1 hs7]; exact hs1
  have hc1 : H[a]? = some (vp_cell c1 (n1, .inl g)) := hP q1 _ ha1
  obtain ⟨hs6, k0, hk0, cm0, hkk0⟩ := hs2
  obtain ⟨-, k1, hk1, cm1, hkk1⟩ := (hK.2 t1 _ ht1).1 n1 (fun j => .int (g j))
  obtain ⟨vm1, X1, step⟩ := X.arraycopy hexec hown hlink hnat hstat hini (src := b0) (dst := a) (cs := scr) (cd := vp_cell c1 (n1, .inl g)) (srcPos := sp) (destPos := dp) (n := n) (by rw [hT]; exact hc0) (by rw [hT]; exact hc1)
    hs6 (fun _ h => by cases h) hs3 (fun h => by cases h) hk0 hk1 hkk0 hkk1 (by simp [refKind]) h1 h2 h3
    (by rw [nn sp h1, nn n h3]; omega)
    (by rw [nn dp h2, nn n h3]; show ¬ _ > ((arrV c1 n1 (fun j => .int (g j))).slots.size : Int); rw [arrV_size]; omega)
    (fun _ _ i hi => by
      have ez : scr.slots.getD (sp.toNatClampNeg + i) .null = .int (f (sp.toNatClampNeg + i)) := by
        rw [Array.getD_eq_getD_getElem?, hs5 _ (by omega)]
        rfl
      rw [ez]
      exact ⟨rfl, trivial⟩)
    (g := F0 m pc ls (.int n :: .int dp :: .ref a :: .int sp :: .ref b0 :: rest)) rfl (by rw [hml]) (rest := rest) rfl (by rw [hb]; exact hdg) hframes (by show 2 * 0 + _ + _ ≤ _; omega)
  have ec : copied scr (vp_cell c1 (n1, .inl g)) sp dp n = vp_cell c1 (n1, .inl (va_cpy f g sp.toNatClampNeg dp.toNatClampNeg n.toNatClampNeg)) := va_copiedX (fun z => .int z) scr c1 f g hs5 h4
  rw [ec] at X1 step
  have hl : a < H.size := (Array.getElem?_eq_some_iff.mp hc1).1
  obtain ⟨cell, hcell⟩ : ∃ cell, vp_cell c1 (n1, .inl (va_cpy f g sp.toNatClampNeg dp.toNatClampNeg n.toNatClampNeg)) = cell := ⟨_, rfl⟩
  have hheap : ((T.setVm vm1).setCell a (vp_cell c1 (n1, .inl (va_cpy f g sp.toNatClampNeg dp.toNatClampNeg n.toNatClampNeg)))).heap = H.setIfInBounds a cell := by rw [← hT, hcell]; rfl
  have oq : ∀ q : Nat, q ≠ a → (H.setIfInBounds a cell)[q]? = H[q]? := fun q hq => by simp [Array.getElem?_setIfInBounds, Ne.symm hq]
  obtain ⟨t, y1, y2⟩ := kk (H.setIfInBounds a cell) _ (hP.set hD ha1 (show (H.setIfInBounds a cell)[a]? = some _ by rw [hcell]; simp [Array.getElem?_setIfInBounds, hl]) oq) (hD.set ha1) ⟨by simp; exact hS.1, fun q g1 g2 => by
      rw [oq q (fun z => g2 (by rw [z]; exact hD.2 q1 _ ha1))]
      exact hS.2.1 q g1 g2, fun q hq => by
      rcases List.mem_append.mp hq with h | h
      · exact hS.2.2 q h
      · obtain ⟨z, -, hz⟩ := List.mem_map.mp h
        rw [← hz]
        exact hD.2 q1 _ ha1⟩ _ hheap X1
  exact ⟨t, step t y1, y2⟩
end PCT
section RULES
variable {own : String} {cc : ByteArray} {nL : Nat} {ret : Option FieldType} {ini : Bool} {d : Nat} {sh' : pv_Sh} {h' : pv_H} {r : Option pv_V} {pc : Nat} {L : List (Option pv_V)} {st : List pv_V} {sh : pv_Sh} {h : pv_H}
theorem pv_mapD (l : List Int) (k : Nat) : (l.map Int32.ofInt).getD k 0 = Int32.ofInt (l.getD k 0) := by
  rw [List.getD_eq_getElem?_getD, List.getD_eq_getElem?_getD, List.getElem?_map]
  cases l[k]? <;> rfl
theorem EV.copy {q1 n1 idx : Nat} {sp dp n : Int} {q0 n0 : Nat} (hd : decode cc pc = .ok (.invokestatic idx, 3)) (hl1 : Cond.methodLink own idx arraycopyName ∈ pv_W) (hl2 : Cond.native arraycopyName ∈ pv_W) (hl3 : Cond.static arraycopyName ∈ pv_W) (hl4 : Cond.initialized "java/lang/System" ∈ pv_W) (hdd : 1 ≤ d) (hc : pv_cs st ≤ 8) (e0 : sh[q0]? = some (1, n0)) (e1 : sh[q1]? = some (1, n1)) (h1 : 0 ≤ sp) (h2 : 0 ≤ dp) (h3 : 0 ≤ n) (h4 : sp + n ≤ (n0 : Int)) (h5 : dp + n ≤ (n1 : Int)) (k : EV own cc nL ret ini d sh' h' r (pc + 3) L st sh (pv_ur h q1 (pv_cp (h q0) (h q1) sp.toNat dp.toNat n.toNat))) : EV own cc nL ret ini d sh' h' r pc L (.inl n :: .inl dp :: .inr (.inr q1) :: .inl sp :: .inr (.inr q0) :: st) sh h := by
  intro p l e s m args below meth c D aC ad0 ad A n0 s0 cells slots mc ms H locs ls C N R
  obtain ⟨hx, hb, hml, hrt, hown, hts, hlk, hin, hA, hK, hSt⟩ := id C
  obtain ⟨ag, hP, hD, oH, hS, hl, oL, oS⟩ := id R
  obtain ⟨o1, oS⟩ := List.forall_mem_cons.mp oS
  obtain ⟨o2, oS⟩ := List.forall_mem_cons.mp oS
  obtain ⟨o3, oS⟩ := List.forall_mem_cons.mp oS
  obtain ⟨o4, oS⟩ := List.forall_mem_cons.mp oS
  obtain ⟨o5, oS⟩ := List.forall_mem_cons.mp oS
  have ew : pv_ws aC ad sh (pv_ur h q1 (pv_cp (h q0) (h q1) sp.toNat dp.toNat n.toNat)) = (pv_ws aC ad sh h).set q1 (ad q1, pv_ce aC ad (1, n1) (pv_cp (h q0) (h q1) sp.toNat dp.toNat n.toNat)) := by
    rw [pv_ws_set (h := h) e1 (fun j hj => pv_ur_ne hj), pv_ur_self]
  have c1 : (Int32.ofInt n).toNatClampNeg = n.toNat := pv_clamp o1.1 o1.2
  have c2 : (Int32.ofInt dp).toNatClampNeg = dp.toNat := pv_clamp o2.1 o2.2
  have c3 : (Int32.ofInt sp).toNatClampNeg = sp.toNat := pv_clamp o4.1 o4.2
  refine va_copyi (ty := .int) hx hb (by rw [hml]; exact hl.1.symm) hown (hts _ hl1) (hts _ hl2) (hts _ hl3) (hts _ hl4) hK hP hD hS q0 q1 0 0 (pv_ws_at e0) (pv_ws_at e1) rfl rfl rfl (pv_nlt h1 o4.2) (pv_nlt h2 o2.2) (pv_nlt h3 o1.2) (by rw [c1, c3]; omega) (by rw [c1, c2]; omega) (fun _ _ => rfl) hdd (by rw [pv_cs_of]; show _ + 18 ≤ 64 * d; omega) hd (fun H1 locs1 hP hD hS => ?_)
  rw [c1, c2, c3, pv_cp_of] at hP hD
  have hP : va_P D vwCl ((pv_ws aC ad sh h).set q1 (ad q1, pv_ce aC ad (1, n1) (pv_cp (h q0) (h q1) sp.toNat dp.toNat n.toNat))) H1 := hP
  have hD : va_D A ((pv_ws aC ad sh h).set q1 (ad q1, pv_ce aC ad (1, n1) (pv_cp (h q0) (h q1) sp.toNat dp.toNat n.toNat))) := hD
  rw [← ew] at hP hD
  have oH := pv_oH_ur oH e1 (f := pv_cp (h q0) (h q1) sp.toNat dp.toNat n.toNat) (pv_cp_os (oH q0 _ e0) (oH q1 _ e1))
  exact k _ _ _ _ _ _ _ _ _ _ _ _ _ _ _ _ _ _ _ _ _ _ _ C N ⟨ag, hP, hD, oH, hS, hl, oL, oS⟩
theorem EV.copyT {q1 n1 idx : Nat} {sp dp n : Int}  (hd : decode cc pc = .ok (.invokestatic idx, 3)) (hl1 : Cond.methodLink own idx arraycopyName ∈ pv_W) (hl2 : Cond.native arraycopyName ∈ pv_W) (hl3 : Cond.static arraycopyName ∈ pv_W) (hl4 : Cond.initialized "java/lang/System" ∈ pv_W) (hdd : 1 ≤ d) (hc : pv_cs st ≤ 8)  (e1 : sh[q1]? = some (1, n1)) (h1 : 0 ≤ sp) (h2 : 0 ≤ dp) (h3 : 0 ≤ n) (h4 : sp + n ≤ 8) (h5 : dp + n ≤ (n1 : Int)) (k : EV own cc nL ret ini d sh' h' r (pc + 3) L st sh (pv_ur h q1 (pv_cp (fun j => pv_t0.getD j 0) (h q1) sp.toNat dp.toNat n.toNat))) : EV own cc nL ret ini d sh' h' r pc L (.inl n :: .inl dp :: .inr (.inr q1) :: .inl sp :: .inr (.inr pv_SB) :: st) sh h := by
  intro p l e s m args below meth c D aC ad0 ad A n0 s0 cells slots mc ms H locs ls C N R
  obtain ⟨hx, hb, hml, hrt, hown, hts, hlk, hin, hA, hK, hSt⟩ := id C
  obtain ⟨ag, hP, hD, oH, hS, hl, oL, oS⟩ := id R
  obtain ⟨o1, oS⟩ := List.forall_mem_cons.mp oS
  obtain ⟨o2, oS⟩ := List.forall_mem_cons.mp oS
  obtain ⟨o3, oS⟩ := List.forall_mem_cons.mp oS
  obtain ⟨o4, oS⟩ := List.forall_mem_cons.mp oS
  obtain ⟨o5, oS⟩ := List.forall_mem_cons.mp oS
  have ew : pv_ws aC ad sh (pv_ur h q1 (pv_cp (fun j => pv_t0.getD j 0) (h q1) sp.toNat dp.toNat n.toNat)) = (pv_ws aC ad sh h).set q1 (ad q1, pv_ce aC ad (1, n1) (pv_cp (fun j => pv_t0.getD j 0) (h q1) sp.toNat dp.toNat n.toNat)) := by
    rw [pv_ws_set (h := h) e1 (fun j hj => pv_ur_ne hj), pv_ur_self]
  have c1 : (Int32.ofInt n).toNatClampNeg = n.toNat := pv_clamp o1.1 o1.2
  have c2 : (Int32.ofInt dp).toNatClampNeg = dp.toNat := pv_clamp o2.1 o2.2
  have c3 : (Int32.ofInt sp).toNatClampNeg = sp.toNat := pv_clamp o4.1 o4.2
  refine pv_copyT hx hb (by rw [hml]; exact hl.1.symm) hown (hts _ hl1) (hts _ hl2) (hts _ hl3) (hts _ hl4) hK hP hD hS (f := fun j => Int32.ofInt (pv_t0.getD j 0)) hSt.1.2 q1 0 (pv_ws_at e1) rfl (pv_nlt h1 o4.2) (pv_nlt h2 o2.2) (pv_nlt h3 o1.2) (by rw [c1, c3]; omega) (by rw [c1, c2]; omega) hdd (by rw [pv_cs_of]; show _ + 18 ≤ 64 * d; omega) hd (fun H1 locs1 hP hD hS => ?_)
  rw [c1, c2, c3, pv_cp_of] at hP hD
  have hP : va_P D vwCl ((pv_ws aC ad sh h).set q1 (ad q1, pv_ce aC ad (1, n1) (pv_cp (fun j => pv_t0.getD j 0) (h q1) sp.toNat dp.toNat n.toNat))) H1 := hP
  have hD : va_D A ((pv_ws aC ad sh h).set q1 (ad q1, pv_ce aC ad (1, n1) (pv_cp (fun j => pv_t0.getD j 0) (h q1) sp.toNat dp.toNat n.toNat))) := hD
  rw [← ew] at hP hD
  have oH := pv_oH_ur oH e1 (f := pv_cp (fun j => pv_t0.getD j 0) (h q1) sp.toNat dp.toNat n.toNat) (pv_cp_os (fun j => pv_t0_os j) (oH q1 _ e1))
  exact k _ _ _ _ _ _ _ _ _ _ _ _ _ _ _ _ _ _ _ _ _ _ _ C N ⟨ag, hP, hD, oH, hS, hl, oL, oS⟩
theorem EV.gets0 {idx : Nat} {host : String} (hd : decode cc pc = .ok (.getstatic idx, 3)) (hl1 : Cond.fieldLinkNest own idx "RodInThree" "LAW_WITHOUT" "[I" host ∈ pv_nest) (k : EV own cc nL ret ini d sh' h' r (pc + 3) L (.inr (.inr pv_SB) :: st) sh h) : EV own cc nL ret ini d sh' h' r pc L st sh h := by
  intro p l e s m args below meth c D aC ad0 ad A n0 s0 cells slots mc ms H locs ls C N R
  obtain ⟨hx, hb, hml, hrt, hown, hts, hlk, hin, hA, hK, hSt⟩ := id C
  obtain ⟨ag, hP, hD, oH, hS, hl, oL, oS⟩ := id R
  refine va_getsN hx hb hSt.1.1 hS hown (va_Nw.use rfl (hSt.2.2.2.2.2.2.1 _ hl1)) (fun _ z => z) hd ?_
  exact k _ _ _ _ _ _ _ _ _ _ _ _ _ _ _ _ _ _ _ _ _ _ _ C N ⟨ag, hP, hD, oH, hS, hl, oL, List.forall_mem_cons.mpr ⟨Or.inr (by unfold pv_SB; omega), oS⟩⟩
theorem EV.tald0 {i : Int} (hd : decode cc pc = .ok (.iaload, 1)) (h1 : 0 ≤ i) (h2 : i < 8) (k : EV own cc nL ret ini d sh' h' r (pc + 1) L (.inl (pv_t0.getD i.toNat 0) :: st) sh h) : EV own cc nL ret ini d sh' h' r pc L (.inl i :: .inr (.inr pv_SB) :: st) sh h := by
  intro p l e s m args below meth c D aC ad0 ad A n0 s0 cells slots mc ms H locs ls C N R
  obtain ⟨hx, hb, hml, hrt, hown, hts, hlk, hin, hA, hK, hSt⟩ := id C
  obtain ⟨ag, hP, hD, oH, hS, hl, oL, oS⟩ := id R
  obtain ⟨o1, oS⟩ := List.forall_mem_cons.mp oS
  obtain ⟨o2, oS⟩ := List.forall_mem_cons.mp oS
  have ei : (Int32.ofInt i).toNatClampNeg = i.toNat := pv_clamp o1.1 o1.2
  refine va_ti hx hb hSt.1.2 hS (pv_in h1 h2 o1.2) (v := pv_tv ad (.inl (pv_t0.getD i.toNat 0))) (by rw [ei]; rfl) hd ?_
  exact k _ _ _ _ _ _ _ _ _ _ _ _ _ _ _ _ _ _ _ _ _ _ _ C N ⟨ag, hP, hD, oH, hS, hl, oL, List.forall_mem_cons.mpr ⟨pv_t0_os _, oS⟩⟩
theorem EV.gets1 {idx : Nat} {host : String} (hd : decode cc pc = .ok (.getstatic idx, 3)) (hl1 : Cond.fieldLinkNest own idx "RodInThree" "LEAST" "[I" host ∈ pv_nest) (k : EV own cc nL ret ini d sh' h' r (pc + 3) L (.inr (.inr (pv_SB + 1)) :: st) sh h) : EV own cc nL ret ini d sh' h' r pc L st sh h := by
  intro p l e s m args below meth c D aC ad0 ad A n0 s0 cells slots mc ms H locs ls C N R
  obtain ⟨hx, hb, hml, hrt, hown, hts, hlk, hin, hA, hK, hSt⟩ := id C
  obtain ⟨ag, hP, hD, oH, hS, hl, oL, oS⟩ := id R
  refine va_getsN hx hb hSt.2.1.1 hS hown (va_Nw.use rfl (hSt.2.2.2.2.2.2.1 _ hl1)) (fun _ z => z) hd ?_
  exact k _ _ _ _ _ _ _ _ _ _ _ _ _ _ _ _ _ _ _ _ _ _ _ C N ⟨ag, hP, hD, oH, hS, hl, oL, List.forall_mem_cons.mpr ⟨Or.inr (by unfold pv_SB; omega), oS⟩⟩
theorem EV.tald1 {i : Int} (hd : decode cc pc = .ok (.iaload, 1)) (h1 : 0 ≤ i) (h2 : i < 37) (k : EV own cc nL ret ini d sh' h' r (pc + 1) L (.inl (pv_t1.getD i.toNat 0) :: st) sh h) : EV own cc nL ret ini d sh' h' r pc L (.inl i :: .inr (.inr (pv_SB + 1)) :: st) sh h := by
  intro p l e s m args below meth c D aC ad0 ad A n0 s0 cells slots mc ms H locs ls C N R
  obtain ⟨hx, hb, hml, hrt, hown, hts, hlk, hin, hA, hK, hSt⟩ := id C
  obtain ⟨ag, hP, hD, oH, hS, hl, oL, oS⟩ := id R
  obtain ⟨o1, oS⟩ := List.forall_mem_cons.mp oS
  obtain ⟨o2, oS⟩ := List.forall_mem_cons.mp oS
  have ei : (Int32.ofInt i).toNatClampNeg = i.toNat := pv_clamp o1.1 o1.2
  refine va_ti hx hb hSt.2.1.2 hS (pv_in h1 h2 o1.2) (v := pv_tv ad (.inl (pv_t1.getD i.toNat 0))) (by rw [ei]; rfl) hd ?_
  exact k _ _ _ _ _ _ _ _ _ _ _ _ _ _ _ _ _ _ _ _ _ _ _ C N ⟨ag, hP, hD, oH, hS, hl, oL, List.forall_mem_cons.mpr ⟨pv_t1_os _, oS⟩⟩
theorem EV.gets2 {idx : Nat} {host : String} (hd : decode cc pc = .ok (.getstatic idx, 3)) (hl1 : Cond.fieldLinkNest own idx "RodInThree" "MOST" "[I" host ∈ pv_nest) (k : EV own cc nL ret ini d sh' h' r (pc + 3) L (.inr (.inr (pv_SB + 2)) :: st) sh h) : EV own cc nL ret ini d sh' h' r pc L st sh h := by
  intro p l e s m args below meth c D aC ad0 ad A n0 s0 cells slots mc ms H locs ls C N R
  obtain ⟨hx, hb, hml, hrt, hown, hts, hlk, hin, hA, hK, hSt⟩ := id C
  obtain ⟨ag, hP, hD, oH, hS, hl, oL, oS⟩ := id R
  refine va_getsN hx hb hSt.2.2.1.1 hS hown (va_Nw.use rfl (hSt.2.2.2.2.2.2.1 _ hl1)) (fun _ z => z) hd ?_
  exact k _ _ _ _ _ _ _ _ _ _ _ _ _ _ _ _ _ _ _ _ _ _ _ C N ⟨ag, hP, hD, oH, hS, hl, oL, List.forall_mem_cons.mpr ⟨Or.inr (by unfold pv_SB; omega), oS⟩⟩
theorem EV.tald2 {i : Int} (hd : decode cc pc = .ok (.iaload, 1)) (h1 : 0 ≤ i) (h2 : i < 37) (k : EV own cc nL ret ini d sh' h' r (pc + 1) L (.inl (pv_t2.getD i.toNat 0) :: st) sh h) : EV own cc nL ret ini d sh' h' r pc L (.inl i :: .inr (.inr (pv_SB + 2)) :: st) sh h := by
  intro p l e s m args below meth c D aC ad0 ad A n0 s0 cells slots mc ms H locs ls C N R
  obtain ⟨hx, hb, hml, hrt, hown, hts, hlk, hin, hA, hK, hSt⟩ := id C
  obtain ⟨ag, hP, hD, oH, hS, hl, oL, oS⟩ := id R
  obtain ⟨o1, oS⟩ := List.forall_mem_cons.mp oS
  obtain ⟨o2, oS⟩ := List.forall_mem_cons.mp oS
  have ei : (Int32.ofInt i).toNatClampNeg = i.toNat := pv_clamp o1.1 o1.2
  refine va_ti hx hb hSt.2.2.1.2 hS (pv_in h1 h2 o1.2) (v := pv_tv ad (.inl (pv_t2.getD i.toNat 0))) (by rw [ei]; rfl) hd ?_
  exact k _ _ _ _ _ _ _ _ _ _ _ _ _ _ _ _ _ _ _ _ _ _ _ C N ⟨ag, hP, hD, oH, hS, hl, oL, List.forall_mem_cons.mpr ⟨pv_t2_os _, oS⟩⟩
def pv_tx (j : Nat) : List Int := match j with
  | 0 => pv_s0
  | _ => pv_s1t
theorem pv_tx_os : ∀ j k, 0 ≤ (pv_tx j).getD k 0 ∧ (pv_tx j).getD k 0 ≤ 127 := by
  intro j k
  have h0 : ∀ x ∈ pv_s0, (0 : Int) ≤ x ∧ x ≤ 127 := by decide +kernel
  have h1 : ∀ x ∈ pv_s1t, (0 : Int) ≤ x ∧ x ≤ 127 := by decide +kernel
  rw [List.getD_eq_getElem?_getD]
  cases e : (pv_tx j)[k]? with
  | none => exact ⟨by decide, by decide⟩
  | some x =>
    match j, e with
    | 0, e => exact h0 x (List.mem_of_getElem? e)
    | j + 1, e => exact h1 x (List.mem_of_getElem? e)
theorem EV.ldcS0 (ho : own = RX4) (hd : decode cc pc = .ok (.ldc 47, 2)) (k : EV own cc nL ret ini d sh' h' r (pc + 2) L (.inr (.inr (pv_SB + 3)) :: st) sh h) : EV own cc nL ret ini d sh' h' r pc L st sh h := by
  intro p l e s m args below meth c D aC ad0 ad A n0 s0 cells slots mc ms H locs ls C N R
  obtain ⟨hx, hb, hml, hrt, hown, hts, hlk, hin, hA, hK, hSt⟩ := id C
  obtain ⟨ag, hP, hD, oH, hS, hl, oL, oS⟩ := id R
  subst ho
  refine va_ldcS hx hb hown hSt.2.2.2.2.2.1.1 hd ?_
  exact k _ _ _ _ _ _ _ _ _ _ _ _ _ _ _ _ _ _ _ _ _ _ _ C N ⟨ag, hP, hD, oH, hS, hl, oL, List.forall_mem_cons.mpr ⟨Or.inr (by unfold pv_SB; omega), oS⟩⟩
theorem EV.strV0 {idx : Nat} (hd : decode cc pc = .ok (.getfield idx, 3)) (hl1 : Cond.fieldLink own idx "java/lang/String" "value" "[B" ∈ pv_W) (k : EV own cc nL ret ini d sh' h' r (pc + 3) L (.inr (.inr (pv_SB + 5)) :: st) sh h) : EV own cc nL ret ini d sh' h' r pc L (.inr (.inr (pv_SB + 3)) :: st) sh h := by
  intro p l e s m args below meth c D aC ad0 ad A n0 s0 cells slots mc ms H locs ls C N R
  obtain ⟨hx, hb, hml, hrt, hown, hts, hlk, hin, hA, hK, hSt⟩ := id C
  obtain ⟨ag, hP, hD, oH, hS, hl, oL, oS⟩ := id R
  obtain ⟨o1, oS⟩ := List.forall_mem_cons.mp oS
  refine vk_getf hx hb (hSt.2.2.2.2.1.1 0 (by decide)).2.2.1 hS hown (hts _ hl1) (fun _ z => z) hd ?_
  exact k _ _ _ _ _ _ _ _ _ _ _ _ _ _ _ _ _ _ _ _ _ _ _ C N ⟨ag, hP, hD, oH, hS, hl, oL, List.forall_mem_cons.mpr ⟨Or.inr (by unfold pv_SB; omega), oS⟩⟩
theorem EV.strC0 {idx : Nat} (hd : decode cc pc = .ok (.getfield idx, 3)) (hl1 : Cond.fieldLink own idx "java/lang/String" "coder" "B" ∈ pv_W) (k : EV own cc nL ret ini d sh' h' r (pc + 3) L (.inl 0 :: st) sh h) : EV own cc nL ret ini d sh' h' r pc L (.inr (.inr (pv_SB + 3)) :: st) sh h := by
  intro p l e s m args below meth c D aC ad0 ad A n0 s0 cells slots mc ms H locs ls C N R
  obtain ⟨hx, hb, hml, hrt, hown, hts, hlk, hin, hA, hK, hSt⟩ := id C
  obtain ⟨ag, hP, hD, oH, hS, hl, oL, oS⟩ := id R
  obtain ⟨o1, oS⟩ := List.forall_mem_cons.mp oS
  refine vk_getf hx hb (hSt.2.2.2.2.1.1 0 (by decide)).2.1 hS hown (hts _ hl1) (fun _ z => z) hd ?_
  exact k _ _ _ _ _ _ _ _ _ _ _ _ _ _ _ _ _ _ _ _ _ _ _ C N ⟨ag, hP, hD, oH, hS, hl, oL, List.forall_mem_cons.mpr ⟨⟨by decide, by decide⟩, oS⟩⟩
theorem EV.alenS0 (hd : decode cc pc = .ok (.arraylength, 1)) (k : EV own cc nL ret ini d sh' h' r (pc + 1) L (.inl 204 :: st) sh h) : EV own cc nL ret ini d sh' h' r pc L (.inr (.inr (pv_SB + 5)) :: st) sh h := by
  intro p l e s m args below meth c D aC ad0 ad A n0 s0 cells slots mc ms H locs ls C N R
  obtain ⟨hx, hb, hml, hrt, hown, hts, hlk, hin, hA, hK, hSt⟩ := id C
  obtain ⟨ag, hP, hD, oH, hS, hl, oL, oS⟩ := id R
  obtain ⟨o1, oS⟩ := List.forall_mem_cons.mp oS
  obtain ⟨cell, z1, z2, z3, z4, z5, z6, z7⟩ := (hSt.2.2.2.2.1.1 0 (by decide)).2.2.2
  refine W.alen (n := Int32.ofInt 204) hx hb (by rw [hS.2.1 _ (Array.getElem?_eq_some_iff.mp z1).1 z7]; exact z1) z2 z5 rfl rfl hd ?_
  exact k _ _ _ _ _ _ _ _ _ _ _ _ _ _ _ _ _ _ _ _ _ _ _ C N ⟨ag, hP, hD, oH, hS, hl, oL, List.forall_mem_cons.mpr ⟨⟨by decide, by decide⟩, oS⟩⟩
theorem EV.baldS0 {i : Int} (hd : decode cc pc = .ok (.baload, 1)) (h1 : 0 ≤ i) (h2 : i < 204) (k : EV own cc nL ret ini d sh' h' r (pc + 1) L (.inl ((pv_tx 0).getD i.toNat 0) :: st) sh h) : EV own cc nL ret ini d sh' h' r pc L (.inl i :: .inr (.inr (pv_SB + 5)) :: st) sh h := by
  intro p l e s m args below meth c D aC ad0 ad A n0 s0 cells slots mc ms H locs ls C N R
  obtain ⟨hx, hb, hml, hrt, hown, hts, hlk, hin, hA, hK, hSt⟩ := id C
  obtain ⟨ag, hP, hD, oH, hS, hl, oL, oS⟩ := id R
  obtain ⟨o1, oS⟩ := List.forall_mem_cons.mp oS
  obtain ⟨o2, oS⟩ := List.forall_mem_cons.mp oS
  have ei : (Int32.ofInt i).toNatClampNeg = i.toNat := pv_clamp o1.1 o1.2
  refine va_tb hx hb (hSt.2.2.2.2.1.1 0 (by decide)).2.2.2 hS (pv_in h1 h2 o1.2) (v := pv_tv ad (.inl ((pv_tx 0).getD i.toNat 0))) (by rw [ei]; exact congrArg Value.int (pv_mapD _ _)) hd ?_
  exact k _ _ _ _ _ _ _ _ _ _ _ _ _ _ _ _ _ _ _ _ _ _ _ C N ⟨ag, hP, hD, oH, hS, hl, oL, List.forall_mem_cons.mpr ⟨⟨by have := (pv_tx_os 0 i.toNat).1; omega, by have := (pv_tx_os 0 i.toNat).2; omega⟩, oS⟩⟩
theorem EV.ldcS1 (ho : own = RX10) (hd : decode cc pc = .ok (.ldc 138, 2)) (k : EV own cc nL ret ini d sh' h' r (pc + 2) L (.inr (.inr (pv_SB + 4)) :: st) sh h) : EV own cc nL ret ini d sh' h' r pc L st sh h := by
  intro p l e s m args below meth c D aC ad0 ad A n0 s0 cells slots mc ms H locs ls C N R
  obtain ⟨hx, hb, hml, hrt, hown, hts, hlk, hin, hA, hK, hSt⟩ := id C
  obtain ⟨ag, hP, hD, oH, hS, hl, oL, oS⟩ := id R
  subst ho
  refine va_ldcS hx hb hown hSt.2.2.2.2.2.1.2 hd ?_
  exact k _ _ _ _ _ _ _ _ _ _ _ _ _ _ _ _ _ _ _ _ _ _ _ C N ⟨ag, hP, hD, oH, hS, hl, oL, List.forall_mem_cons.mpr ⟨Or.inr (by unfold pv_SB; omega), oS⟩⟩
theorem EV.strV1 {idx : Nat} (hd : decode cc pc = .ok (.getfield idx, 3)) (hl1 : Cond.fieldLink own idx "java/lang/String" "value" "[B" ∈ pv_W) (k : EV own cc nL ret ini d sh' h' r (pc + 3) L (.inr (.inr (pv_SB + 6)) :: st) sh h) : EV own cc nL ret ini d sh' h' r pc L (.inr (.inr (pv_SB + 4)) :: st) sh h := by
  intro p l e s m args below meth c D aC ad0 ad A n0 s0 cells slots mc ms H locs ls C N R
  obtain ⟨hx, hb, hml, hrt, hown, hts, hlk, hin, hA, hK, hSt⟩ := id C
  obtain ⟨ag, hP, hD, oH, hS, hl, oL, oS⟩ := id R
  obtain ⟨o1, oS⟩ := List.forall_mem_cons.mp oS
  refine vk_getf hx hb (hSt.2.2.2.2.1.1 1 (by decide)).2.2.1 hS hown (hts _ hl1) (fun _ z => z) hd ?_
  exact k _ _ _ _ _ _ _ _ _ _ _ _ _ _ _ _ _ _ _ _ _ _ _ C N ⟨ag, hP, hD, oH, hS, hl, oL, List.forall_mem_cons.mpr ⟨Or.inr (by unfold pv_SB; omega), oS⟩⟩
theorem EV.strC1 {idx : Nat} (hd : decode cc pc = .ok (.getfield idx, 3)) (hl1 : Cond.fieldLink own idx "java/lang/String" "coder" "B" ∈ pv_W) (k : EV own cc nL ret ini d sh' h' r (pc + 3) L (.inl 0 :: st) sh h) : EV own cc nL ret ini d sh' h' r pc L (.inr (.inr (pv_SB + 4)) :: st) sh h := by
  intro p l e s m args below meth c D aC ad0 ad A n0 s0 cells slots mc ms H locs ls C N R
  obtain ⟨hx, hb, hml, hrt, hown, hts, hlk, hin, hA, hK, hSt⟩ := id C
  obtain ⟨ag, hP, hD, oH, hS, hl, oL, oS⟩ := id R
  obtain ⟨o1, oS⟩ := List.forall_mem_cons.mp oS
  refine vk_getf hx hb (hSt.2.2.2.2.1.1 1 (by decide)).2.1 hS hown (hts _ hl1) (fun _ z => z) hd ?_
  exact k _ _ _ _ _ _ _ _ _ _ _ _ _ _ _ _ _ _ _ _ _ _ _ C N ⟨ag, hP, hD, oH, hS, hl, oL, List.forall_mem_cons.mpr ⟨⟨by decide, by decide⟩, oS⟩⟩
theorem EV.alenS1 (hd : decode cc pc = .ok (.arraylength, 1)) (k : EV own cc nL ret ini d sh' h' r (pc + 1) L (.inl 205 :: st) sh h) : EV own cc nL ret ini d sh' h' r pc L (.inr (.inr (pv_SB + 6)) :: st) sh h := by
  intro p l e s m args below meth c D aC ad0 ad A n0 s0 cells slots mc ms H locs ls C N R
  obtain ⟨hx, hb, hml, hrt, hown, hts, hlk, hin, hA, hK, hSt⟩ := id C
  obtain ⟨ag, hP, hD, oH, hS, hl, oL, oS⟩ := id R
  obtain ⟨o1, oS⟩ := List.forall_mem_cons.mp oS
  obtain ⟨cell, z1, z2, z3, z4, z5, z6, z7⟩ := (hSt.2.2.2.2.1.1 1 (by decide)).2.2.2
  refine W.alen (n := Int32.ofInt 205) hx hb (by rw [hS.2.1 _ (Array.getElem?_eq_some_iff.mp z1).1 z7]; exact z1) z2 z5 rfl rfl hd ?_
  exact k _ _ _ _ _ _ _ _ _ _ _ _ _ _ _ _ _ _ _ _ _ _ _ C N ⟨ag, hP, hD, oH, hS, hl, oL, List.forall_mem_cons.mpr ⟨⟨by decide, by decide⟩, oS⟩⟩
theorem EV.baldS1 {i : Int} (hd : decode cc pc = .ok (.baload, 1)) (h1 : 0 ≤ i) (h2 : i < 205) (k : EV own cc nL ret ini d sh' h' r (pc + 1) L (.inl ((pv_tx 1).getD i.toNat 0) :: st) sh h) : EV own cc nL ret ini d sh' h' r pc L (.inl i :: .inr (.inr (pv_SB + 6)) :: st) sh h := by
  intro p l e s m args below meth c D aC ad0 ad A n0 s0 cells slots mc ms H locs ls C N R
  obtain ⟨hx, hb, hml, hrt, hown, hts, hlk, hin, hA, hK, hSt⟩ := id C
  obtain ⟨ag, hP, hD, oH, hS, hl, oL, oS⟩ := id R
  obtain ⟨o1, oS⟩ := List.forall_mem_cons.mp oS
  obtain ⟨o2, oS⟩ := List.forall_mem_cons.mp oS
  have ei : (Int32.ofInt i).toNatClampNeg = i.toNat := pv_clamp o1.1 o1.2
  refine va_tb hx hb (hSt.2.2.2.2.1.1 1 (by decide)).2.2.2 hS (pv_in h1 h2 o1.2) (v := pv_tv ad (.inl ((pv_tx 1).getD i.toNat 0))) (by rw [ei]; exact congrArg Value.int (pv_mapD _ _)) hd ?_
  exact k _ _ _ _ _ _ _ _ _ _ _ _ _ _ _ _ _ _ _ _ _ _ _ C N ⟨ag, hP, hD, oH, hS, hl, oL, List.forall_mem_cons.mpr ⟨⟨by have := (pv_tx_os 1 i.toNat).1; omega, by have := (pv_tx_os 1 i.toNat).2; omega⟩, oS⟩⟩
theorem EV.cmpS {idx : Nat} (hd : decode cc pc = .ok (.getstatic idx, 3)) (hl1 : Cond.fieldLink own idx "java/lang/String" "COMPACT_STRINGS" "Z" ∈ pv_W) (k : EV own cc nL ret ini d sh' h' r (pc + 3) L (.inl 1 :: st) sh h) : EV own cc nL ret ini d sh' h' r pc L st sh h := by
  intro p l e s m args below meth c D aC ad0 ad A n0 s0 cells slots mc ms H locs ls C N R
  obtain ⟨hx, hb, hml, hrt, hown, hts, hlk, hin, hA, hK, hSt⟩ := id C
  obtain ⟨ag, hP, hD, oH, hS, hl, oL, oS⟩ := id R
  refine va_gets hx hb hSt.2.2.2.1.1 hS hown (hts _ hl1) (fun _ z => z) hd ?_
  exact k _ _ _ _ _ _ _ _ _ _ _ _ _ _ _ _ _ _ _ _ _ _ _ C N ⟨ag, hP, hD, oH, hS, hl, oL, List.forall_mem_cons.mpr ⟨⟨by decide, by decide⟩, oS⟩⟩
def pv_wc (x : Int) : Int := ((Int32.ofInt x).toUInt32.toUInt16.toUInt32.toInt32).toInt
end RULES
