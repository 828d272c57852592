/-! rows filled -/
theorem pv_fill_step {h : pv_H} {a i n : Nat} {x : Int} (hi : i < n) : pv_up (pv_ur h a (fun k => if k < i then x else h a k)) a i x = pv_ur h a (fun k => if k < i + 1 then x else h a k) := by
  funext p q
  unfold pv_up pv_ur
  by_cases hp : p = a
  · subst hp
    by_cases hq : q = i
    · subst hq
      simp
    · rw [if_neg (fun z => hq z.2)]
      simp only [if_true]
      by_cases hl : q < i
      · rw [if_pos hl, if_pos (by omega)]
      · rw [if_neg hl, if_neg (by omega)]
  · rw [if_neg (fun z => hp z.1)]
    simp [hp]
theorem pv_fill_0 {h : pv_H} {a : Nat} {x : Int} : pv_ur h a (fun k => if k < 0 then x else h a k) = h := by
  funext p q
  unfold pv_ur
  by_cases hp : p = a
  · subst hp; simp
  · simp [hp]
theorem t_fillLI {d a n : Nat} {x : Int} {sh : pv_Sh} {mu : Nat → Nat → Bool} {h0 h : pv_H} (e0 : sh[a]? = some (1, n)) (hn : n ≤ 100000) : ∀ (k i : Nat), i + k = n → EV RJ7 cJ7_fill_53178 4 none false d sh (pv_mx sh mu h0 (pv_ur h a (fun k => if k < n then x else h a k))) none 5 [some (.inr (.inr a)), some (.inl x), some (.inl (i : Int)), some (.inl (n : Int))] [] sh (pv_mx sh mu h0 (pv_ur h a (fun k => if k < i then x else h a k))) := by
  intro k
  induction k with
  | zero =>
    intro i hi
    have hi : i = n := by omega
    subst hi
    refine EV.iload_n dJ7_fill_53178_5 rfl rfl ?_
    refine EV.iload_n dJ7_fill_53178_6 rfl rfl ?_
    refine EV.icmp_ge (tgt := 20) dJ7_fill_53178_7 (by decide) (fun _ => ?_) (fun q => absurd (Int.le_refl _) q)
    exact FV.vret dJ7_fill_53178_20 rfl
  | succ k ih =>
    intro i hi
    refine EV.iload_n dJ7_fill_53178_5 rfl rfl ?_
    refine EV.iload_n dJ7_fill_53178_6 rfl rfl ?_
    refine EV.icmp_ge (tgt := 20) dJ7_fill_53178_7 (by decide) (fun q => absurd q (by omega)) (fun _ => ?_)
    refine EV.aload_n dJ7_fill_53178_10 rfl rfl ?_
    refine EV.iload_n dJ7_fill_53178_11 rfl rfl ?_
    refine EV.iload_n dJ7_fill_53178_12 rfl rfl ?_
    refine FV.iast dJ7_fill_53178_13 e0 (by omega) (by omega) (j := i) (by omega) (pv_fill_step (n := n) (by omega)) ?_
    refine FV.inc (L2 := [some (.inr (.inr a)), some (.inl x), some (.inl ((i + 1 : Nat) : Int)), some (.inl (n : Int))]) dJ7_fill_53178_14 rfl (Nat.le_of_ble_eq_true rfl) (by rw [pv_w_id (by omega) (by omega)]; omega) rfl ?_
    refine EV.goto (tgt := 5) dJ7_fill_53178_17 (by decide) ?_
    exact ih (i + 1) (by omega)
theorem t_fillI {d a n : Nat} {x : Int} {sh : pv_Sh} {mu : Nat → Nat → Bool} {h0 h h2 : pv_H} (hd : 1 ≤ d) (e0 : sh[a]? = some (1, n)) (hn : n ≤ 100000) (eh : pv_ur h a (fun k => if k < n then x else h a k) = h2) : CALL yJ7_fill_53178 cJ7_fill_53178 4 none d sh (pv_mx sh mu h0 h) [.inr (.inr a), .inl x] sh (pv_mx sh mu h0 h2) none := by
  subst eh
  refine EV.call (own := RJ7) (ini := false) rfl rfl (fun q => by cases q) ⟨[], (List.append_nil _).symm⟩ (Nat.le_of_ble_eq_true rfl) ?_
  refine EV.eqL (L2 := [some (.inr (.inr a)), some (.inl x), none, none]) rfl ?_
  refine EV.iconst dJ7_fill_53178_0 (by decide) (by decide) ?_
  refine FV.sti (L2 := [some (.inr (.inr a)), some (.inl x), some (.inl 0), none]) dJ7_fill_53178_1 rfl (Nat.le_of_ble_eq_true rfl) rfl rfl ?_
  refine EV.aload_n dJ7_fill_53178_2 rfl rfl ?_
  refine EV.alen dJ7_fill_53178_3 e0 (by omega) ?_
  refine FV.sti (L2 := [some (.inr (.inr a)), some (.inl x), some (.inl 0), some (.inl (n : Int))]) dJ7_fill_53178_4 rfl (Nat.le_of_ble_eq_true rfl) rfl rfl ?_
  have := t_fillLI (d := d) (x := x) (mu := mu) (h0 := h0) (h := h) e0 hn n 0 (by omega)
  rw [pv_fill_0] at this
  exact this
theorem t_fillLL {d a n : Nat} {x : Int} {sh : pv_Sh} {mu : Nat → Nat → Bool} {h0 h : pv_H} (e0 : sh[a]? = some (2, n)) (hn : n ≤ 100000) : ∀ (k i : Nat), i + k = n → EV RJ7 cJ7_fill_d0a16 5 none false d sh (pv_mx sh mu h0 (pv_ur h a (fun k => if k < n then x else h a k))) none 6 [some (.inr (.inr a)), some (.inr (.inl x)), none, some (.inl (i : Int)), some (.inl (n : Int))] [] sh (pv_mx sh mu h0 (pv_ur h a (fun k => if k < i then x else h a k))) := by
  intro k
  induction k with
  | zero =>
    intro i hi
    have hi : i = n := by omega
    subst hi
    refine EV.iload_n dJ7_fill_d0a16_6 rfl rfl ?_
    refine EV.iload dJ7_fill_d0a16_7 rfl ?_
    refine EV.icmp_ge (tgt := 22) dJ7_fill_d0a16_9 (by decide) (fun _ => ?_) (fun q => absurd (Int.le_refl _) q)
    exact FV.vret dJ7_fill_d0a16_22 rfl
  | succ k ih =>
    intro i hi
    refine EV.iload_n dJ7_fill_d0a16_6 rfl rfl ?_
    refine EV.iload dJ7_fill_d0a16_7 rfl ?_
    refine EV.icmp_ge (tgt := 22) dJ7_fill_d0a16_9 (by decide) (fun q => absurd q (by omega)) (fun _ => ?_)
    refine EV.aload_n dJ7_fill_d0a16_12 rfl rfl ?_
    refine EV.iload_n dJ7_fill_d0a16_13 rfl rfl ?_
    refine EV.lload_n dJ7_fill_d0a16_14 rfl rfl ?_
    refine FV.last dJ7_fill_d0a16_15 e0 (by omega) (by omega) (j := i) (by omega) (pv_fill_step (n := n) (by omega)) ?_
    refine FV.inc (L2 := [some (.inr (.inr a)), some (.inr (.inl x)), none, some (.inl ((i + 1 : Nat) : Int)), some (.inl (n : Int))]) dJ7_fill_d0a16_16 rfl (Nat.le_of_ble_eq_true rfl) (by rw [pv_w_id (by omega) (by omega)]; omega) rfl ?_
    refine EV.goto (tgt := 6) dJ7_fill_d0a16_19 (by decide) ?_
    exact ih (i + 1) (by omega)
theorem t_fillL {d a n : Nat} {x : Int} {sh : pv_Sh} {mu : Nat → Nat → Bool} {h0 h h2 : pv_H} (hd : 1 ≤ d) (e0 : sh[a]? = some (2, n)) (hn : n ≤ 100000) (eh : pv_ur h a (fun k => if k < n then x else h a k) = h2) : CALL yJ7_fill_d0a16 cJ7_fill_d0a16 5 none d sh (pv_mx sh mu h0 h) [.inr (.inr a), .inr (.inl x)] sh (pv_mx sh mu h0 h2) none := by
  subst eh
  refine EV.call (own := RJ7) (ini := false) rfl rfl (fun q => by cases q) ⟨[], (List.append_nil _).symm⟩ (Nat.le_of_ble_eq_true rfl) ?_
  refine EV.eqL (L2 := [some (.inr (.inr a)), some (.inr (.inl x)), none, none, none]) rfl ?_
  refine EV.iconst dJ7_fill_d0a16_0 (by decide) (by decide) ?_
  refine FV.sti (L2 := [some (.inr (.inr a)), some (.inr (.inl x)), none, some (.inl 0), none]) dJ7_fill_d0a16_1 rfl (Nat.le_of_ble_eq_true rfl) rfl rfl ?_
  refine EV.aload_n dJ7_fill_d0a16_2 rfl rfl ?_
  refine EV.alenl dJ7_fill_d0a16_3 e0 (by omega) ?_
  refine FV.stiw (L2 := [some (.inr (.inr a)), some (.inr (.inl x)), none, some (.inl 0), some (.inl (n : Int))]) dJ7_fill_d0a16_4 (Nat.le_of_ble_eq_true rfl) rfl rfl ?_
  have := t_fillLL (d := d) (x := x) (mu := mu) (h0 := h0) (h := h) e0 hn n 0 (by omega)
  rw [pv_fill_0] at this
  exact this
/-! texts: length and charAt, by the JDK's own code -/
theorem t_pre (l : Launch) {i n : Int} {v : Value} (o1 : i ≤ 2147483647) (o2 : n ≤ 2147483647) (h1 : 0 ≤ i) (h2 : i < n) (hv : v.category = 1) : Met l yJ3_checkIndex_8e157 (Cond.code yJ3_checkIndex_8e157 cJ3_checkIndex_8e157 3 (some .int) :: pv_W) (pv_rm 1 0 0) (va_Pc [.int (Int32.ofInt i), .int (Int32.ofInt n), v] (fun _ => True)) (fun _ st o t => o = .returned (some (.int (Int32.ofInt i))) ∧ t.heap = st.heap) 0 0 (fun _ => False) := by
  refine Met.ofW (cc := cJ3_checkIndex_8e157) (maxL := 3) (ret := some .int) rfl rfl ?_
  intro p e s m args below meth c s1 B hml hvv
  obtain ⟨rfl, -⟩ := hvv
  have hx := B.exec
  have hb := B.bytes
  have hr := B.returns
  have hlocks := B.notSynchronized
  have hlen : (lg_sl [.int (Int32.ofInt i), .int (Int32.ofInt n), v]).length ≤ 3 := by
    have e : lg_sl [.int (Int32.ofInt i), .int (Int32.ofInt n), v] = [.val (.int (Int32.ofInt i)), .val (.int (Int32.ofInt n)), .val v] := by
      show [Slot.val (.int (Int32.ofInt i))] ++ ([Slot.val (.int (Int32.ofInt n))] ++ ((if v.category = 2 then [Slot.val v, .second] else [Slot.val v]) ++ [])) = _
      rw [if_neg (by rw [hv]; decide)]
      rfl
    rw [e]
    exact Nat.le_refl 3
  have hl := lv_entry [.int (Int32.ofInt i), .int (Int32.ofInt n), v] (n := 3) hlen
  rw [lg_entry_eq]
  generalize (lg_sl [.int (Int32.ofInt i), .int (Int32.ofInt n), v] ++ List.replicate (3 - (lg_sl [.int (Int32.ofInt i), .int (Int32.ofInt n), v]).length) Slot.unset).toArray = ls at hl ⊢
  have a0 : ls[0]? = some (.val (.int (Int32.ofInt i))) := hl.2.2 (0, _) List.mem_cons_self
  have a1 : ls[1]? = some (.val (.int (Int32.ofInt n))) := hl.2.2 (1, _) (List.mem_cons_of_mem _ List.mem_cons_self)
  refine lv_iload_n hx hb dJ3_checkIndex_8e157_0 rfl a0 ?_
  refine lv_if_lt (tgt := 9) hx hb dJ3_checkIndex_8e157_1 (by decide) (fun q => absurd q (pv_nlt h1 o1)) (fun _ => ?_)
  refine lv_iload_n hx hb dJ3_checkIndex_8e157_4 rfl a0 ?_
  refine lv_iload_n hx hb dJ3_checkIndex_8e157_5 rfl a1 ?_
  refine lv_icmp_lt (tgt := 16) hx hb dJ3_checkIndex_8e157_6 (by decide) (fun _ => ?_) (fun q => absurd ((pv_lt (by omega) o1 (by omega) o2).mpr h2) q)
  refine lv_iload_n hx hb dJ3_checkIndex_8e157_16 rfl a0 ?_
  exact W.iret hx hb hr (fun t ht _ => ⟨rfl, ht⟩) (fun _ h => by cases h) dJ3_checkIndex_8e157_17 hlocks
theorem pv_and255 {x : Int} (h1 : 0 ≤ x) (h2 : x ≤ 127) : pv_and x 255 = x := by
  have key : ∀ k : Nat, k < 128 → pv_and (k : Int) 255 = (k : Int) := by decide +kernel
  have := key x.toNat (by omega)
  rwa [Int.toNat_of_nonneg h1] at this
theorem pv_char {x : Int} (h1 : 0 ≤ x) (h2 : x ≤ 127) : (Int32.ofInt x).toUInt32.toUInt16.toUInt32.toInt32 = Int32.ofInt x := by
  have key : ∀ k : Nat, k < 128 → (Int32.ofInt (k : Int)).toUInt32.toUInt16.toUInt32.toInt32 = Int32.ofInt (k : Int) := by decide +kernel
  have := key x.toNat (by omega)
  rwa [Int.toNat_of_nonneg h1] at this
theorem EV.nret {own : String} {cc : ByteArray} {nL : Nat} {ini : Bool} {d : Nat} {pc : Nat} {L : List (Option pv_V)} {sh : pv_Sh} {h : pv_H} {x : Int} {ty : FieldType} (hd : decode cc pc = .ok (.ireturn, 1)) (hn : narrow ty (.int (Int32.ofInt x)) = .int (Int32.ofInt x)) : EV own cc nL (some ty) ini d sh h (some (.inl x)) pc L [.inl x] sh h := by
  intro p l e s m args below meth c D aC ad0 ad A n0 s0 cells slots mc ms H locs ls C N R
  obtain ⟨hx, hb, hml, hrt, hown, hts, hlk, hin, hA, hK, hSt⟩ := id C
  obtain ⟨ag, hP, hD, oH, hS, hl, oL, oS⟩ := id R
  obtain ⟨rfl, rfl⟩ := N.eq
  refine W.zret hx hb hrt hn (fun t ht hW => ?_) hS.2.2 hd hlk
  refine ⟨⟨ad, ag, rfl, ?_, by rw [ht]; exact hP, hK.moved hW.alike, hD, oH⟩, hS.F ht⟩
  intro v hv
  cases hv
  exact oS (.inl x) List.mem_cons_self
theorem EV.aret {own : String} {cc : ByteArray} {nL : Nat} {ini : Bool} {d : Nat} {pc : Nat} {L : List (Option pv_V)} {sh : pv_Sh} {h : pv_H} {q : Nat} {ty : FieldType} (hd : decode cc pc = .ok (.areturn, 1)) : EV own cc nL (some (.array ty)) ini d sh h (some (.inr (.inr q))) pc L [.inr (.inr q)] sh h := by
  intro p l e s m args below meth c D aC ad0 ad A n0 s0 cells slots mc ms H locs ls C N R
  obtain ⟨hx, hb, hml, hrt, hown, hts, hlk, hin, hA, hK, hSt⟩ := id C
  obtain ⟨ag, hP, hD, oH, hS, hl, oL, oS⟩ := id R
  obtain ⟨rfl, rfl⟩ := N.eq
  refine W.aret (v := .ref (ad q)) hx hb hrt (Or.inr ⟨ty, rfl⟩) (Or.inr ⟨ad q, rfl⟩) (fun t ht hW => ?_) hS.2.2 hd hlk
  refine ⟨⟨ad, ag, rfl, ?_, by rw [ht]; exact hP, hK.moved hW.alike, hD, oH⟩, hS.F ht⟩
  intro v hv
  cases hv
  exact oS (.inr (.inr q)) List.mem_cons_self
section RULES
variable {own : String} {cc : ByteArray} {nL : Nat} {ret : Option FieldType} {ini : Bool} {d : Nat} {sh' : pv_Sh} {h' : pv_H} {r : Option pv_V} {pc : Nat} {L : List (Option pv_V)} {st : List pv_V} {sh : pv_Sh} {h : pv_H}
theorem EV.chk {i n : Int} (ho : own = RJ0) (h1 : 0 ≤ i) (h2 : i < n) (hdd : 2 ≤ d) (e1 : decode cc pc = .ok (.getstatic 1053, 3)) (e2 : decode cc (pc + 3) = .ok (.invokestatic 1059, 3)) (e3 : decode cc (pc + 3 + 3) = .ok (.pop, 1)) (hc : pv_cs st ≤ 8) (k : EV own cc nL ret ini d sh' h' r (pc + 3 + 3 + 1) L st sh h) : EV own cc nL ret ini d sh' h' r pc L (.inl n :: .inl i :: st) sh h := by
  intro p l e s m args below meth c D aC ad0 ad A n0 s0 cells slots mc ms H locs ls C N R
  obtain ⟨hx, hb, hml, hrt, hown, hts, hlk, hin, hA, hK, hSt⟩ := id C
  obtain ⟨ag, hP, hD, oH, hS, hl, oL, oS⟩ := id R
  obtain ⟨o1, oS⟩ := List.forall_mem_cons.mp oS
  obtain ⟨o2, oS⟩ := List.forall_mem_cons.mp oS
  subst ho
  have fl : (Cond.fieldLink RJ0 1053 "jdk/internal/util/Preconditions" "SIOOBE_FORMATTER" "Ljava/util/function/BiFunction;").before args s = true := hts _ (pv_mem (pv_m1 (i := 182) rfl) rfl)
  have key : ∀ v : Value, v.category = 1 → W p l e (pv_rm d mc ms) s m args below meth c H locs cells slots (MQ below (pv_Q D aC ad0 n0 sh' h' r A) args s mc ms A) (F0 m (pc + 3) ls (v :: .int (Int32.ofInt n) :: .int (Int32.ofInt i) :: st.map (pv_tv ad))) := by
    intro v hv
    have hm := md_J3_checkIndex_8e157
    have cb := callB_of (R := pv_rm d mc ms) 3 hts (pv_GI hm) rfl (rfl : (pv_rm 1 0 0).cells = _) (rfl : (pv_rm 1 0 0).slots = _) (hts _ hm.2.1) (hts _ ml_J0_1059) hm.2.2.1 (pv_roomOK hdd hm.2.2.2)
    have hr := va_runS (As := [.int (Int32.ofInt i), .int (Int32.ofInt n), v]) (rest := st.map (pv_tv ad)) (below := below) (meth := meth) (H := H) (locs := locs) (cells := cells) (slots := slots) (e := e) (g := F0 m (pc + 3) ls (v :: .int (Int32.ofInt n) :: .int (Int32.ofInt i) :: st.map (pv_tv ad))) ⟨hx, hb, hml, hown, hts⟩ (t_pre l o2.2 o1.2 h1 h2 hv) ⟨cb, hts _ st_J3_checkIndex_8e157⟩ ⟨fun _ _ _ _ q => q, fun _ _ _ => ⟨rfl, trivial⟩⟩ rfl rfl hl.1 rfl (lv_room (by rw [pv_cs_of]; exact hc)) e2 ⟨N.2.2.2.2.1, N.2.2.2.2.2⟩
    intro T hT X
    obtain ⟨v1, st0, t, T1, L1, z0, X1, zL, z1, z2, ⟨z3, z4⟩, zs⟩ := hr T hT X
    have zv : v1 = some (.int (Int32.ofInt i)) := by injection z3
    subst zv
    have zl : L1 = [] := by
      cases L1 with
      | nil => rfl
      | cons a b => exact absurd (zL a List.mem_cons_self) id
    subst zl
    rw [List.append_nil] at X1
    have zh : T1.heap = H := by rw [z1, z4, z0]
    have kk : W p l e (pv_rm d mc ms) s m args below meth c H locs cells slots (MQ below (pv_Q D aC ad0 n0 sh' h' r A) args s mc ms A) (F0 m (pc + 3 + 3) ls (.int (Int32.ofInt i) :: st.map (pv_tv ad))) := by
      refine lv_pop hx hb e3 rfl ?_
      exact k _ _ _ _ _ _ _ _ _ _ _ _ _ _ _ _ _ _ _ _ _ _ _ C N ⟨ag, hP, hD, oH, hS, hl, oL, oS⟩
    obtain ⟨t2, y1, y2⟩ := kk T1 zh X1
    exact ⟨t2, zs t2 y1, y2⟩
  rcases hSt.2.2.2.1.2 with hz | ⟨q, hz⟩
  · exact va_gets hx hb hz hS hown fl (fun _ z => z) e1 (key .null rfl)
  · exact va_gets hx hb hz hS hown fl (fun _ z => z) e1 (key (.ref q) rfl)
theorem EV.i2cS {x : Int} (h1 : 0 ≤ x) (h2 : x ≤ 127) (hd : decode cc pc = .ok (.i2c, 1)) (k : EV own cc nL ret ini d sh' h' r (pc + 1) L (.inl x :: st) sh h) : EV own cc nL ret ini d sh' h' r pc L (.inl x :: st) sh h := by
  intro p l e s m args below meth c D aC ad0 ad A n0 s0 cells slots mc ms H locs ls C N R
  obtain ⟨hx, hb, hml, hrt, hown, hts, hlk, hin, hA, hK, hSt⟩ := id C
  obtain ⟨ag, hP, hD, oH, hS, hl, oL, oS⟩ := id R
  obtain ⟨o1, oS⟩ := List.forall_mem_cons.mp oS
  refine lv_i2c hx hb hd (v := Int32.ofInt x) (pv_char h1 h2) ?_
  exact k _ _ _ _ _ _ _ _ _ _ _ _ _ _ _ _ _ _ _ _ _ _ _ C N ⟨ag, hP, hD, oH, hS, hl, oL, List.forall_mem_cons.mpr ⟨o1, oS⟩⟩
theorem EV.and255 {x : Int} (h1 : 0 ≤ x) (h2 : x ≤ 127) (hd : decode cc pc = .ok (.iand, 1)) (k : EV own cc nL ret ini d sh' h' r (pc + 1) L (.inl x :: st) sh h) : EV own cc nL ret ini d sh' h' r pc L (.inl 255 :: .inl x :: st) sh h := by
  refine EV.iand hd ?_
  rw [pv_and255 h1 h2]
  exact k
theorem EV.invTG {y : MethodName} {bytes : ByteArray} {mL n d1 idx j : Nat} {rt : Option FieldType} {As stk : List pv_V} {sh1 : pv_Sh} {h1 : pv_H} {r1 : Option pv_V} (hj : j < 2) (hd : decode cc pc = .ok (.invokevirtual idx, 3)) (hm : pv_MD y bytes mL rt n) (hl1 : Cond.methodLink own idx y ∈ pv_W) (hl2 : Cond.instanceMethod y ∈ pv_W) (hl3 : Cond.selects "java/lang/String" y y ∈ pv_W) (hM : CALL y bytes mL rt d1 sh h (.inr (.inr (pv_SB + 3 + j)) :: As) sh1 h1 r1) (hdd : d1 + 1 ≤ d) (hn : As.length = n) (hst : stk = As.reverse ++ .inr (.inr (pv_SB + 3 + j)) :: st) (hc : pv_cs st ≤ 8) (hq : ∃ t, sh' = sh1 ++ t) (k : EV own cc nL ret ini d sh' h' r (pc + 3) L (r1.toList ++ st) sh1 h1) : EV own cc nL ret ini d sh' h' r pc L stk sh h := by
  intro p l e s m args below meth c D aC ad0 ad A n0 s0 cells slots mc ms H locs ls C N R
  obtain ⟨hx, hb, hml, hrt, hown, hts, hlk, hin, hA, hK, hSt⟩ := id C
  obtain ⟨ag, hP, hD, oH, hS, hl, oL, oS⟩ := id R
  subst hst
  have oS1 : ∀ v ∈ st, pv_ok sh.length v := fun v hv => oS v (by simp [hv])
  have oA : ∀ v ∈ (.inr (.inr (pv_SB + 3 + j)) :: As : List pv_V), pv_ok sh.length v := fun v hv => oS v (by simp at hv ⊢; rcases hv with hv | hv <;> simp [hv])
  refine pv_after C N ⟨ag, hP, hD, oH, hS, hl, oL, oS1⟩ hM.1 hq (a := ((.inr (.inr (pv_SB + 3 + j)) :: As : List pv_V).map (pv_tv ad)).toArray) ?_ k
  have hfit : cells + (sh1.length - sh.length) ≤ (pv_rm d mc ms).cells ∧ slots + (pv_sl sh1 - pv_sl sh) ≤ (pv_rm d mc ms).slots := by
    obtain ⟨t1, e1⟩ := hM.1
    obtain ⟨t2, e2⟩ := hq
    have l1 : sh1.length = sh.length + t1.length := by rw [e1]; simp
    have l2 : sh'.length = sh1.length + t2.length := by rw [e2]; simp
    have m1 : pv_sl sh1 = pv_sl sh + pv_sl t1 := by rw [e1, pv_sl_app]
    have m2 : pv_sl sh' = pv_sl sh1 + pv_sl t2 := by rw [e2, pv_sl_app]
    obtain ⟨na, nb, nc, nd, ne, nf⟩ := N
    exact ⟨show _ ≤ mc by omega, show _ ≤ ms by omega⟩
  have hcs : 2 * (F0 m pc ls ((As.reverse ++ .inr (.inr (pv_SB + 3 + j)) :: st).map (pv_tv ad))).monitorRoom + (((st.map (pv_tv ad))).map fun v => v.category).sum ≤ 8 := lv_room (by rw [pv_cs_of]; exact hc)
  have hMet : Met l y (Cond.code y bytes mL rt :: pv_W) (pv_rm d1 (sh1.length - sh.length) (pv_sl sh1 - pv_sl sh)) (pv_Pc D aC ad H.size sh h (.inr (.inr (pv_SB + 3 + j)) :: As)) (pv_Q D aC ad sh.length sh1 h1 r1 (va_A (pv_ws aC ad sh h) H.size)) (sh1.length - sh.length) (pv_sl sh1 - pv_sl sh) (va_A (pv_ws aC ad sh h) H.size) := hM.2 l D aC ad H.size
  have cb := callB_of (R := pv_rm d mc ms) n hts (pv_GI hm) rfl (rfl : (pv_rm d1 (sh1.length - sh.length) (pv_sl sh1 - pv_sl sh)).cells = _) (rfl : (pv_rm d1 (sh1.length - sh.length) (pv_sl sh1 - pv_sl sh)).slots = _) (hts _ hm.2.1) (hts _ hl1) hm.2.2.1 (pv_roomOK hdd hm.2.2.2)
  exact va_runV (C := "java/lang/String") (b := ad (pv_SB + 3 + j)) (As := As.map (pv_tv ad)) (rest := st.map (pv_tv ad)) ⟨hx, hb, hml, hown, hts⟩ hMet ⟨cb, hts _ hl2, hts _ hl3⟩ ⟨pv_blind, vk_recv (adK := fun i => ad (pv_SB + 3 + i)) hSt.2.2.2.2.1 hj hS, fun U hU hW => pv_pre (as := .inr (.inr (pv_SB + 3 + j)) :: As) hP hK hD oH hSt hS hA oA hU hW⟩ rfl (by simp [hn]) hl.1 (by simp [pv_tv]) hcs hd hfit
theorem EV.invT {y : MethodName} {bytes : ByteArray} {mL n d1 idx j : Nat} {rt : Option FieldType} {As stk : List pv_V} {h1 : pv_H} {r1 : Option pv_V} (hj : j < 2) (hd : decode cc pc = .ok (.invokevirtual idx, 3)) (hm : pv_MD y bytes mL rt n) (hl1 : Cond.methodLink own idx y ∈ pv_W) (hl2 : Cond.instanceMethod y ∈ pv_W) (hl3 : Cond.selects "java/lang/String" y y ∈ pv_W) (hM : CALL y bytes mL rt d1 sh h (.inr (.inr (pv_SB + 3 + j)) :: As) sh h1 r1) (hdd : d1 + 1 ≤ d) (hn : As.length = n) (hst : stk = As.reverse ++ .inr (.inr (pv_SB + 3 + j)) :: st) (hc : pv_cs st ≤ 8) (hq : ∃ t, sh' = sh ++ t) (k : EV own cc nL ret ini d sh' h' r (pc + 3) L (r1.toList ++ st) sh h1) : EV own cc nL ret ini d sh' h' r pc L stk sh h := by
  intro p l e s m args below meth c D aC ad0 ad A n0 s0 cells slots mc ms H locs ls C N R
  obtain ⟨hx, hb, hml, hrt, hown, hts, hlk, hin, hA, hK, hSt⟩ := id C
  obtain ⟨ag, hP, hD, oH, hS, hl, oL, oS⟩ := id R
  subst hst
  have oS1 : ∀ v ∈ st, pv_ok sh.length v := fun v hv => oS v (by simp [hv])
  have oA : ∀ v ∈ (.inr (.inr (pv_SB + 3 + j)) :: As : List pv_V), pv_ok sh.length v := fun v hv => oS v (by simp at hv ⊢; rcases hv with hv | hv <;> simp [hv])
  refine pv_after C N ⟨ag, hP, hD, oH, hS, hl, oL, oS1⟩ hM.1 hq (a := ((.inr (.inr (pv_SB + 3 + j)) :: As : List pv_V).map (pv_tv ad)).toArray) ?_ k
  have hfit : cells + (sh.length - sh.length) ≤ (pv_rm d mc ms).cells ∧ slots + (pv_sl sh - pv_sl sh) ≤ (pv_rm d mc ms).slots := by
    rw [Nat.sub_self, Nat.sub_self]
    exact ⟨N.2.2.2.2.1, N.2.2.2.2.2⟩
  have hcs : 2 * (F0 m pc ls ((As.reverse ++ .inr (.inr (pv_SB + 3 + j)) :: st).map (pv_tv ad))).monitorRoom + (((st.map (pv_tv ad))).map fun v => v.category).sum ≤ 8 := lv_room (by rw [pv_cs_of]; exact hc)
  have hMet : Met l y (Cond.code y bytes mL rt :: pv_W) (pv_rm d1 (sh.length - sh.length) (pv_sl sh - pv_sl sh)) (pv_Pc D aC ad H.size sh h (.inr (.inr (pv_SB + 3 + j)) :: As)) (pv_Q D aC ad sh.length sh h1 r1 (va_A (pv_ws aC ad sh h) H.size)) (sh.length - sh.length) (pv_sl sh - pv_sl sh) (va_A (pv_ws aC ad sh h) H.size) := hM.2 l D aC ad H.size
  have cb := callB_of (R := pv_rm d mc ms) n hts (pv_GI hm) rfl (rfl : (pv_rm d1 (sh.length - sh.length) (pv_sl sh - pv_sl sh)).cells = _) (rfl : (pv_rm d1 (sh.length - sh.length) (pv_sl sh - pv_sl sh)).slots = _) (hts _ hm.2.1) (hts _ hl1) hm.2.2.1 (pv_roomOK hdd hm.2.2.2)
  exact va_runV (C := "java/lang/String") (b := ad (pv_SB + 3 + j)) (As := As.map (pv_tv ad)) (rest := st.map (pv_tv ad)) ⟨hx, hb, hml, hown, hts⟩ hMet ⟨cb, hts _ hl2, hts _ hl3⟩ ⟨pv_blind, vk_recv (adK := fun i => ad (pv_SB + 3 + i)) hSt.2.2.2.2.1 hj hS, fun U hU hW => pv_pre (as := .inr (.inr (pv_SB + 3 + j)) :: As) hP hK hD oH hSt hS hA oA hU hW⟩ rfl (by simp [hn]) hl.1 (by simp [pv_tv]) hcs hd hfit
end RULES
theorem se_J0_coder : Cond.selects "java/lang/String" yJ0_coder_7d493 yJ0_coder_7d493 ∈ pv_W := pv_mem (pv_m6 (i := 75) rfl) rfl
theorem se_J0_isLatin1 : Cond.selects "java/lang/String" yJ0_isLatin1_aae02 yJ0_isLatin1_aae02 ∈ pv_W := pv_mem (pv_m1 (i := 157) rfl) rfl
theorem se_J0_length : Cond.selects "java/lang/String" yJ0_length_8abf5 yJ0_length_8abf5 ∈ pv_W := pv_mem (pv_m6 (i := 71) rfl) rfl
theorem se_J0_charAt : Cond.selects "java/lang/String" yJ0_charAt_5068e yJ0_charAt_5068e ∈ pv_W := pv_mem (pv_m6 (i := 79) rfl) rfl
theorem w_sv : Cond.fieldLink RJ0 9 "java/lang/String" "value" "[B" ∈ pv_W := pv_mem (pv_m8 (i := 24) rfl) rfl
theorem w_sc : Cond.fieldLink RJ0 15 "java/lang/String" "coder" "B" ∈ pv_W := pv_mem (pv_m8 (i := 23) rfl) rfl
theorem w_cs : Cond.fieldLink RJ0 38 "java/lang/String" "COMPACT_STRINGS" "Z" ∈ pv_W := pv_mem (pv_m1 (i := 159) rfl) rfl
theorem t_chk {d : Nat} {sh : pv_Sh} {h : pv_H} {i n : Int} (hd : 2 ≤ d) (h1 : 0 ≤ i) (h2 : i < n) : CALL yJ0_checkIndex_df160 cJ0_checkIndex_df160 2 none d sh h [.inl i, .inl n] sh h none := by
  refine EV.call (own := RJ0) (ini := false) rfl rfl (fun q => by cases q) ⟨[], (List.append_nil _).symm⟩ (Nat.le_of_ble_eq_true rfl) ?_
  refine EV.eqL (L2 := [some (.inl i), some (.inl n)]) rfl ?_
  refine EV.iload_n dJ0_checkIndex_df160_0 rfl rfl ?_
  refine EV.iload_n dJ0_checkIndex_df160_1 rfl rfl ?_
  refine EV.chk rfl h1 h2 hd dJ0_checkIndex_df160_2 dJ0_checkIndex_df160_5 dJ0_checkIndex_df160_8 (Nat.le_of_ble_eq_true rfl) ?_
  exact EV.vret dJ0_checkIndex_df160_9
theorem t_lat0 {d : Nat} {sh : pv_Sh} {h : pv_H} : CALL yJ0_isLatin1_aae02 cJ0_isLatin1_aae02 1 (some .boolean) d sh h [.inr (.inr (pv_SB + 3))] sh h (some (.inl 1)) := by
  refine EV.call (own := RJ0) (ini := false) rfl rfl (fun q => by cases q) ⟨[], (List.append_nil _).symm⟩ (Nat.le_of_ble_eq_true rfl) ?_
  refine EV.eqL (L2 := [some (.inr (.inr (pv_SB + 3)))]) rfl ?_
  refine EV.cmpS dJ0_isLatin1_aae02_0 w_cs ?_
  refine EV.if_eq (tgt := 17) dJ0_isLatin1_aae02_3 (by decide) (fun q => absurd q (by decide)) (fun _ => ?_)
  refine EV.aload_n dJ0_isLatin1_aae02_6 rfl rfl ?_
  refine EV.strC0 dJ0_isLatin1_aae02_7 w_sc ?_
  refine EV.if_ne (tgt := 17) dJ0_isLatin1_aae02_10 (by decide) (fun q => absurd rfl q) (fun _ => ?_)
  refine EV.iconst dJ0_isLatin1_aae02_13 (by decide) (by decide) ?_
  refine EV.goto (tgt := 18) dJ0_isLatin1_aae02_14 (by decide) ?_
  exact EV.zret dJ0_isLatin1_aae02_18 (by decide)
theorem t_cod0 {d : Nat} {sh : pv_Sh} {h : pv_H} : CALL yJ0_coder_7d493 cJ0_coder_7d493 1 (some .byte) d sh h [.inr (.inr (pv_SB + 3))] sh h (some (.inl 0)) := by
  refine EV.call (own := RJ0) (ini := false) rfl rfl (fun q => by cases q) ⟨[], (List.append_nil _).symm⟩ (Nat.le_of_ble_eq_true rfl) ?_
  refine EV.eqL (L2 := [some (.inr (.inr (pv_SB + 3)))]) rfl ?_
  refine EV.cmpS dJ0_coder_7d493_0 w_cs ?_
  refine EV.if_eq (tgt := 13) dJ0_coder_7d493_3 (by decide) (fun q => absurd q (by decide)) (fun _ => ?_)
  refine EV.aload_n dJ0_coder_7d493_6 rfl rfl ?_
  refine EV.strC0 dJ0_coder_7d493_7 w_sc ?_
  refine EV.goto (tgt := 14) dJ0_coder_7d493_10 (by decide) ?_
  exact EV.nret dJ0_coder_7d493_14 rfl
theorem t_len0 {d : Nat} {sh : pv_Sh} {h : pv_H} (hd : 2 ≤ d) : CALL yJ0_length_8abf5 cJ0_length_8abf5 1 (some .int) d sh h [.inr (.inr (pv_SB + 3))] sh h (some (.inl 204)) := by
  refine EV.call (own := RJ0) (ini := false) rfl rfl (fun q => by cases q) ⟨[], (List.append_nil _).symm⟩ (Nat.le_of_ble_eq_true rfl) ?_
  refine EV.eqL (L2 := [some (.inr (.inr (pv_SB + 3)))]) rfl ?_
  refine EV.aload_n dJ0_length_8abf5_0 rfl rfl ?_
  refine EV.strV0 dJ0_length_8abf5_1 w_sv ?_
  refine EV.alenS0 dJ0_length_8abf5_4 ?_
  refine EV.aload_n dJ0_length_8abf5_5 rfl rfl ?_
  refine EV.invT (j := 0) (As := []) (st := [.inl 204]) (d1 := d - 1) (r1 := some (.inl 0)) (by decide) dJ0_length_8abf5_6 md_J0_coder_7d493 ml_J0_335 im_J0_coder_7d493 se_J0_coder t_cod0 (by omega) rfl rfl (Nat.le_of_ble_eq_true rfl) ⟨[], (List.append_nil _).symm⟩ ?_
  refine EV.eqS (st2 := [.inl 0, .inl 204]) rfl ?_
  refine EV.ishr dJ0_length_8abf5_9 ?_
  refine EV.eqS (st2 := [.inl 204]) (by rw [show pv_shr 204 0 = 204 by decide +kernel]) ?_
  exact EV.iret dJ0_length_8abf5_10
theorem t_chr0 {d : Nat} {sh : pv_Sh} {h : pv_H} {i : Int} (hd : 4 ≤ d) (h1 : 0 ≤ i) (h2 : i < 204) : CALL yJ1_charAt_3b067 cJ1_charAt_3b067 2 (some .char) d sh h [.inr (.inr (pv_SB + 5)), .inl i] sh h (some (.inl ((pv_tx 0).getD i.toNat 0))) := by
  have o := pv_tx_os 0 i.toNat
  refine EV.call (own := RJ1) (ini := false) rfl rfl (fun q => by cases q) ⟨[], (List.append_nil _).symm⟩ (Nat.le_of_ble_eq_true rfl) ?_
  refine EV.eqL (L2 := [some (.inr (.inr (pv_SB + 5))), some (.inl i)]) rfl ?_
  refine EV.iload_n dJ1_charAt_3b067_0 rfl rfl ?_
  refine EV.aload_n dJ1_charAt_3b067_1 rfl rfl ?_
  refine EV.alenS0 dJ1_charAt_3b067_2 ?_
  refine EV.invS (As := [.inl i, .inl 204]) (st := []) (d1 := d - 1) (sh1 := sh) (h1 := h) (r1 := none) dJ1_charAt_3b067_3 md_J0_checkIndex_df160 ml_J1_9 st_J0_checkIndex_df160 (t_chk (by omega) h1 h2) (by omega) rfl rfl (Nat.le_of_ble_eq_true rfl) ⟨[], (List.append_nil _).symm⟩ ?_
  refine EV.aload_n dJ1_charAt_3b067_6 rfl rfl ?_
  refine EV.iload_n dJ1_charAt_3b067_7 rfl rfl ?_
  refine EV.baldS0 dJ1_charAt_3b067_8 h1 h2 ?_
  refine EV.sipush dJ1_charAt_3b067_9 (by decide) (by decide) ?_
  refine EV.and255 o.1 o.2 dJ1_charAt_3b067_12 ?_
  refine EV.i2cS o.1 o.2 dJ1_charAt_3b067_13 ?_
  exact EV.nret dJ1_charAt_3b067_14 (congrArg Value.int (pv_char o.1 o.2))
theorem t_chA0 {d : Nat} {sh : pv_Sh} {h : pv_H} {i : Int} (hd : 5 ≤ d) (h1 : 0 ≤ i) (h2 : i < 204) : CALL yJ0_charAt_5068e cJ0_charAt_5068e 2 (some .char) d sh h [.inr (.inr (pv_SB + 3)), .inl i] sh h (some (.inl ((pv_tx 0).getD i.toNat 0))) := by
  have o := pv_tx_os 0 i.toNat
  refine EV.call (own := RJ0) (ini := false) rfl rfl (fun q => by cases q) ⟨[], (List.append_nil _).symm⟩ (Nat.le_of_ble_eq_true rfl) ?_
  refine EV.eqL (L2 := [some (.inr (.inr (pv_SB + 3))), some (.inl i)]) rfl ?_
  refine EV.aload_n dJ0_charAt_5068e_0 rfl rfl ?_
  refine EV.invT (j := 0) (As := []) (st := []) (d1 := d - 1) (r1 := some (.inl 1)) (by decide) dJ0_charAt_5068e_1 md_J0_isLatin1_aae02 ml_J0_492 im_J0_isLatin1_aae02 se_J0_isLatin1 t_lat0 (by omega) rfl rfl (Nat.le_of_ble_eq_true rfl) ⟨[], (List.append_nil _).symm⟩ ?_
  refine EV.eqS (st2 := [.inl 1]) rfl ?_
  refine EV.if_eq (tgt := 16) dJ0_charAt_5068e_4 (by decide) (fun q => absurd q (by decide)) (fun _ => ?_)
  refine EV.aload_n dJ0_charAt_5068e_7 rfl rfl ?_
  refine EV.strV0 dJ0_charAt_5068e_8 w_sv ?_
  refine EV.iload_n dJ0_charAt_5068e_11 rfl rfl ?_
  refine EV.invS (As := [.inr (.inr (pv_SB + 5)), .inl i]) (st := []) (d1 := d - 1) (sh1 := sh) (h1 := h) (r1 := some (.inl ((pv_tx 0).getD i.toNat 0))) dJ0_charAt_5068e_12 md_J1_charAt_3b067 ml_J0_495 st_J1_charAt_3b067 (t_chr0 (by omega) h1 h2) (by omega) rfl rfl (Nat.le_of_ble_eq_true rfl) ⟨[], (List.append_nil _).symm⟩ ?_
  refine EV.eqS (st2 := [.inl ((pv_tx 0).getD i.toNat 0)]) rfl ?_
  exact EV.nret dJ0_charAt_5068e_15 (congrArg Value.int (pv_char o.1 o.2))
section RULES2
variable {own : String} {cc : ByteArray} {nL : Nat} {ret : Option FieldType} {ini : Bool} {d : Nat} {sh' : pv_Sh} {h' : pv_H} {r : Option pv_V} {pc : Nat} {L : List (Option pv_V)} {st : List pv_V} {h : pv_H}
theorem FV.slen0 {idx : Nat} (hd : decode cc pc = .ok (.invokevirtual idx, 3)) (hl1 : Cond.methodLink own idx yJ0_length_8abf5 ∈ pv_W) (hdd : 3 ≤ d) (hc : pv_cs st ≤ 8) (k : EV own cc nL ret ini d sh' h' r (pc + 3) L (.inl 204 :: st) sh' h) : EV own cc nL ret ini d sh' h' r pc L (.inr (.inr (pv_SB + 3)) :: st) sh' h := by
  refine EV.invT (j := 0) (As := []) (st := st) (d1 := d - 1) (r1 := some (.inl 204)) (by decide) hd md_J0_length_8abf5 hl1 im_J0_length_8abf5 se_J0_length (t_len0 (by omega)) (by omega) rfl rfl hc ⟨[], (List.append_nil _).symm⟩ ?_
  exact k
theorem FV.schar0 {idx : Nat} {i : Int} (hd : decode cc pc = .ok (.invokevirtual idx, 3)) (hl1 : Cond.methodLink own idx yJ0_charAt_5068e ∈ pv_W) (hdd : 6 ≤ d) (hc : pv_cs st ≤ 8) (h1 : 0 ≤ i) (h2 : i < 204) (k : EV own cc nL ret ini d sh' h' r (pc + 3) L (.inl ((pv_tx 0).getD i.toNat 0) :: st) sh' h) : EV own cc nL ret ini d sh' h' r pc L (.inl i :: .inr (.inr (pv_SB + 3)) :: st) sh' h := by
  refine EV.invT (j := 0) (As := [.inl i]) (st := st) (d1 := d - 1) (r1 := some (.inl ((pv_tx 0).getD i.toNat 0))) (by decide) hd md_J0_charAt_5068e hl1 im_J0_charAt_5068e se_J0_charAt (t_chA0 (by omega) h1 h2) (by omega) rfl rfl hc ⟨[], (List.append_nil _).symm⟩ ?_
  exact k
end RULES2
theorem t_lat1 {d : Nat} {sh : pv_Sh} {h : pv_H} : CALL yJ0_isLatin1_aae02 cJ0_isLatin1_aae02 1 (some .boolean) d sh h [.inr (.inr (pv_SB + 4))] sh h (some (.inl 1)) := by
  refine EV.call (own := RJ0) (ini := false) rfl rfl (fun q => by cases q) ⟨[], (List.append_nil _).symm⟩ (Nat.le_of_ble_eq_true rfl) ?_
  refine EV.eqL (L2 := [some (.inr (.inr (pv_SB + 4)))]) rfl ?_
  refine EV.cmpS dJ0_isLatin1_aae02_0 w_cs ?_
  refine EV.if_eq (tgt := 17) dJ0_isLatin1_aae02_3 (by decide) (fun q => absurd q (by decide)) (fun _ => ?_)
  refine EV.aload_n dJ0_isLatin1_aae02_6 rfl rfl ?_
  refine EV.strC1 dJ0_isLatin1_aae02_7 w_sc ?_
  refine EV.if_ne (tgt := 17) dJ0_isLatin1_aae02_10 (by decide) (fun q => absurd rfl q) (fun _ => ?_)
  refine EV.iconst dJ0_isLatin1_aae02_13 (by decide) (by decide) ?_
  refine EV.goto (tgt := 18) dJ0_isLatin1_aae02_14 (by decide) ?_
  exact EV.zret dJ0_isLatin1_aae02_18 (by decide)
theorem t_cod1 {d : Nat} {sh : pv_Sh} {h : pv_H} : CALL yJ0_coder_7d493 cJ0_coder_7d493 1 (some .byte) d sh h [.inr (.inr (pv_SB + 4))] sh h (some (.inl 0)) := by
  refine EV.call (own := RJ0) (ini := false) rfl rfl (fun q => by cases q) ⟨[], (List.append_nil _).symm⟩ (Nat.le_of_ble_eq_true rfl) ?_
  refine EV.eqL (L2 := [some (.inr (.inr (pv_SB + 4)))]) rfl ?_
  refine EV.cmpS dJ0_coder_7d493_0 w_cs ?_
  refine EV.if_eq (tgt := 13) dJ0_coder_7d493_3 (by decide) (fun q => absurd q (by decide)) (fun _ => ?_)
  refine EV.aload_n dJ0_coder_7d493_6 rfl rfl ?_
  refine EV.strC1 dJ0_coder_7d493_7 w_sc ?_
  refine EV.goto (tgt := 14) dJ0_coder_7d493_10 (by decide) ?_
  exact EV.nret dJ0_coder_7d493_14 rfl
theorem t_len1 {d : Nat} {sh : pv_Sh} {h : pv_H} (hd : 2 ≤ d) : CALL yJ0_length_8abf5 cJ0_length_8abf5 1 (some .int) d sh h [.inr (.inr (pv_SB + 4))] sh h (some (.inl 205)) := by
  refine EV.call (own := RJ0) (ini := false) rfl rfl (fun q => by cases q) ⟨[], (List.append_nil _).symm⟩ (Nat.le_of_ble_eq_true rfl) ?_
  refine EV.eqL (L2 := [some (.inr (.inr (pv_SB + 4)))]) rfl ?_
  refine EV.aload_n dJ0_length_8abf5_0 rfl rfl ?_
  refine EV.strV1 dJ0_length_8abf5_1 w_sv ?_
  refine EV.alenS1 dJ0_length_8abf5_4 ?_
  refine EV.aload_n dJ0_length_8abf5_5 rfl rfl ?_
  refine EV.invT (j := 1) (As := []) (st := [.inl 205]) (d1 := d - 1) (r1 := some (.inl 0)) (by decide) dJ0_length_8abf5_6 md_J0_coder_7d493 ml_J0_335 im_J0_coder_7d493 se_J0_coder t_cod1 (by omega) rfl rfl (Nat.le_of_ble_eq_true rfl) ⟨[], (List.append_nil _).symm⟩ ?_
  refine EV.eqS (st2 := [.inl 0, .inl 205]) rfl ?_
  refine EV.ishr dJ0_length_8abf5_9 ?_
  refine EV.eqS (st2 := [.inl 205]) (by rw [show pv_shr 205 0 = 205 by decide +kernel]) ?_
  exact EV.iret dJ0_length_8abf5_10
theorem t_chr1 {d : Nat} {sh : pv_Sh} {h : pv_H} {i : Int} (hd : 4 ≤ d) (h1 : 0 ≤ i) (h2 : i < 205) : CALL yJ1_charAt_3b067 cJ1_charAt_3b067 2 (some .char) d sh h [.inr (.inr (pv_SB + 6)), .inl i] sh h (some (.inl ((pv_tx 1).getD i.toNat 0))) := by
  have o := pv_tx_os 1 i.toNat
  refine EV.call (own := RJ1) (ini := false) rfl rfl (fun q => by cases q) ⟨[], (List.append_nil _).symm⟩ (Nat.le_of_ble_eq_true rfl) ?_
  refine EV.eqL (L2 := [some (.inr (.inr (pv_SB + 6))), some (.inl i)]) rfl ?_
  refine EV.iload_n dJ1_charAt_3b067_0 rfl rfl ?_
  refine EV.aload_n dJ1_charAt_3b067_1 rfl rfl ?_
  refine EV.alenS1 dJ1_charAt_3b067_2 ?_
  refine EV.invS (As := [.inl i, .inl 205]) (st := []) (d1 := d - 1) (sh1 := sh) (h1 := h) (r1 := none) dJ1_charAt_3b067_3 md_J0_checkIndex_df160 ml_J1_9 st_J0_checkIndex_df160 (t_chk (by omega) h1 h2) (by omega) rfl rfl (Nat.le_of_ble_eq_true rfl) ⟨[], (List.append_nil _).symm⟩ ?_
  refine EV.aload_n dJ1_charAt_3b067_6 rfl rfl ?_
  refine EV.iload_n dJ1_charAt_3b067_7 rfl rfl ?_
  refine EV.baldS1 dJ1_charAt_3b067_8 h1 h2 ?_
  refine EV.sipush dJ1_charAt_3b067_9 (by decide) (by decide) ?_
  refine EV.and255 o.1 o.2 dJ1_charAt_3b067_12 ?_
  refine EV.i2cS o.1 o.2 dJ1_charAt_3b067_13 ?_
  exact EV.nret dJ1_charAt_3b067_14 (congrArg Value.int (pv_char o.1 o.2))
theorem t_chA1 {d : Nat} {sh : pv_Sh} {h : pv_H} {i : Int} (hd : 5 ≤ d) (h1 : 0 ≤ i) (h2 : i < 205) : CALL yJ0_charAt_5068e cJ0_charAt_5068e 2 (some .char) d sh h [.inr (.inr (pv_SB + 4)), .inl i] sh h (some (.inl ((pv_tx 1).getD i.toNat 0))) := by
  have o := pv_tx_os 1 i.toNat
  refine EV.call (own := RJ0) (ini := false) rfl rfl (fun q => by cases q) ⟨[], (List.append_nil _).symm⟩ (Nat.le_of_ble_eq_true rfl) ?_
  refine EV.eqL (L2 := [some (.inr (.inr (pv_SB + 4))), some (.inl i)]) rfl ?_
  refine EV.aload_n dJ0_charAt_5068e_0 rfl rfl ?_
  refine EV.invT (j := 1) (As := []) (st := []) (d1 := d - 1) (r1 := some (.inl 1)) (by decide) dJ0_charAt_5068e_1 md_J0_isLatin1_aae02 ml_J0_492 im_J0_isLatin1_aae02 se_J0_isLatin1 t_lat1 (by omega) rfl rfl (Nat.le_of_ble_eq_true rfl) ⟨[], (List.append_nil _).symm⟩ ?_
  refine EV.eqS (st2 := [.inl 1]) rfl ?_
  refine EV.if_eq (tgt := 16) dJ0_charAt_5068e_4 (by decide) (fun q => absurd q (by decide)) (fun _ => ?_)
  refine EV.aload_n dJ0_charAt_5068e_7 rfl rfl ?_
  refine EV.strV1 dJ0_charAt_5068e_8 w_sv ?_
  refine EV.iload_n dJ0_charAt_5068e_11 rfl rfl ?_
  refine EV.invS (As := [.inr (.inr (pv_SB + 6)), .inl i]) (st := []) (d1 := d - 1) (sh1 := sh) (h1 := h) (r1 := some (.inl ((pv_tx 1).getD i.toNat 0))) dJ0_charAt_5068e_12 md_J1_charAt_3b067 ml_J0_495 st_J1_charAt_3b067 (t_chr1 (by omega) h1 h2) (by omega) rfl rfl (Nat.le_of_ble_eq_true rfl) ⟨[], (List.append_nil _).symm⟩ ?_
  refine EV.eqS (st2 := [.inl ((pv_tx 1).getD i.toNat 0)]) rfl ?_
  exact EV.nret dJ0_charAt_5068e_15 (congrArg Value.int (pv_char o.1 o.2))
section RULES2
variable {own : String} {cc : ByteArray} {nL : Nat} {ret : Option FieldType} {ini : Bool} {d : Nat} {sh' : pv_Sh} {h' : pv_H} {r : Option pv_V} {pc : Nat} {L : List (Option pv_V)} {st : List pv_V} {h : pv_H}
theorem FV.slen1 {idx : Nat} (hd : decode cc pc = .ok (.invokevirtual idx, 3)) (hl1 : Cond.methodLink own idx yJ0_length_8abf5 ∈ pv_W) (hdd : 3 ≤ d) (hc : pv_cs st ≤ 8) (k : EV own cc nL ret ini d sh' h' r (pc + 3) L (.inl 205 :: st) sh' h) : EV own cc nL ret ini d sh' h' r pc L (.inr (.inr (pv_SB + 4)) :: st) sh' h := by
  refine EV.invT (j := 1) (As := []) (st := st) (d1 := d - 1) (r1 := some (.inl 205)) (by decide) hd md_J0_length_8abf5 hl1 im_J0_length_8abf5 se_J0_length (t_len1 (by omega)) (by omega) rfl rfl hc ⟨[], (List.append_nil _).symm⟩ ?_
  exact k
theorem FV.schar1 {idx : Nat} {i : Int} (hd : decode cc pc = .ok (.invokevirtual idx, 3)) (hl1 : Cond.methodLink own idx yJ0_charAt_5068e ∈ pv_W) (hdd : 6 ≤ d) (hc : pv_cs st ≤ 8) (h1 : 0 ≤ i) (h2 : i < 205) (k : EV own cc nL ret ini d sh' h' r (pc + 3) L (.inl ((pv_tx 1).getD i.toNat 0) :: st) sh' h) : EV own cc nL ret ini d sh' h' r pc L (.inl i :: .inr (.inr (pv_SB + 4)) :: st) sh' h := by
  refine EV.invT (j := 1) (As := [.inl i]) (st := st) (d1 := d - 1) (r1 := some (.inl ((pv_tx 1).getD i.toNat 0))) (by decide) hd md_J0_charAt_5068e hl1 im_J0_charAt_5068e se_J0_charAt (t_chA1 (by omega) h1 h2) (by omega) rfl rfl hc ⟨[], (List.append_nil _).symm⟩ ?_
  exact k
end RULES2
/-! a text's letters: toCharArray, by the JDK's own code -/
theorem pv_fills_step {h : pv_H} {a i : Nat} {g : Nat → Int} : pv_up (pv_ur h a (fun k => if k < i then g k else h a k)) a i (g i) = pv_ur h a (fun k => if k < i + 1 then g k else h a k) := by
  funext p q
  unfold pv_up pv_ur
  by_cases hp : p = a
  · subst hp
    by_cases hq : q = i
    · subst hq
      simp
    · rw [if_neg (fun z => hq z.2)]
      simp only [if_true]
      by_cases hl : q < i
      · rw [if_pos hl, if_pos (by omega)]
      · rw [if_neg hl, if_neg (by omega)]
  · rw [if_neg (fun z => hp z.1)]
    simp [hp]
theorem pv_fills_0 {h : pv_H} {a : Nat} {g : Nat → Int} : pv_ur h a (fun k => if k < 0 then g k else h a k) = h := by
  funext p q
  unfold pv_ur
  by_cases hp : p = a
  · subst hp; simp
  · simp [hp]
theorem t_inflL {d a : Nat} {sh : pv_Sh} {h : pv_H} (e0 : sh[a]? = some (9, 204)) : ∀ (k i : Nat), i + k = 204 → EV RJ1 cJ1_inflate_03870 6 none false d sh (pv_ur h a (fun k => if k < 204 then (pv_tx 0).getD k 0 else h a k)) none 3 [some (.inr (.inr (pv_SB + 5))), some (.inl ((i : Nat) : Int)), some (.inr (.inr a)), some (.inl ((i : Nat) : Int)), some (.inl 204), some (.inl ((i : Nat) : Int))] [] sh (pv_ur h a (fun k => if k < i then (pv_tx 0).getD k 0 else h a k)) := by
  intro k
  induction k with
  | zero =>
    intro i hi
    have hi : i = 204 := by omega
    subst hi
    refine EV.iload dJ1_inflate_03870_3 rfl ?_
    refine EV.iload dJ1_inflate_03870_5 rfl ?_
    refine EV.icmp_ge (tgt := 33) dJ1_inflate_03870_7 (by decide) (fun _ => ?_) (fun q => absurd (by omega) q)
    exact EV.vret dJ1_inflate_03870_33
  | succ k ih =>
    intro i hi
    have o := pv_tx_os 0 i
    refine EV.iload dJ1_inflate_03870_3 rfl ?_
    refine EV.iload dJ1_inflate_03870_5 rfl ?_
    refine EV.icmp_ge (tgt := 33) dJ1_inflate_03870_7 (by decide) (fun q => absurd q (by omega)) (fun _ => ?_)
    refine EV.aload_n dJ1_inflate_03870_10 rfl rfl ?_
    refine EV.iload_n dJ1_inflate_03870_11 rfl rfl ?_
    refine FV.inc (L2 := [some (.inr (.inr (pv_SB + 5))), some (.inl ((i : Nat) : Int)), some (.inr (.inr a)), some (.inl ((i + 1 : Nat) : Int)), some (.inl 204), some (.inl ((i : Nat) : Int))]) dJ1_inflate_03870_12 rfl (Nat.le_of_ble_eq_true rfl) (by rw [pv_w_id (by omega) (by omega)]; omega) rfl ?_
    refine EV.aload_n dJ1_inflate_03870_15 rfl rfl ?_
    refine EV.iload_n dJ1_inflate_03870_16 rfl rfl ?_
    refine FV.inc (L2 := [some (.inr (.inr (pv_SB + 5))), some (.inl ((i + 1 : Nat) : Int)), some (.inr (.inr a)), some (.inl ((i + 1 : Nat) : Int)), some (.inl 204), some (.inl ((i : Nat) : Int))]) dJ1_inflate_03870_17 rfl (Nat.le_of_ble_eq_true rfl) (by rw [pv_w_id (by omega) (by omega)]; omega) rfl ?_
    refine EV.baldS0 dJ1_inflate_03870_20 (by omega) (by omega) ?_
    rw [Int.toNat_natCast]
    refine EV.sipush dJ1_inflate_03870_21 (by decide) (by decide) ?_
    refine EV.and255 o.1 o.2 dJ1_inflate_03870_24 ?_
    refine EV.i2cS o.1 o.2 dJ1_inflate_03870_25 ?_
    refine EV.cast dJ1_inflate_03870_26 e0 (by omega) (by omega) o.1 o.2 ?_
    rw [Int.toNat_natCast, pv_fills_step (g := fun k => (pv_tx 0).getD k 0)]
    refine FV.inc (L2 := [some (.inr (.inr (pv_SB + 5))), some (.inl ((i + 1 : Nat) : Int)), some (.inr (.inr a)), some (.inl ((i + 1 : Nat) : Int)), some (.inl 204), some (.inl ((i + 1 : Nat) : Int))]) dJ1_inflate_03870_27 rfl (Nat.le_of_ble_eq_true rfl) (by rw [pv_w_id (by omega) (by omega)]; omega) rfl ?_
    refine EV.goto (tgt := 3) dJ1_inflate_03870_30 (by decide) ?_
    exact ih (i + 1) (by omega)
theorem t_infl {d a : Nat} {sh : pv_Sh} {h : pv_H} (e0 : sh[a]? = some (9, 204)) : CALL yJ1_inflate_03870 cJ1_inflate_03870 6 none d sh h [(.inr (.inr (pv_SB + 5))), .inl 0, .inr (.inr a), .inl 0, .inl 204] sh (pv_ur h a (fun k => if k < 204 then (pv_tx 0).getD k 0 else h a k)) none := by
  refine EV.call (own := RJ1) (ini := false) rfl rfl (fun q => by cases q) ⟨[], (List.append_nil _).symm⟩ (Nat.le_of_ble_eq_true rfl) ?_
  refine EV.eqL (L2 := [some (.inr (.inr (pv_SB + 5))), some (.inl 0), some (.inr (.inr a)), some (.inl 0), some (.inl 204), none]) rfl ?_
  refine EV.iconst dJ1_inflate_03870_0 (by decide) (by decide) ?_
  refine FV.stiw (L2 := [some (.inr (.inr (pv_SB + 5))), some (.inl 0), some (.inr (.inr a)), some (.inl 0), some (.inl 204), some (.inl 0)]) dJ1_inflate_03870_1 (Nat.le_of_ble_eq_true rfl) rfl rfl ?_
  have := t_inflL (d := d) (h := h) e0 204 0 rfl
  rw [pv_fills_0] at this
  exact this
def K_let (n : Nat) (h : pv_H) : pv_H := pv_ur h n (fun k => if k < 204 then (pv_tx 0).getD k 0 else 0)
theorem K_let_eq {n : Nat} {h : pv_H} : pv_ur (pv_ur h n (fun _ => 0)) n (fun k => if k < 204 then (pv_tx 0).getD k 0 else pv_ur h n (fun _ => 0) n k) = K_let n h := by
  funext p q
  unfold K_let pv_ur
  by_cases hp : p = n
  · subst hp; simp
  · simp [hp]
theorem t_toCh {d : Nat} {sh : pv_Sh} {h : pv_H} (hd : 2 ≤ d) (hb : sh.length < pv_SB) : CALL yJ1_toChars_9d188 cJ1_toChars_9d188 2 (some (.array .char)) d sh h [(.inr (.inr (pv_SB + 5)))] (sh ++ [(9, 204)]) (K_let sh.length h) (some (.inr (.inr sh.length))) := by
  refine EV.call (own := RJ1) (ini := false) rfl rfl (fun q => by cases q) ⟨[(9, 204)], rfl⟩ (Nat.le_of_ble_eq_true rfl) ?_
  refine EV.eqL (L2 := [some (.inr (.inr (pv_SB + 5))), none]) rfl ?_
  refine EV.aload_n dJ1_toChars_9d188_0 rfl rfl ?_
  refine EV.alenS0 dJ1_toChars_9d188_1 ?_
  refine EV.newa9 dJ1_toChars_9d188_2 w_ar_char (by decide) (by decide) hb ⟨[], (List.append_nil _).symm⟩ ?_
  refine EV.eqW (sh2 := sh ++ [(9, 204)]) rfl ?_
  refine FV.sta (L2 := [some (.inr (.inr (pv_SB + 5))), some (.inr (.inr sh.length))]) dJ1_toChars_9d188_4 rfl (Nat.le_of_ble_eq_true rfl) rfl rfl ?_
  refine EV.aload_n dJ1_toChars_9d188_5 rfl rfl ?_
  refine EV.iconst dJ1_toChars_9d188_6 (by decide) (by decide) ?_
  refine EV.aload_n dJ1_toChars_9d188_7 rfl rfl ?_
  refine EV.iconst dJ1_toChars_9d188_8 (by decide) (by decide) ?_
  refine EV.aload_n dJ1_toChars_9d188_9 rfl rfl ?_
  refine EV.alenS0 dJ1_toChars_9d188_10 ?_
  refine EV.invS (As := [(.inr (.inr (pv_SB + 5))), .inl 0, .inr (.inr sh.length), .inl 0, .inl 204]) (st := []) (d1 := d - 1) (sh1 := sh ++ [(9, 204)]) (h1 := K_let sh.length h) (r1 := none) dJ1_toChars_9d188_11 md_J1_inflate_03870 ml_J1_13 st_J1_inflate_03870 (K_let_eq ▸ t_infl (by simp)) (by omega) rfl rfl (Nat.le_of_ble_eq_true rfl) ⟨[], (List.append_nil _).symm⟩ ?_
  refine EV.aload_n dJ1_toChars_9d188_14 rfl rfl ?_
  exact EV.aret dJ1_toChars_9d188_15
theorem se_J0_toCharArray : Cond.selects "java/lang/String" yJ0_toCharArray_70df3 yJ0_toCharArray_70df3 ∈ pv_W := pv_mem (pv_m1 (i := 153) rfl) rfl
theorem t_toCA {d n : Nat} {sh sh2 : pv_Sh} {h : pv_H} (hn : sh.length = n) (h2 : sh ++ [(9, 204)] = sh2) (hd : 4 ≤ d) (hb : n < pv_SB) : CALL yJ0_toCharArray_70df3 cJ0_toCharArray_70df3 1 (some (.array .char)) d sh h [.inr (.inr (pv_SB + 3))] sh2 (K_let n h) (some (.inr (.inr n))) := by
  subst hn; subst h2
  refine EV.call (own := RJ0) (ini := false) rfl rfl (fun q => by cases q) ⟨[(9, 204)], rfl⟩ (Nat.le_of_ble_eq_true rfl) ?_
  refine EV.eqL (L2 := [some (.inr (.inr (pv_SB + 3)))]) rfl ?_
  refine EV.aload_n dJ0_toCharArray_70df3_0 rfl rfl ?_
  refine EV.invTG (j := 0) (As := []) (st := []) (d1 := d - 1) (sh1 := sh) (h1 := h) (r1 := some (.inl 1)) (by decide) dJ0_toCharArray_70df3_1 md_J0_isLatin1_aae02 ml_J0_492 im_J0_isLatin1_aae02 se_J0_isLatin1 t_lat0 (by omega) rfl rfl (Nat.le_of_ble_eq_true rfl) ⟨[(9, 204)], rfl⟩ ?_
  refine EV.eqS (st2 := [.inl 1]) rfl ?_
  refine EV.if_eq (tgt := 17) dJ0_toCharArray_70df3_4 (by decide) (fun q => absurd q (by decide)) (fun _ => ?_)
  refine EV.aload_n dJ0_toCharArray_70df3_7 rfl rfl ?_
  refine EV.strV0 dJ0_toCharArray_70df3_8 w_sv ?_
  refine EV.invS (As := [(.inr (.inr (pv_SB + 5)))]) (st := []) (d1 := d - 1) (sh1 := sh ++ [(9, 204)]) (h1 := K_let sh.length h) (r1 := some (.inr (.inr sh.length))) dJ0_toCharArray_70df3_11 md_J1_toChars_9d188 ml_J0_299 st_J1_toChars_9d188 (t_toCh (by omega) hb) (by omega) rfl rfl (Nat.le_of_ble_eq_true rfl) ⟨[], (List.append_nil _).symm⟩ ?_
  refine EV.eqS (st2 := [.inr (.inr sh.length)]) rfl ?_
  refine EV.goto (tgt := 24) dJ0_toCharArray_70df3_14 (by decide) ?_
  exact EV.aret dJ0_toCharArray_70df3_24
