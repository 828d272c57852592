theorem pv_rg (z : Int32) : -2147483648 ≤ z.toInt ∧ z.toInt ≤ 2147483647 := ⟨by simpa using Int32.le_toInt z, by have := Int32.toInt_lt z; omega⟩
theorem pv_w8_of (x : Int) : (Int32.ofInt x).toInt8.toInt32 = Int32.ofInt (pv_w8 x) := by
  rw [Int32.toInt8_ofInt, ← Int32.toInt_inj, Int8.toInt_toInt32, pv_toInt (by have := pv_w8_lo x; omega) (by have := pv_w8_hi x; omega)]
  rfl
theorem pv_w16_of (x : Int) : (Int32.ofInt x).toInt16.toInt32 = Int32.ofInt (pv_w16 x) := by
  rw [Int32.toInt16_ofInt, ← Int32.toInt_inj, Int16.toInt_toInt32, pv_toInt (by have := pv_w16_lo x; omega) (by have := pv_w16_hi x; omega)]
  rfl
theorem pv_cat1 {ad : Nat → Nat} {v : pv_V} (h : pv_c2 v = false) : (pv_tv ad v).category = 1 := by
  rcases v with x | y | q
  · rfl
  · cases h
  · rfl
theorem pv_cat2 {ad : Nat → Nat} {v : pv_V} (h : pv_c2 v = true) : (pv_tv ad v).category = 2 := by
  rcases v with x | y | q
  · cases h
  · rfl
  · cases h
section RULES
variable {own : String} {cc : ByteArray} {nL : Nat} {ret : Option FieldType} {ini : Bool} {d : Nat} {sh' : pv_Sh} {h' : pv_H} {r : Option pv_V} {pc : Nat} {L : List (Option pv_V)} {st : List pv_V} {sh : pv_Sh} {h : pv_H}
theorem EV.iconst {n : Int} (hd : decode cc pc = .ok (.iconst n, 1)) (h1 : -2147483648 ≤ n) (h2 : n ≤ 2147483647) (k : EV own cc nL ret ini d sh' h' r (pc + 1) L (.inl n :: st) sh h) : EV own cc nL ret ini d sh' h' r pc L (st) sh h := by
  intro p l e s m args below meth c D aC ad0 ad A n0 s0 cells slots mc ms H locs ls C N R
  obtain ⟨hx, hb, hml, hrt, hown, hts, hlk, hin, hA, hK, hSt⟩ := id C
  obtain ⟨ag, hP, hD, oH, hS, hl, oL, oS⟩ := id R
  refine lv_iconst (v := Int32.ofInt n) hx hb hd rfl ?_
  exact k _ _ _ _ _ _ _ _ _ _ _ _ _ _ _ _ _ _ _ _ _ _ _ C N ⟨ag, hP, hD, oH, hS, hl, oL, List.forall_mem_cons.mpr ⟨⟨h1, h2⟩, oS⟩⟩
theorem EV.bipush {n : Int} (hd : decode cc pc = .ok (.bipush n, 2)) (h1 : -128 ≤ n) (h2 : n ≤ 127) (k : EV own cc nL ret ini d sh' h' r (pc + 2) L (.inl n :: st) sh h) : EV own cc nL ret ini d sh' h' r pc L (st) sh h := by
  intro p l e s m args below meth c D aC ad0 ad A n0 s0 cells slots mc ms H locs ls C N R
  obtain ⟨hx, hb, hml, hrt, hown, hts, hlk, hin, hA, hK, hSt⟩ := id C
  obtain ⟨ag, hP, hD, oH, hS, hl, oL, oS⟩ := id R
  refine lv_bipush (v := Int32.ofInt n) hx hb hd (Int8.toInt32_ofInt h1 h2) ?_
  exact k _ _ _ _ _ _ _ _ _ _ _ _ _ _ _ _ _ _ _ _ _ _ _ C N ⟨ag, hP, hD, oH, hS, hl, oL, List.forall_mem_cons.mpr ⟨⟨by omega, by omega⟩, oS⟩⟩
theorem EV.sipush {n : Int} (hd : decode cc pc = .ok (.sipush n, 3)) (h1 : -32768 ≤ n) (h2 : n ≤ 32767) (k : EV own cc nL ret ini d sh' h' r (pc + 3) L (.inl n :: st) sh h) : EV own cc nL ret ini d sh' h' r pc L (st) sh h := by
  intro p l e s m args below meth c D aC ad0 ad A n0 s0 cells slots mc ms H locs ls C N R
  obtain ⟨hx, hb, hml, hrt, hown, hts, hlk, hin, hA, hK, hSt⟩ := id C
  obtain ⟨ag, hP, hD, oH, hS, hl, oL, oS⟩ := id R
  refine lv_sipush (v := Int32.ofInt n) hx hb hd (Int16.toInt32_ofInt h1 h2) ?_
  exact k _ _ _ _ _ _ _ _ _ _ _ _ _ _ _ _ _ _ _ _ _ _ _ C N ⟨ag, hP, hD, oH, hS, hl, oL, List.forall_mem_cons.mpr ⟨⟨by omega, by omega⟩, oS⟩⟩
theorem EV.ldc {n : Int} {index : Nat} (hd : decode cc pc = .ok (.ldc index, 2)) (hc : Cond.constant own index (Int32.ofInt n) ∈ pv_W) (h1 : -2147483648 ≤ n) (h2 : n ≤ 2147483647) (k : EV own cc nL ret ini d sh' h' r (pc + 2) L (.inl n :: st) sh h) : EV own cc nL ret ini d sh' h' r pc L (st) sh h := by
  intro p l e s m args below meth c D aC ad0 ad A n0 s0 cells slots mc ms H locs ls C N R
  obtain ⟨hx, hb, hml, hrt, hown, hts, hlk, hin, hA, hK, hSt⟩ := id C
  obtain ⟨ag, hP, hD, oH, hS, hl, oL, oS⟩ := id R
  refine lv_ldc hx hb hown (hts _ hc) hd ?_
  exact k _ _ _ _ _ _ _ _ _ _ _ _ _ _ _ _ _ _ _ _ _ _ _ C N ⟨ag, hP, hD, oH, hS, hl, oL, List.forall_mem_cons.mpr ⟨⟨h1, h2⟩, oS⟩⟩
theorem EV.ldcw {n : Int} {index : Nat} (hd : decode cc pc = .ok (.ldc_w index, 3)) (hc : Cond.constant own index (Int32.ofInt n) ∈ pv_W) (h1 : -2147483648 ≤ n) (h2 : n ≤ 2147483647) (k : EV own cc nL ret ini d sh' h' r (pc + 3) L (.inl n :: st) sh h) : EV own cc nL ret ini d sh' h' r pc L (st) sh h := by
  intro p l e s m args below meth c D aC ad0 ad A n0 s0 cells slots mc ms H locs ls C N R
  obtain ⟨hx, hb, hml, hrt, hown, hts, hlk, hin, hA, hK, hSt⟩ := id C
  obtain ⟨ag, hP, hD, oH, hS, hl, oL, oS⟩ := id R
  refine lv_ldcw hx hb hown (hts _ hc) hd ?_
  exact k _ _ _ _ _ _ _ _ _ _ _ _ _ _ _ _ _ _ _ _ _ _ _ C N ⟨ag, hP, hD, oH, hS, hl, oL, List.forall_mem_cons.mpr ⟨⟨h1, h2⟩, oS⟩⟩
theorem EV.lconst {n : Fin 2} {x : Int} (hd : decode cc pc = .ok (.lconst n, 1)) (hv : Int64.ofNat (n : Nat) = Int64.ofInt x) (h1 : 0 ≤ x) (h2 : x ≤ 1) (k : EV own cc nL ret ini d sh' h' r (pc + 1) L (.inr (.inl x) :: st) sh h) : EV own cc nL ret ini d sh' h' r pc L (st) sh h := by
  intro p l e s m args below meth c D aC ad0 ad A n0 s0 cells slots mc ms H locs ls C N R
  obtain ⟨hx, hb, hml, hrt, hown, hts, hlk, hin, hA, hK, hSt⟩ := id C
  obtain ⟨ag, hP, hD, oH, hS, hl, oL, oS⟩ := id R
  refine lv_lconst hx hb hd hv ?_
  exact k _ _ _ _ _ _ _ _ _ _ _ _ _ _ _ _ _ _ _ _ _ _ _ C N ⟨ag, hP, hD, oH, hS, hl, oL, List.forall_mem_cons.mpr ⟨⟨by omega, by omega⟩, oS⟩⟩
theorem EV.ldc2 {n : Int} {index : Nat} (hd : decode cc pc = .ok (.ldc2_w index, 3)) (hc : Cond.constantLong own index (Int64.ofInt n) ∈ pv_W) (h1 : -9223372036854775808 ≤ n) (h2 : n ≤ 9223372036854775807) (k : EV own cc nL ret ini d sh' h' r (pc + 3) L (.inr (.inl n) :: st) sh h) : EV own cc nL ret ini d sh' h' r pc L (st) sh h := by
  intro p l e s m args below meth c D aC ad0 ad A n0 s0 cells slots mc ms H locs ls C N R
  obtain ⟨hx, hb, hml, hrt, hown, hts, hlk, hin, hA, hK, hSt⟩ := id C
  obtain ⟨ag, hP, hD, oH, hS, hl, oL, oS⟩ := id R
  refine lv_ldc2 hx hb hown (hts _ hc) hd ?_
  exact k _ _ _ _ _ _ _ _ _ _ _ _ _ _ _ _ _ _ _ _ _ _ _ C N ⟨ag, hP, hD, oH, hS, hl, oL, List.forall_mem_cons.mpr ⟨⟨h1, h2⟩, oS⟩⟩
theorem EV.iload_n {z : Fin 4} {i : Nat} {x : Int} (hd : decode cc pc = .ok (.iload_n z, 1)) (hi : (z : Nat) = i) (e0 : L[i]? = some (some (.inl x))) (k : EV own cc nL ret ini d sh' h' r (pc + 1) L (.inl x :: st) sh h) : EV own cc nL ret ini d sh' h' r pc L (st) sh h := by
  intro p l e s m args below meth c D aC ad0 ad A n0 s0 cells slots mc ms H locs ls C N R
  obtain ⟨hx, hb, hml, hrt, hown, hts, hlk, hin, hA, hK, hSt⟩ := id C
  obtain ⟨ag, hP, hD, oH, hS, hl, oL, oS⟩ := id R
  refine lv_iload_n hx hb hd hi (pv_L_at hl e0) ?_
  exact k _ _ _ _ _ _ _ _ _ _ _ _ _ _ _ _ _ _ _ _ _ _ _ C N ⟨ag, hP, hD, oH, hS, hl, oL, List.forall_mem_cons.mpr ⟨oL _ (List.mem_of_getElem? e0), oS⟩⟩
theorem EV.iload {i : Nat} {x : Int} (hd : decode cc pc = .ok (.iload i, 2)) (e0 : L[i]? = some (some (.inl x))) (k : EV own cc nL ret ini d sh' h' r (pc + 2) L (.inl x :: st) sh h) : EV own cc nL ret ini d sh' h' r pc L (st) sh h := by
  intro p l e s m args below meth c D aC ad0 ad A n0 s0 cells slots mc ms H locs ls C N R
  obtain ⟨hx, hb, hml, hrt, hown, hts, hlk, hin, hA, hK, hSt⟩ := id C
  obtain ⟨ag, hP, hD, oH, hS, hl, oL, oS⟩ := id R
  refine lv_iload hx hb hd (pv_L_at hl e0) ?_
  exact k _ _ _ _ _ _ _ _ _ _ _ _ _ _ _ _ _ _ _ _ _ _ _ C N ⟨ag, hP, hD, oH, hS, hl, oL, List.forall_mem_cons.mpr ⟨oL _ (List.mem_of_getElem? e0), oS⟩⟩
theorem EV.aload_n {z : Fin 4} {i : Nat} {x : Nat} (hd : decode cc pc = .ok (.aload_n z, 1)) (hi : (z : Nat) = i) (e0 : L[i]? = some (some (.inr (.inr x)))) (k : EV own cc nL ret ini d sh' h' r (pc + 1) L (.inr (.inr x) :: st) sh h) : EV own cc nL ret ini d sh' h' r pc L (st) sh h := by
  intro p l e s m args below meth c D aC ad0 ad A n0 s0 cells slots mc ms H locs ls C N R
  obtain ⟨hx, hb, hml, hrt, hown, hts, hlk, hin, hA, hK, hSt⟩ := id C
  obtain ⟨ag, hP, hD, oH, hS, hl, oL, oS⟩ := id R
  refine lv_aload_n hx hb hd hi (pv_L_at hl e0) ?_
  exact k _ _ _ _ _ _ _ _ _ _ _ _ _ _ _ _ _ _ _ _ _ _ _ C N ⟨ag, hP, hD, oH, hS, hl, oL, List.forall_mem_cons.mpr ⟨oL _ (List.mem_of_getElem? e0), oS⟩⟩
theorem EV.aload {i : Nat} {x : Nat} (hd : decode cc pc = .ok (.aload i, 2)) (e0 : L[i]? = some (some (.inr (.inr x)))) (k : EV own cc nL ret ini d sh' h' r (pc + 2) L (.inr (.inr x) :: st) sh h) : EV own cc nL ret ini d sh' h' r pc L (st) sh h := by
  intro p l e s m args below meth c D aC ad0 ad A n0 s0 cells slots mc ms H locs ls C N R
  obtain ⟨hx, hb, hml, hrt, hown, hts, hlk, hin, hA, hK, hSt⟩ := id C
  obtain ⟨ag, hP, hD, oH, hS, hl, oL, oS⟩ := id R
  refine lv_aload hx hb hd (pv_L_at hl e0) ?_
  exact k _ _ _ _ _ _ _ _ _ _ _ _ _ _ _ _ _ _ _ _ _ _ _ C N ⟨ag, hP, hD, oH, hS, hl, oL, List.forall_mem_cons.mpr ⟨oL _ (List.mem_of_getElem? e0), oS⟩⟩
theorem EV.lload_n {z : Fin 4} {i : Nat} {x : Int} (hd : decode cc pc = .ok (.lload_n z, 1)) (hi : (z : Nat) = i) (e0 : L[i]? = some (some (.inr (.inl x)))) (k : EV own cc nL ret ini d sh' h' r (pc + 1) L (.inr (.inl x) :: st) sh h) : EV own cc nL ret ini d sh' h' r pc L (st) sh h := by
  intro p l e s m args below meth c D aC ad0 ad A n0 s0 cells slots mc ms H locs ls C N R
  obtain ⟨hx, hb, hml, hrt, hown, hts, hlk, hin, hA, hK, hSt⟩ := id C
  obtain ⟨ag, hP, hD, oH, hS, hl, oL, oS⟩ := id R
  refine lv_lload_n hx hb hd hi (pv_L_at hl e0) ?_
  exact k _ _ _ _ _ _ _ _ _ _ _ _ _ _ _ _ _ _ _ _ _ _ _ C N ⟨ag, hP, hD, oH, hS, hl, oL, List.forall_mem_cons.mpr ⟨oL _ (List.mem_of_getElem? e0), oS⟩⟩
theorem EV.lload {i : Nat} {x : Int} (hd : decode cc pc = .ok (.lload i, 2)) (e0 : L[i]? = some (some (.inr (.inl x)))) (k : EV own cc nL ret ini d sh' h' r (pc + 2) L (.inr (.inl x) :: st) sh h) : EV own cc nL ret ini d sh' h' r pc L (st) sh h := by
  intro p l e s m args below meth c D aC ad0 ad A n0 s0 cells slots mc ms H locs ls C N R
  obtain ⟨hx, hb, hml, hrt, hown, hts, hlk, hin, hA, hK, hSt⟩ := id C
  obtain ⟨ag, hP, hD, oH, hS, hl, oL, oS⟩ := id R
  refine lv_lload hx hb hd (pv_L_at hl e0) ?_
  exact k _ _ _ _ _ _ _ _ _ _ _ _ _ _ _ _ _ _ _ _ _ _ _ C N ⟨ag, hP, hD, oH, hS, hl, oL, List.forall_mem_cons.mpr ⟨oL _ (List.mem_of_getElem? e0), oS⟩⟩
theorem EV.istore_n {z : Fin 4} {i : Nat} {x : Int} (hd : decode cc pc = .ok (.istore_n z, 1)) (hi : (z : Nat) = i) (hn : i < nL) (k : EV own cc nL ret ini d sh' h' r (pc + 1) (pv_set L i (.inl x)) (st) sh h) : EV own cc nL ret ini d sh' h' r pc L (.inl x :: st) sh h := by
  intro p l e s m args below meth c D aC ad0 ad A n0 s0 cells slots mc ms H locs ls C N R
  obtain ⟨hx, hb, hml, hrt, hown, hts, hlk, hin, hA, hK, hSt⟩ := id C
  obtain ⟨ag, hP, hD, oH, hS, hl, oL, oS⟩ := id R
  obtain ⟨o1, oS⟩ := List.forall_mem_cons.mp oS
  refine lv_istore_n hx hb hd hi hl hn rfl (fun ls hl => ?_)
  exact k _ _ _ _ _ _ _ _ _ _ _ _ _ _ _ _ _ _ _ _ _ _ _ C N ⟨ag, hP, hD, oH, hS, pv_L_weak hl (pv_set_1 rfl), pv_set_ok oL o1, oS⟩
theorem EV.istore {i : Nat} {x : Int} (hd : decode cc pc = .ok (.istore i, 2)) (hn : i < nL) (k : EV own cc nL ret ini d sh' h' r (pc + 2) (pv_set L i (.inl x)) (st) sh h) : EV own cc nL ret ini d sh' h' r pc L (.inl x :: st) sh h := by
  intro p l e s m args below meth c D aC ad0 ad A n0 s0 cells slots mc ms H locs ls C N R
  obtain ⟨hx, hb, hml, hrt, hown, hts, hlk, hin, hA, hK, hSt⟩ := id C
  obtain ⟨ag, hP, hD, oH, hS, hl, oL, oS⟩ := id R
  obtain ⟨o1, oS⟩ := List.forall_mem_cons.mp oS
  refine lv_istore hx hb hd hl hn rfl (fun ls hl => ?_)
  exact k _ _ _ _ _ _ _ _ _ _ _ _ _ _ _ _ _ _ _ _ _ _ _ C N ⟨ag, hP, hD, oH, hS, pv_L_weak hl (pv_set_1 rfl), pv_set_ok oL o1, oS⟩
theorem EV.astore_n {z : Fin 4} {i : Nat} {x : Nat} (hd : decode cc pc = .ok (.astore_n z, 1)) (hi : (z : Nat) = i) (hn : i < nL) (k : EV own cc nL ret ini d sh' h' r (pc + 1) (pv_set L i (.inr (.inr x))) (st) sh h) : EV own cc nL ret ini d sh' h' r pc L (.inr (.inr x) :: st) sh h := by
  intro p l e s m args below meth c D aC ad0 ad A n0 s0 cells slots mc ms H locs ls C N R
  obtain ⟨hx, hb, hml, hrt, hown, hts, hlk, hin, hA, hK, hSt⟩ := id C
  obtain ⟨ag, hP, hD, oH, hS, hl, oL, oS⟩ := id R
  obtain ⟨o1, oS⟩ := List.forall_mem_cons.mp oS
  refine lv_astore_n hx hb hd hi hl hn rfl (fun ls hl => ?_)
  exact k _ _ _ _ _ _ _ _ _ _ _ _ _ _ _ _ _ _ _ _ _ _ _ C N ⟨ag, hP, hD, oH, hS, pv_L_weak hl (pv_set_1 rfl), pv_set_ok oL o1, oS⟩
theorem EV.astore {i : Nat} {x : Nat} (hd : decode cc pc = .ok (.astore i, 2)) (hn : i < nL) (k : EV own cc nL ret ini d sh' h' r (pc + 2) (pv_set L i (.inr (.inr x))) (st) sh h) : EV own cc nL ret ini d sh' h' r pc L (.inr (.inr x) :: st) sh h := by
  intro p l e s m args below meth c D aC ad0 ad A n0 s0 cells slots mc ms H locs ls C N R
  obtain ⟨hx, hb, hml, hrt, hown, hts, hlk, hin, hA, hK, hSt⟩ := id C
  obtain ⟨ag, hP, hD, oH, hS, hl, oL, oS⟩ := id R
  obtain ⟨o1, oS⟩ := List.forall_mem_cons.mp oS
  refine lv_astore hx hb hd hl hn rfl (fun ls hl => ?_)
  exact k _ _ _ _ _ _ _ _ _ _ _ _ _ _ _ _ _ _ _ _ _ _ _ C N ⟨ag, hP, hD, oH, hS, pv_L_weak hl (pv_set_1 rfl), pv_set_ok oL o1, oS⟩
theorem EV.lstore_n {z : Fin 4} {i : Nat} {x : Int} (hd : decode cc pc = .ok (.lstore_n z, 1)) (hi : (z : Nat) = i) (hn : i + 1 < nL) (k : EV own cc nL ret ini d sh' h' r (pc + 1) (pv_set L i (.inr (.inl x))) (st) sh h) : EV own cc nL ret ini d sh' h' r pc L (.inr (.inl x) :: st) sh h := by
  intro p l e s m args below meth c D aC ad0 ad A n0 s0 cells slots mc ms H locs ls C N R
  obtain ⟨hx, hb, hml, hrt, hown, hts, hlk, hin, hA, hK, hSt⟩ := id C
  obtain ⟨ag, hP, hD, oH, hS, hl, oL, oS⟩ := id R
  obtain ⟨o1, oS⟩ := List.forall_mem_cons.mp oS
  refine lv_lstore_n hx hb hd hi hl hn rfl (fun ls hl => ?_)
  exact k _ _ _ _ _ _ _ _ _ _ _ _ _ _ _ _ _ _ _ _ _ _ _ C N ⟨ag, hP, hD, oH, hS, pv_L_weak hl (pv_set_2 rfl), pv_set_ok oL o1, oS⟩
theorem EV.lstore {i : Nat} {x : Int} (hd : decode cc pc = .ok (.lstore i, 2)) (hn : i + 1 < nL) (k : EV own cc nL ret ini d sh' h' r (pc + 2) (pv_set L i (.inr (.inl x))) (st) sh h) : EV own cc nL ret ini d sh' h' r pc L (.inr (.inl x) :: st) sh h := by
  intro p l e s m args below meth c D aC ad0 ad A n0 s0 cells slots mc ms H locs ls C N R
  obtain ⟨hx, hb, hml, hrt, hown, hts, hlk, hin, hA, hK, hSt⟩ := id C
  obtain ⟨ag, hP, hD, oH, hS, hl, oL, oS⟩ := id R
  obtain ⟨o1, oS⟩ := List.forall_mem_cons.mp oS
  refine lv_lstore hx hb hd hl hn rfl (fun ls hl => ?_)
  exact k _ _ _ _ _ _ _ _ _ _ _ _ _ _ _ _ _ _ _ _ _ _ _ C N ⟨ag, hP, hD, oH, hS, pv_L_weak hl (pv_set_2 rfl), pv_set_ok oL o1, oS⟩
theorem EV.iinc {i : Nat} {n x : Int} (hd : decode cc pc = .ok (.iinc i n, 3)) (e0 : L[i]? = some (some (.inl x))) (hn : i < nL) (k : EV own cc nL ret ini d sh' h' r (pc + 3) (pv_set L i (.inl (pv_w (x + n)))) (st) sh h) : EV own cc nL ret ini d sh' h' r pc L (st) sh h := by
  intro p l e s m args below meth c D aC ad0 ad A n0 s0 cells slots mc ms H locs ls C N R
  obtain ⟨hx, hb, hml, hrt, hown, hts, hlk, hin, hA, hK, hSt⟩ := id C
  obtain ⟨ag, hP, hD, oH, hS, hl, oL, oS⟩ := id R
  obtain ⟨k0, hk0⟩ := List.getElem?_of_mem (pv_L_mem.mpr ⟨_, e0, rfl⟩ : (i, pv_tv ad (.inl x)) ∈ pv_L ad L)
  refine lv_iinc (v := Int32.ofInt (pv_w (x + n))) hx hb hd hl hk0 (by rw [pv_w_of, Int32.ofInt_add]) hn rfl (fun ls hl => ?_)
  exact k _ _ _ _ _ _ _ _ _ _ _ _ _ _ _ _ _ _ _ _ _ _ _ C N ⟨ag, hP, hD, oH, hS, pv_L_weak hl (pv_set_1 rfl), pv_set_ok oL ⟨pv_w_lo _, pv_w_hi _⟩, oS⟩
theorem EV.iadd {x y : Int} (hd : decode cc pc = .ok (.iadd, 1)) (k : EV own cc nL ret ini d sh' h' r (pc + 1) L (.inl (pv_w (x + y)) :: st) sh h) : EV own cc nL ret ini d sh' h' r pc L (.inl y :: .inl x :: st) sh h := by
  intro p l e s m args below meth c D aC ad0 ad A n0 s0 cells slots mc ms H locs ls C N R
  obtain ⟨hx, hb, hml, hrt, hown, hts, hlk, hin, hA, hK, hSt⟩ := id C
  obtain ⟨ag, hP, hD, oH, hS, hl, oL, oS⟩ := id R
  obtain ⟨o1, oS⟩ := List.forall_mem_cons.mp oS
  obtain ⟨o2, oS⟩ := List.forall_mem_cons.mp oS
  refine lv_iadd hx hb hd ?_
  rw [← Int32.ofInt_add, ← pv_w_of]
  exact k _ _ _ _ _ _ _ _ _ _ _ _ _ _ _ _ _ _ _ _ _ _ _ C N ⟨ag, hP, hD, oH, hS, hl, oL, List.forall_mem_cons.mpr ⟨⟨pv_w_lo _, pv_w_hi _⟩, oS⟩⟩
theorem EV.isub {x y : Int} (hd : decode cc pc = .ok (.isub, 1)) (k : EV own cc nL ret ini d sh' h' r (pc + 1) L (.inl (pv_w (x - y)) :: st) sh h) : EV own cc nL ret ini d sh' h' r pc L (.inl y :: .inl x :: st) sh h := by
  intro p l e s m args below meth c D aC ad0 ad A n0 s0 cells slots mc ms H locs ls C N R
  obtain ⟨hx, hb, hml, hrt, hown, hts, hlk, hin, hA, hK, hSt⟩ := id C
  obtain ⟨ag, hP, hD, oH, hS, hl, oL, oS⟩ := id R
  obtain ⟨o1, oS⟩ := List.forall_mem_cons.mp oS
  obtain ⟨o2, oS⟩ := List.forall_mem_cons.mp oS
  refine lv_isub hx hb hd ?_
  rw [← Int32.ofInt_sub, ← pv_w_of]
  exact k _ _ _ _ _ _ _ _ _ _ _ _ _ _ _ _ _ _ _ _ _ _ _ C N ⟨ag, hP, hD, oH, hS, hl, oL, List.forall_mem_cons.mpr ⟨⟨pv_w_lo _, pv_w_hi _⟩, oS⟩⟩
theorem EV.imul {x y : Int} (hd : decode cc pc = .ok (.imul, 1)) (k : EV own cc nL ret ini d sh' h' r (pc + 1) L (.inl (pv_w (x * y)) :: st) sh h) : EV own cc nL ret ini d sh' h' r pc L (.inl y :: .inl x :: st) sh h := by
  intro p l e s m args below meth c D aC ad0 ad A n0 s0 cells slots mc ms H locs ls C N R
  obtain ⟨hx, hb, hml, hrt, hown, hts, hlk, hin, hA, hK, hSt⟩ := id C
  obtain ⟨ag, hP, hD, oH, hS, hl, oL, oS⟩ := id R
  obtain ⟨o1, oS⟩ := List.forall_mem_cons.mp oS
  obtain ⟨o2, oS⟩ := List.forall_mem_cons.mp oS
  refine lv_imul hx hb hd ?_
  rw [← Int32.ofInt_mul, ← pv_w_of]
  exact k _ _ _ _ _ _ _ _ _ _ _ _ _ _ _ _ _ _ _ _ _ _ _ C N ⟨ag, hP, hD, oH, hS, hl, oL, List.forall_mem_cons.mpr ⟨⟨pv_w_lo _, pv_w_hi _⟩, oS⟩⟩
theorem EV.ineg {x : Int} (hd : decode cc pc = .ok (.ineg, 1)) (k : EV own cc nL ret ini d sh' h' r (pc + 1) L (.inl (pv_w (-x)) :: st) sh h) : EV own cc nL ret ini d sh' h' r pc L (.inl x :: st) sh h := by
  intro p l e s m args below meth c D aC ad0 ad A n0 s0 cells slots mc ms H locs ls C N R
  obtain ⟨hx, hb, hml, hrt, hown, hts, hlk, hin, hA, hK, hSt⟩ := id C
  obtain ⟨ag, hP, hD, oH, hS, hl, oL, oS⟩ := id R
  obtain ⟨o1, oS⟩ := List.forall_mem_cons.mp oS
  refine lv_ineg hx hb hd ?_
  rw [← Int32.ofInt_neg, ← pv_w_of]
  exact k _ _ _ _ _ _ _ _ _ _ _ _ _ _ _ _ _ _ _ _ _ _ _ C N ⟨ag, hP, hD, oH, hS, hl, oL, List.forall_mem_cons.mpr ⟨⟨pv_w_lo _, pv_w_hi _⟩, oS⟩⟩
theorem EV.idiv {x y : Int} (hd : decode cc pc = .ok (.idiv, 1)) (h0 : ¬ y = 0) (k : EV own cc nL ret ini d sh' h' r (pc + 1) L (.inl (pv_w (x.tdiv y)) :: st) sh h) : EV own cc nL ret ini d sh' h' r pc L (.inl y :: .inl x :: st) sh h := by
  intro p l e s m args below meth c D aC ad0 ad A n0 s0 cells slots mc ms H locs ls C N R
  obtain ⟨hx, hb, hml, hrt, hown, hts, hlk, hin, hA, hK, hSt⟩ := id C
  obtain ⟨ag, hP, hD, oH, hS, hl, oL, oS⟩ := id R
  obtain ⟨o1, oS⟩ := List.forall_mem_cons.mp oS
  obtain ⟨o2, oS⟩ := List.forall_mem_cons.mp oS
  have hne : ¬ Int32.ofInt y = 0 := by rw [pv_z, pv_eq o1.1 o1.2 (by decide) (by decide)]; exact h0
  refine lv_idiv hx hb hd hne ?_
  rw [← Int32.ofInt_tdiv o2.1 o2.2 o1.1 o1.2, ← pv_w_of]
  exact k _ _ _ _ _ _ _ _ _ _ _ _ _ _ _ _ _ _ _ _ _ _ _ C N ⟨ag, hP, hD, oH, hS, hl, oL, List.forall_mem_cons.mpr ⟨⟨pv_w_lo _, pv_w_hi _⟩, oS⟩⟩
theorem EV.irem {x y : Int} (hd : decode cc pc = .ok (.irem, 1)) (h0 : ¬ y = 0) (k : EV own cc nL ret ini d sh' h' r (pc + 1) L (.inl (pv_w (x.tmod y)) :: st) sh h) : EV own cc nL ret ini d sh' h' r pc L (.inl y :: .inl x :: st) sh h := by
  intro p l e s m args below meth c D aC ad0 ad A n0 s0 cells slots mc ms H locs ls C N R
  obtain ⟨hx, hb, hml, hrt, hown, hts, hlk, hin, hA, hK, hSt⟩ := id C
  obtain ⟨ag, hP, hD, oH, hS, hl, oL, oS⟩ := id R
  obtain ⟨o1, oS⟩ := List.forall_mem_cons.mp oS
  obtain ⟨o2, oS⟩ := List.forall_mem_cons.mp oS
  have hne : ¬ Int32.ofInt y = 0 := by rw [pv_z, pv_eq o1.1 o1.2 (by decide) (by decide)]; exact h0
  refine lv_irem hx hb hd hne ?_
  rw [← Int32.ofInt_tdiv o2.1 o2.2 o1.1 o1.2, ← Int32.ofInt_mul, ← Int32.ofInt_sub, Int.mul_comm, ← Int.tmod_def, ← pv_w_of]
  exact k _ _ _ _ _ _ _ _ _ _ _ _ _ _ _ _ _ _ _ _ _ _ _ C N ⟨ag, hP, hD, oH, hS, hl, oL, List.forall_mem_cons.mpr ⟨⟨pv_w_lo _, pv_w_hi _⟩, oS⟩⟩
def pv_shl (x y : Int) : Int := (Int32.ofInt x <<< (Int32.ofInt y &&& 31)).toInt
theorem EV.ishl {x y : Int} (hd : decode cc pc = .ok (.ishl, 1)) (k : EV own cc nL ret ini d sh' h' r (pc + 1) L (.inl (pv_shl x y) :: st) sh h) : EV own cc nL ret ini d sh' h' r pc L (.inl y :: .inl x :: st) sh h := by
  intro p l e s m args below meth c D aC ad0 ad A n0 s0 cells slots mc ms H locs ls C N R
  obtain ⟨hx, hb, hml, hrt, hown, hts, hlk, hin, hA, hK, hSt⟩ := id C
  obtain ⟨ag, hP, hD, oH, hS, hl, oL, oS⟩ := id R
  obtain ⟨o1, oS⟩ := List.forall_mem_cons.mp oS
  obtain ⟨o2, oS⟩ := List.forall_mem_cons.mp oS
  refine lv_ishl hx hb hd ?_
  rw [← Int32.ofInt_toInt (Int32.ofInt x <<< (Int32.ofInt y &&& 31))]
  exact k _ _ _ _ _ _ _ _ _ _ _ _ _ _ _ _ _ _ _ _ _ _ _ C N ⟨ag, hP, hD, oH, hS, hl, oL, List.forall_mem_cons.mpr ⟨pv_rg _, oS⟩⟩
def pv_shr (x y : Int) : Int := (Int32.ofInt x >>> (Int32.ofInt y &&& 31)).toInt
theorem EV.ishr {x y : Int} (hd : decode cc pc = .ok (.ishr, 1)) (k : EV own cc nL ret ini d sh' h' r (pc + 1) L (.inl (pv_shr x y) :: st) sh h) : EV own cc nL ret ini d sh' h' r pc L (.inl y :: .inl x :: st) sh h := by
  intro p l e s m args below meth c D aC ad0 ad A n0 s0 cells slots mc ms H locs ls C N R
  obtain ⟨hx, hb, hml, hrt, hown, hts, hlk, hin, hA, hK, hSt⟩ := id C
  obtain ⟨ag, hP, hD, oH, hS, hl, oL, oS⟩ := id R
  obtain ⟨o1, oS⟩ := List.forall_mem_cons.mp oS
  obtain ⟨o2, oS⟩ := List.forall_mem_cons.mp oS
  refine lv_ishr hx hb hd ?_
  rw [← Int32.ofInt_toInt (Int32.ofInt x >>> (Int32.ofInt y &&& 31))]
  exact k _ _ _ _ _ _ _ _ _ _ _ _ _ _ _ _ _ _ _ _ _ _ _ C N ⟨ag, hP, hD, oH, hS, hl, oL, List.forall_mem_cons.mpr ⟨pv_rg _, oS⟩⟩
def pv_and (x y : Int) : Int := (Int32.ofInt x &&& Int32.ofInt y).toInt
theorem EV.iand {x y : Int} (hd : decode cc pc = .ok (.iand, 1)) (k : EV own cc nL ret ini d sh' h' r (pc + 1) L (.inl (pv_and x y) :: st) sh h) : EV own cc nL ret ini d sh' h' r pc L (.inl y :: .inl x :: st) sh h := by
  intro p l e s m args below meth c D aC ad0 ad A n0 s0 cells slots mc ms H locs ls C N R
  obtain ⟨hx, hb, hml, hrt, hown, hts, hlk, hin, hA, hK, hSt⟩ := id C
  obtain ⟨ag, hP, hD, oH, hS, hl, oL, oS⟩ := id R
  obtain ⟨o1, oS⟩ := List.forall_mem_cons.mp oS
  obtain ⟨o2, oS⟩ := List.forall_mem_cons.mp oS
  refine lv_iand hx hb hd ?_
  rw [← Int32.ofInt_toInt (Int32.ofInt x &&& Int32.ofInt y)]
  exact k _ _ _ _ _ _ _ _ _ _ _ _ _ _ _ _ _ _ _ _ _ _ _ C N ⟨ag, hP, hD, oH, hS, hl, oL, List.forall_mem_cons.mpr ⟨pv_rg _, oS⟩⟩
def pv_or (x y : Int) : Int := (Int32.ofInt x ||| Int32.ofInt y).toInt
theorem EV.ior {x y : Int} (hd : decode cc pc = .ok (.ior, 1)) (k : EV own cc nL ret ini d sh' h' r (pc + 1) L (.inl (pv_or x y) :: st) sh h) : EV own cc nL ret ini d sh' h' r pc L (.inl y :: .inl x :: st) sh h := by
  intro p l e s m args below meth c D aC ad0 ad A n0 s0 cells slots mc ms H locs ls C N R
  obtain ⟨hx, hb, hml, hrt, hown, hts, hlk, hin, hA, hK, hSt⟩ := id C
  obtain ⟨ag, hP, hD, oH, hS, hl, oL, oS⟩ := id R
  obtain ⟨o1, oS⟩ := List.forall_mem_cons.mp oS
  obtain ⟨o2, oS⟩ := List.forall_mem_cons.mp oS
  refine lv_ior hx hb hd ?_
  rw [← Int32.ofInt_toInt (Int32.ofInt x ||| Int32.ofInt y)]
  exact k _ _ _ _ _ _ _ _ _ _ _ _ _ _ _ _ _ _ _ _ _ _ _ C N ⟨ag, hP, hD, oH, hS, hl, oL, List.forall_mem_cons.mpr ⟨pv_rg _, oS⟩⟩
def pv_ushr (x y : Int) : Int := (((Int32.ofInt x).toUInt32 >>> ((Int32.ofInt y).toUInt32 &&& Int32.toUInt32 31)).toInt32).toInt
theorem EV.iushr {x y : Int} (hd : decode cc pc = .ok (.iushr, 1)) (k : EV own cc nL ret ini d sh' h' r (pc + 1) L (.inl (pv_ushr x y) :: st) sh h) : EV own cc nL ret ini d sh' h' r pc L (.inl y :: .inl x :: st) sh h := by
  intro p l e s m args below meth c D aC ad0 ad A n0 s0 cells slots mc ms H locs ls C N R
  obtain ⟨hx, hb, hml, hrt, hown, hts, hlk, hin, hA, hK, hSt⟩ := id C
  obtain ⟨ag, hP, hD, oH, hS, hl, oL, oS⟩ := id R
  obtain ⟨o1, oS⟩ := List.forall_mem_cons.mp oS
  obtain ⟨o2, oS⟩ := List.forall_mem_cons.mp oS
  refine lv_iushr hx hb hd (Int32.ofInt_toInt _).symm ?_
  exact k _ _ _ _ _ _ _ _ _ _ _ _ _ _ _ _ _ _ _ _ _ _ _ C N ⟨ag, hP, hD, oH, hS, hl, oL, List.forall_mem_cons.mpr ⟨pv_rg _, oS⟩⟩
theorem EV.i2l {x : Int} (hd : decode cc pc = .ok (.i2l, 1)) (k : EV own cc nL ret ini d sh' h' r (pc + 1) L (.inr (.inl x) :: st) sh h) : EV own cc nL ret ini d sh' h' r pc L (.inl x :: st) sh h := by
  intro p l e s m args below meth c D aC ad0 ad A n0 s0 cells slots mc ms H locs ls C N R
  obtain ⟨hx, hb, hml, hrt, hown, hts, hlk, hin, hA, hK, hSt⟩ := id C
  obtain ⟨ag, hP, hD, oH, hS, hl, oL, oS⟩ := id R
  obtain ⟨o1, oS⟩ := List.forall_mem_cons.mp oS
  refine lv_i2l hx hb hd (Int32.toInt64_ofInt o1.1 o1.2) ?_
  exact k _ _ _ _ _ _ _ _ _ _ _ _ _ _ _ _ _ _ _ _ _ _ _ C N ⟨ag, hP, hD, oH, hS, hl, oL, List.forall_mem_cons.mpr ⟨⟨by have := o1.1; omega, by have := o1.2; omega⟩, oS⟩⟩
theorem EV.l2i {x : Int} (hd : decode cc pc = .ok (.l2i, 1)) (k : EV own cc nL ret ini d sh' h' r (pc + 1) L (.inl (pv_w x) :: st) sh h) : EV own cc nL ret ini d sh' h' r pc L (.inr (.inl x) :: st) sh h := by
  intro p l e s m args below meth c D aC ad0 ad A n0 s0 cells slots mc ms H locs ls C N R
  obtain ⟨hx, hb, hml, hrt, hown, hts, hlk, hin, hA, hK, hSt⟩ := id C
  obtain ⟨ag, hP, hD, oH, hS, hl, oL, oS⟩ := id R
  obtain ⟨o1, oS⟩ := List.forall_mem_cons.mp oS
  refine lv_l2i hx hb hd (v := Int32.ofInt (pv_w x)) (by rw [Int64.toInt32_ofInt, pv_w_of]) ?_
  exact k _ _ _ _ _ _ _ _ _ _ _ _ _ _ _ _ _ _ _ _ _ _ _ C N ⟨ag, hP, hD, oH, hS, hl, oL, List.forall_mem_cons.mpr ⟨⟨pv_w_lo _, pv_w_hi _⟩, oS⟩⟩
theorem EV.i2b {x : Int} (hd : decode cc pc = .ok (.i2b, 1)) (k : EV own cc nL ret ini d sh' h' r (pc + 1) L (.inl (pv_w8 x) :: st) sh h) : EV own cc nL ret ini d sh' h' r pc L (.inl x :: st) sh h := by
  intro p l e s m args below meth c D aC ad0 ad A n0 s0 cells slots mc ms H locs ls C N R
  obtain ⟨hx, hb, hml, hrt, hown, hts, hlk, hin, hA, hK, hSt⟩ := id C
  obtain ⟨ag, hP, hD, oH, hS, hl, oL, oS⟩ := id R
  obtain ⟨o1, oS⟩ := List.forall_mem_cons.mp oS
  refine lv_i2b hx hb hd (v := Int32.ofInt (pv_w8 x)) (pv_w8_of x) ?_
  exact k _ _ _ _ _ _ _ _ _ _ _ _ _ _ _ _ _ _ _ _ _ _ _ C N ⟨ag, hP, hD, oH, hS, hl, oL, List.forall_mem_cons.mpr ⟨⟨by have := pv_w8_lo x; omega, by have := pv_w8_hi x; omega⟩, oS⟩⟩
theorem EV.i2s {x : Int} (hd : decode cc pc = .ok (.i2s, 1)) (k : EV own cc nL ret ini d sh' h' r (pc + 1) L (.inl (pv_w16 x) :: st) sh h) : EV own cc nL ret ini d sh' h' r pc L (.inl x :: st) sh h := by
  intro p l e s m args below meth c D aC ad0 ad A n0 s0 cells slots mc ms H locs ls C N R
  obtain ⟨hx, hb, hml, hrt, hown, hts, hlk, hin, hA, hK, hSt⟩ := id C
  obtain ⟨ag, hP, hD, oH, hS, hl, oL, oS⟩ := id R
  obtain ⟨o1, oS⟩ := List.forall_mem_cons.mp oS
  refine lv_i2s hx hb hd (v := Int32.ofInt (pv_w16 x)) (pv_w16_of x) ?_
  exact k _ _ _ _ _ _ _ _ _ _ _ _ _ _ _ _ _ _ _ _ _ _ _ C N ⟨ag, hP, hD, oH, hS, hl, oL, List.forall_mem_cons.mpr ⟨⟨by have := pv_w16_lo x; omega, by have := pv_w16_hi x; omega⟩, oS⟩⟩
theorem EV.lmul {x y : Int} (hd : decode cc pc = .ok (.lmul, 1)) (k : EV own cc nL ret ini d sh' h' r (pc + 1) L (.inr (.inl (pv_wl (x * y))) :: st) sh h) : EV own cc nL ret ini d sh' h' r pc L (.inr (.inl y) :: .inr (.inl x) :: st) sh h := by
  intro p l e s m args below meth c D aC ad0 ad A n0 s0 cells slots mc ms H locs ls C N R
  obtain ⟨hx, hb, hml, hrt, hown, hts, hlk, hin, hA, hK, hSt⟩ := id C
  obtain ⟨ag, hP, hD, oH, hS, hl, oL, oS⟩ := id R
  obtain ⟨o1, oS⟩ := List.forall_mem_cons.mp oS
  obtain ⟨o2, oS⟩ := List.forall_mem_cons.mp oS
  refine lv_lmul hx hb hd ?_
  rw [← Int64.ofInt_mul, ← pv_wl_of]
  exact k _ _ _ _ _ _ _ _ _ _ _ _ _ _ _ _ _ _ _ _ _ _ _ C N ⟨ag, hP, hD, oH, hS, hl, oL, List.forall_mem_cons.mpr ⟨⟨pv_wl_lo _, pv_wl_hi _⟩, oS⟩⟩
theorem EV.ldiv {x y : Int} (hd : decode cc pc = .ok (.ldiv, 1)) (h0 : ¬ y = 0) (k : EV own cc nL ret ini d sh' h' r (pc + 1) L (.inr (.inl (pv_wl (x.tdiv y))) :: st) sh h) : EV own cc nL ret ini d sh' h' r pc L (.inr (.inl y) :: .inr (.inl x) :: st) sh h := by
  intro p l e s m args below meth c D aC ad0 ad A n0 s0 cells slots mc ms H locs ls C N R
  obtain ⟨hx, hb, hml, hrt, hown, hts, hlk, hin, hA, hK, hSt⟩ := id C
  obtain ⟨ag, hP, hD, oH, hS, hl, oL, oS⟩ := id R
  obtain ⟨o1, oS⟩ := List.forall_mem_cons.mp oS
  obtain ⟨o2, oS⟩ := List.forall_mem_cons.mp oS
  have hne : ¬ Int64.ofInt y = 0 := by rw [show (0 : Int64) = Int64.ofInt 0 by decide, ← Int64.toInt_inj, pv_toIntl o1.1 o1.2, pv_toIntl (by decide) (by decide)]; exact h0
  refine lv_ldiv hx hb hd hne ?_
  rw [← Int64.ofInt_tdiv o2.1 o2.2 o1.1 o1.2, ← pv_wl_of]
  exact k _ _ _ _ _ _ _ _ _ _ _ _ _ _ _ _ _ _ _ _ _ _ _ C N ⟨ag, hP, hD, oH, hS, hl, oL, List.forall_mem_cons.mpr ⟨⟨pv_wl_lo _, pv_wl_hi _⟩, oS⟩⟩
def pv_cmp (x y : Int) : Int := if y < x then 1 else if x = y then 0 else -1
theorem pv_cmp_ok {x y : Int} : -2147483648 ≤ pv_cmp x y ∧ pv_cmp x y ≤ 2147483647 := by
  unfold pv_cmp
  split
  · decide
  · split <;> decide
theorem pv_cmp_of {x y : Int} (h1 : -9223372036854775808 ≤ x) (h2 : x ≤ 9223372036854775807) (h3 : -9223372036854775808 ≤ y) (h4 : y ≤ 9223372036854775807) : lg_cmp (Int64.ofInt x) (Int64.ofInt y) = Int32.ofInt (pv_cmp x y) := by
  have e2 : (Int64.ofInt x = Int64.ofInt y) ↔ x = y := by rw [← Int64.toInt_inj, pv_toIntl h1 h2, pv_toIntl h3 h4]
  have e3 : (Int64.ofInt y < Int64.ofInt x) ↔ y < x := by rw [Int64.lt_iff_toInt_lt, pv_toIntl h1 h2, pv_toIntl h3 h4]
  unfold lg_cmp pv_cmp
  by_cases a : y < x
  · rw [if_pos (e3.mpr a), if_pos a]; rfl
  · rw [if_neg (fun z => a (e3.mp z)), if_neg a]
    by_cases b : x = y
    · rw [if_pos (e2.mpr b), if_pos b]; rfl
    · rw [if_neg (fun z => b (e2.mp z)), if_neg b]; rfl
theorem EV.lcmp {x y : Int} (hd : decode cc pc = .ok (.lcmp, 1)) (k : EV own cc nL ret ini d sh' h' r (pc + 1) L (.inl (pv_cmp x y) :: st) sh h) : EV own cc nL ret ini d sh' h' r pc L (.inr (.inl y) :: .inr (.inl x) :: st) sh h := by
  intro p l e s m args below meth c D aC ad0 ad A n0 s0 cells slots mc ms H locs ls C N R
  obtain ⟨hx, hb, hml, hrt, hown, hts, hlk, hin, hA, hK, hSt⟩ := id C
  obtain ⟨ag, hP, hD, oH, hS, hl, oL, oS⟩ := id R
  obtain ⟨o1, oS⟩ := List.forall_mem_cons.mp oS
  obtain ⟨o2, oS⟩ := List.forall_mem_cons.mp oS
  refine W.lcmp hx hb hd ?_
  rw [pv_cmp_of o2.1 o2.2 o1.1 o1.2]
  exact k _ _ _ _ _ _ _ _ _ _ _ _ _ _ _ _ _ _ _ _ _ _ _ C N ⟨ag, hP, hD, oH, hS, hl, oL, List.forall_mem_cons.mpr ⟨pv_cmp_ok, oS⟩⟩
theorem EV.dup {v : pv_V} (hd : decode cc pc = .ok (.dup, 1)) (hc : pv_c2 v = false) (k : EV own cc nL ret ini d sh' h' r (pc + 1) L (v :: v :: st) sh h) : EV own cc nL ret ini d sh' h' r pc L (v :: st) sh h := by
  intro p l e s m args below meth c D aC ad0 ad A n0 s0 cells slots mc ms H locs ls C N R
  obtain ⟨hx, hb, hml, hrt, hown, hts, hlk, hin, hA, hK, hSt⟩ := id C
  obtain ⟨ag, hP, hD, oH, hS, hl, oL, oS⟩ := id R
  obtain ⟨o1, oS⟩ := List.forall_mem_cons.mp oS
  refine lv_dup hx hb hd (pv_cat1 hc) ?_
  exact k _ _ _ _ _ _ _ _ _ _ _ _ _ _ _ _ _ _ _ _ _ _ _ C N ⟨ag, hP, hD, oH, hS, hl, oL, List.forall_mem_cons.mpr ⟨o1, List.forall_mem_cons.mpr ⟨o1, oS⟩⟩⟩
theorem EV.pop {v : pv_V} (hd : decode cc pc = .ok (.pop, 1)) (hc : pv_c2 v = false) (k : EV own cc nL ret ini d sh' h' r (pc + 1) L (st) sh h) : EV own cc nL ret ini d sh' h' r pc L (v :: st) sh h := by
  intro p l e s m args below meth c D aC ad0 ad A n0 s0 cells slots mc ms H locs ls C N R
  obtain ⟨hx, hb, hml, hrt, hown, hts, hlk, hin, hA, hK, hSt⟩ := id C
  obtain ⟨ag, hP, hD, oH, hS, hl, oL, oS⟩ := id R
  obtain ⟨o1, oS⟩ := List.forall_mem_cons.mp oS
  refine lv_pop hx hb hd (pv_cat1 hc) ?_
  exact k _ _ _ _ _ _ _ _ _ _ _ _ _ _ _ _ _ _ _ _ _ _ _ C N ⟨ag, hP, hD, oH, hS, hl, oL, oS⟩
theorem EV.pop2 {v : pv_V} (hd : decode cc pc = .ok (.pop2, 1)) (hc : pv_c2 v = true) (k : EV own cc nL ret ini d sh' h' r (pc + 1) L (st) sh h) : EV own cc nL ret ini d sh' h' r pc L (v :: st) sh h := by
  intro p l e s m args below meth c D aC ad0 ad A n0 s0 cells slots mc ms H locs ls C N R
  obtain ⟨hx, hb, hml, hrt, hown, hts, hlk, hin, hA, hK, hSt⟩ := id C
  obtain ⟨ag, hP, hD, oH, hS, hl, oL, oS⟩ := id R
  obtain ⟨o1, oS⟩ := List.forall_mem_cons.mp oS
  refine lv_pop2_2 hx hb hd (pv_cat2 hc) ?_
  exact k _ _ _ _ _ _ _ _ _ _ _ _ _ _ _ _ _ _ _ _ _ _ _ C N ⟨ag, hP, hD, oH, hS, hl, oL, oS⟩
theorem EV.dup2 {v u : pv_V} (hd : decode cc pc = .ok (.dup2, 1)) (hc : pv_c2 v = false) (hc2 : pv_c2 u = false) (k : EV own cc nL ret ini d sh' h' r (pc + 1) L (v :: u :: v :: u :: st) sh h) : EV own cc nL ret ini d sh' h' r pc L (v :: u :: st) sh h := by
  intro p l e s m args below meth c D aC ad0 ad A n0 s0 cells slots mc ms H locs ls C N R
  obtain ⟨hx, hb, hml, hrt, hown, hts, hlk, hin, hA, hK, hSt⟩ := id C
  obtain ⟨ag, hP, hD, oH, hS, hl, oL, oS⟩ := id R
  obtain ⟨o1, oS⟩ := List.forall_mem_cons.mp oS
  obtain ⟨o2, oS⟩ := List.forall_mem_cons.mp oS
  refine lv_dup2_11 hx hb hd (pv_cat1 hc) (pv_cat1 hc2) ?_
  exact k _ _ _ _ _ _ _ _ _ _ _ _ _ _ _ _ _ _ _ _ _ _ _ C N ⟨ag, hP, hD, oH, hS, hl, oL, List.forall_mem_cons.mpr ⟨o1, List.forall_mem_cons.mpr ⟨o2, List.forall_mem_cons.mpr ⟨o1, List.forall_mem_cons.mpr ⟨o2, oS⟩⟩⟩⟩⟩
theorem EV.goto {off : Int} {tgt : Nat} (hd : decode cc pc = .ok (.goto off, 3)) (ht : (pc : Int) + off = (tgt : Int)) (k : EV own cc nL ret ini d sh' h' r tgt L (st) sh h) : EV own cc nL ret ini d sh' h' r pc L (st) sh h := by
  intro p l e s m args below meth c D aC ad0 ad A n0 s0 cells slots mc ms H locs ls C N R
  obtain ⟨hx, hb, hml, hrt, hown, hts, hlk, hin, hA, hK, hSt⟩ := id C
  obtain ⟨ag, hP, hD, oH, hS, hl, oL, oS⟩ := id R
  refine lv_goto hx hb hd ht ?_
  exact k _ _ _ _ _ _ _ _ _ _ _ _ _ _ _ _ _ _ _ _ _ _ _ C N ⟨ag, hP, hD, oH, hS, hl, oL, oS⟩
theorem EV.if_eq {x : Int} {off : Int} {tgt : Nat} (hd : decode cc pc = .ok (.ifCond .eq off, 3)) (ht : (pc : Int) + off = (tgt : Int)) (kt : x = 0 → EV own cc nL ret ini d sh' h' r tgt L st sh h) (kf : ¬ (x = 0) → EV own cc nL ret ini d sh' h' r (pc + 3) L st sh h) : EV own cc nL ret ini d sh' h' r pc L (.inl x :: st) sh h := by
  intro p l e s m args below meth c D aC ad0 ad A n0 s0 cells slots mc ms H locs ls C N R
  obtain ⟨hx, hb, hml, hrt, hown, hts, hlk, hin, hA, hK, hSt⟩ := id C
  obtain ⟨ag, hP, hD, oH, hS, hl, oL, oS⟩ := id R
  obtain ⟨o1, oS⟩ := List.forall_mem_cons.mp oS
  refine lv_if_eq hx hb hd ht (fun q => ?_) (fun q => ?_)
  · rw [pv_z, pv_eq o1.1 o1.2 (by decide) (by decide)] at q
    exact kt q _ _ _ _ _ _ _ _ _ _ _ _ _ _ _ _ _ _ _ _ _ _ _ C N ⟨ag, hP, hD, oH, hS, hl, oL, oS⟩
  · rw [pv_z, pv_eq o1.1 o1.2 (by decide) (by decide)] at q
    exact kf q _ _ _ _ _ _ _ _ _ _ _ _ _ _ _ _ _ _ _ _ _ _ _ C N ⟨ag, hP, hD, oH, hS, hl, oL, oS⟩
theorem EV.if_ne {x : Int} {off : Int} {tgt : Nat} (hd : decode cc pc = .ok (.ifCond .ne off, 3)) (ht : (pc : Int) + off = (tgt : Int)) (kt : ¬ x = 0 → EV own cc nL ret ini d sh' h' r tgt L st sh h) (kf : x = 0 → EV own cc nL ret ini d sh' h' r (pc + 3) L st sh h) : EV own cc nL ret ini d sh' h' r pc L (.inl x :: st) sh h := by
  intro p l e s m args below meth c D aC ad0 ad A n0 s0 cells slots mc ms H locs ls C N R
  obtain ⟨hx, hb, hml, hrt, hown, hts, hlk, hin, hA, hK, hSt⟩ := id C
  obtain ⟨ag, hP, hD, oH, hS, hl, oL, oS⟩ := id R
  obtain ⟨o1, oS⟩ := List.forall_mem_cons.mp oS
  refine lv_if_ne hx hb hd ht (fun q => ?_) (fun q => ?_)
  · rw [pv_z, pv_eq o1.1 o1.2 (by decide) (by decide)] at q
    exact kt q _ _ _ _ _ _ _ _ _ _ _ _ _ _ _ _ _ _ _ _ _ _ _ C N ⟨ag, hP, hD, oH, hS, hl, oL, oS⟩
  · rw [pv_z, pv_eq o1.1 o1.2 (by decide) (by decide)] at q
    exact kf q _ _ _ _ _ _ _ _ _ _ _ _ _ _ _ _ _ _ _ _ _ _ _ C N ⟨ag, hP, hD, oH, hS, hl, oL, oS⟩
theorem EV.if_lt {x : Int} {off : Int} {tgt : Nat} (hd : decode cc pc = .ok (.ifCond .lt off, 3)) (ht : (pc : Int) + off = (tgt : Int)) (kt : x < 0 → EV own cc nL ret ini d sh' h' r tgt L st sh h) (kf : ¬ (x < 0) → EV own cc nL ret ini d sh' h' r (pc + 3) L st sh h) : EV own cc nL ret ini d sh' h' r pc L (.inl x :: st) sh h := by
  intro p l e s m args below meth c D aC ad0 ad A n0 s0 cells slots mc ms H locs ls C N R
  obtain ⟨hx, hb, hml, hrt, hown, hts, hlk, hin, hA, hK, hSt⟩ := id C
  obtain ⟨ag, hP, hD, oH, hS, hl, oL, oS⟩ := id R
  obtain ⟨o1, oS⟩ := List.forall_mem_cons.mp oS
  refine lv_if_lt hx hb hd ht (fun q => ?_) (fun q => ?_)
  · rw [pv_z, pv_lt o1.1 o1.2 (by decide) (by decide)] at q
    exact kt q _ _ _ _ _ _ _ _ _ _ _ _ _ _ _ _ _ _ _ _ _ _ _ C N ⟨ag, hP, hD, oH, hS, hl, oL, oS⟩
  · rw [pv_z, pv_lt o1.1 o1.2 (by decide) (by decide)] at q
    exact kf q _ _ _ _ _ _ _ _ _ _ _ _ _ _ _ _ _ _ _ _ _ _ _ C N ⟨ag, hP, hD, oH, hS, hl, oL, oS⟩
theorem EV.if_ge {x : Int} {off : Int} {tgt : Nat} (hd : decode cc pc = .ok (.ifCond .ge off, 3)) (ht : (pc : Int) + off = (tgt : Int)) (kt : 0 ≤ x → EV own cc nL ret ini d sh' h' r tgt L st sh h) (kf : ¬ (0 ≤ x) → EV own cc nL ret ini d sh' h' r (pc + 3) L st sh h) : EV own cc nL ret ini d sh' h' r pc L (.inl x :: st) sh h := by
  intro p l e s m args below meth c D aC ad0 ad A n0 s0 cells slots mc ms H locs ls C N R
  obtain ⟨hx, hb, hml, hrt, hown, hts, hlk, hin, hA, hK, hSt⟩ := id C
  obtain ⟨ag, hP, hD, oH, hS, hl, oL, oS⟩ := id R
  obtain ⟨o1, oS⟩ := List.forall_mem_cons.mp oS
  refine lv_if_ge hx hb hd ht (fun q => ?_) (fun q => ?_)
  · rw [pv_z, pv_le (by decide) (by decide) o1.1 o1.2] at q
    exact kt q _ _ _ _ _ _ _ _ _ _ _ _ _ _ _ _ _ _ _ _ _ _ _ C N ⟨ag, hP, hD, oH, hS, hl, oL, oS⟩
  · rw [pv_z, pv_le (by decide) (by decide) o1.1 o1.2] at q
    exact kf q _ _ _ _ _ _ _ _ _ _ _ _ _ _ _ _ _ _ _ _ _ _ _ C N ⟨ag, hP, hD, oH, hS, hl, oL, oS⟩
theorem EV.if_gt {x : Int} {off : Int} {tgt : Nat} (hd : decode cc pc = .ok (.ifCond .gt off, 3)) (ht : (pc : Int) + off = (tgt : Int)) (kt : 0 < x → EV own cc nL ret ini d sh' h' r tgt L st sh h) (kf : ¬ (0 < x) → EV own cc nL ret ini d sh' h' r (pc + 3) L st sh h) : EV own cc nL ret ini d sh' h' r pc L (.inl x :: st) sh h := by
  intro p l e s m args below meth c D aC ad0 ad A n0 s0 cells slots mc ms H locs ls C N R
  obtain ⟨hx, hb, hml, hrt, hown, hts, hlk, hin, hA, hK, hSt⟩ := id C
  obtain ⟨ag, hP, hD, oH, hS, hl, oL, oS⟩ := id R
  obtain ⟨o1, oS⟩ := List.forall_mem_cons.mp oS
  refine lv_if_gt hx hb hd ht (fun q => ?_) (fun q => ?_)
  · rw [pv_z, pv_lt (by decide) (by decide) o1.1 o1.2] at q
    exact kt q _ _ _ _ _ _ _ _ _ _ _ _ _ _ _ _ _ _ _ _ _ _ _ C N ⟨ag, hP, hD, oH, hS, hl, oL, oS⟩
  · rw [pv_z, pv_lt (by decide) (by decide) o1.1 o1.2] at q
    exact kf q _ _ _ _ _ _ _ _ _ _ _ _ _ _ _ _ _ _ _ _ _ _ _ C N ⟨ag, hP, hD, oH, hS, hl, oL, oS⟩
theorem EV.if_le {x : Int} {off : Int} {tgt : Nat} (hd : decode cc pc = .ok (.ifCond .le off, 3)) (ht : (pc : Int) + off = (tgt : Int)) (kt : x ≤ 0 → EV own cc nL ret ini d sh' h' r tgt L st sh h) (kf : ¬ (x ≤ 0) → EV own cc nL ret ini d sh' h' r (pc + 3) L st sh h) : EV own cc nL ret ini d sh' h' r pc L (.inl x :: st) sh h := by
  intro p l e s m args below meth c D aC ad0 ad A n0 s0 cells slots mc ms H locs ls C N R
  obtain ⟨hx, hb, hml, hrt, hown, hts, hlk, hin, hA, hK, hSt⟩ := id C
  obtain ⟨ag, hP, hD, oH, hS, hl, oL, oS⟩ := id R
  obtain ⟨o1, oS⟩ := List.forall_mem_cons.mp oS
  refine lv_if_le hx hb hd ht (fun q => ?_) (fun q => ?_)
  · rw [pv_z, pv_le o1.1 o1.2 (by decide) (by decide)] at q
    exact kt q _ _ _ _ _ _ _ _ _ _ _ _ _ _ _ _ _ _ _ _ _ _ _ C N ⟨ag, hP, hD, oH, hS, hl, oL, oS⟩
  · rw [pv_z, pv_le o1.1 o1.2 (by decide) (by decide)] at q
    exact kf q _ _ _ _ _ _ _ _ _ _ _ _ _ _ _ _ _ _ _ _ _ _ _ C N ⟨ag, hP, hD, oH, hS, hl, oL, oS⟩
theorem EV.icmp_eq {x y : Int} {off : Int} {tgt : Nat} (hd : decode cc pc = .ok (.if_icmp .eq off, 3)) (ht : (pc : Int) + off = (tgt : Int)) (kt : x = y → EV own cc nL ret ini d sh' h' r tgt L st sh h) (kf : ¬ (x = y) → EV own cc nL ret ini d sh' h' r (pc + 3) L st sh h) : EV own cc nL ret ini d sh' h' r pc L (.inl y :: .inl x :: st) sh h := by
  intro p l e s m args below meth c D aC ad0 ad A n0 s0 cells slots mc ms H locs ls C N R
  obtain ⟨hx, hb, hml, hrt, hown, hts, hlk, hin, hA, hK, hSt⟩ := id C
  obtain ⟨ag, hP, hD, oH, hS, hl, oL, oS⟩ := id R
  obtain ⟨o1, oS⟩ := List.forall_mem_cons.mp oS
  obtain ⟨o2, oS⟩ := List.forall_mem_cons.mp oS
  refine lv_icmp_eq hx hb hd ht (fun q => ?_) (fun q => ?_)
  · rw [pv_eq o2.1 o2.2 o1.1 o1.2] at q
    exact kt q _ _ _ _ _ _ _ _ _ _ _ _ _ _ _ _ _ _ _ _ _ _ _ C N ⟨ag, hP, hD, oH, hS, hl, oL, oS⟩
  · rw [pv_eq o2.1 o2.2 o1.1 o1.2] at q
    exact kf q _ _ _ _ _ _ _ _ _ _ _ _ _ _ _ _ _ _ _ _ _ _ _ C N ⟨ag, hP, hD, oH, hS, hl, oL, oS⟩
theorem EV.icmp_ne {x y : Int} {off : Int} {tgt : Nat} (hd : decode cc pc = .ok (.if_icmp .ne off, 3)) (ht : (pc : Int) + off = (tgt : Int)) (kt : ¬ x = y → EV own cc nL ret ini d sh' h' r tgt L st sh h) (kf : x = y → EV own cc nL ret ini d sh' h' r (pc + 3) L st sh h) : EV own cc nL ret ini d sh' h' r pc L (.inl y :: .inl x :: st) sh h := by
  intro p l e s m args below meth c D aC ad0 ad A n0 s0 cells slots mc ms H locs ls C N R
  obtain ⟨hx, hb, hml, hrt, hown, hts, hlk, hin, hA, hK, hSt⟩ := id C
  obtain ⟨ag, hP, hD, oH, hS, hl, oL, oS⟩ := id R
  obtain ⟨o1, oS⟩ := List.forall_mem_cons.mp oS
  obtain ⟨o2, oS⟩ := List.forall_mem_cons.mp oS
  refine lv_icmp_ne hx hb hd ht (fun q => ?_) (fun q => ?_)
  · rw [pv_eq o2.1 o2.2 o1.1 o1.2] at q
    exact kt q _ _ _ _ _ _ _ _ _ _ _ _ _ _ _ _ _ _ _ _ _ _ _ C N ⟨ag, hP, hD, oH, hS, hl, oL, oS⟩
  · rw [pv_eq o2.1 o2.2 o1.1 o1.2] at q
    exact kf q _ _ _ _ _ _ _ _ _ _ _ _ _ _ _ _ _ _ _ _ _ _ _ C N ⟨ag, hP, hD, oH, hS, hl, oL, oS⟩
theorem EV.icmp_lt {x y : Int} {off : Int} {tgt : Nat} (hd : decode cc pc = .ok (.if_icmp .lt off, 3)) (ht : (pc : Int) + off = (tgt : Int)) (kt : x < y → EV own cc nL ret ini d sh' h' r tgt L st sh h) (kf : ¬ (x < y) → EV own cc nL ret ini d sh' h' r (pc + 3) L st sh h) : EV own cc nL ret ini d sh' h' r pc L (.inl y :: .inl x :: st) sh h := by
  intro p l e s m args below meth c D aC ad0 ad A n0 s0 cells slots mc ms H locs ls C N R
  obtain ⟨hx, hb, hml, hrt, hown, hts, hlk, hin, hA, hK, hSt⟩ := id C
  obtain ⟨ag, hP, hD, oH, hS, hl, oL, oS⟩ := id R
  obtain ⟨o1, oS⟩ := List.forall_mem_cons.mp oS
  obtain ⟨o2, oS⟩ := List.forall_mem_cons.mp oS
  refine lv_icmp_lt hx hb hd ht (fun q => ?_) (fun q => ?_)
  · rw [pv_lt o2.1 o2.2 o1.1 o1.2] at q
    exact kt q _ _ _ _ _ _ _ _ _ _ _ _ _ _ _ _ _ _ _ _ _ _ _ C N ⟨ag, hP, hD, oH, hS, hl, oL, oS⟩
  · rw [pv_lt o2.1 o2.2 o1.1 o1.2] at q
    exact kf q _ _ _ _ _ _ _ _ _ _ _ _ _ _ _ _ _ _ _ _ _ _ _ C N ⟨ag, hP, hD, oH, hS, hl, oL, oS⟩
theorem EV.icmp_ge {x y : Int} {off : Int} {tgt : Nat} (hd : decode cc pc = .ok (.if_icmp .ge off, 3)) (ht : (pc : Int) + off = (tgt : Int)) (kt : y ≤ x → EV own cc nL ret ini d sh' h' r tgt L st sh h) (kf : ¬ (y ≤ x) → EV own cc nL ret ini d sh' h' r (pc + 3) L st sh h) : EV own cc nL ret ini d sh' h' r pc L (.inl y :: .inl x :: st) sh h := by
  intro p l e s m args below meth c D aC ad0 ad A n0 s0 cells slots mc ms H locs ls C N R
  obtain ⟨hx, hb, hml, hrt, hown, hts, hlk, hin, hA, hK, hSt⟩ := id C
  obtain ⟨ag, hP, hD, oH, hS, hl, oL, oS⟩ := id R
  obtain ⟨o1, oS⟩ := List.forall_mem_cons.mp oS
  obtain ⟨o2, oS⟩ := List.forall_mem_cons.mp oS
  refine lv_icmp_ge hx hb hd ht (fun q => ?_) (fun q => ?_)
  · rw [pv_le o1.1 o1.2 o2.1 o2.2] at q
    exact kt q _ _ _ _ _ _ _ _ _ _ _ _ _ _ _ _ _ _ _ _ _ _ _ C N ⟨ag, hP, hD, oH, hS, hl, oL, oS⟩
  · rw [pv_le o1.1 o1.2 o2.1 o2.2] at q
    exact kf q _ _ _ _ _ _ _ _ _ _ _ _ _ _ _ _ _ _ _ _ _ _ _ C N ⟨ag, hP, hD, oH, hS, hl, oL, oS⟩
theorem EV.icmp_gt {x y : Int} {off : Int} {tgt : Nat} (hd : decode cc pc = .ok (.if_icmp .gt off, 3)) (ht : (pc : Int) + off = (tgt : Int)) (kt : y < x → EV own cc nL ret ini d sh' h' r tgt L st sh h) (kf : ¬ (y < x) → EV own cc nL ret ini d sh' h' r (pc + 3) L st sh h) : EV own cc nL ret ini d sh' h' r pc L (.inl y :: .inl x :: st) sh h := by
  intro p l e s m args below meth c D aC ad0 ad A n0 s0 cells slots mc ms H locs ls C N R
  obtain ⟨hx, hb, hml, hrt, hown, hts, hlk, hin, hA, hK, hSt⟩ := id C
  obtain ⟨ag, hP, hD, oH, hS, hl, oL, oS⟩ := id R
  obtain ⟨o1, oS⟩ := List.forall_mem_cons.mp oS
  obtain ⟨o2, oS⟩ := List.forall_mem_cons.mp oS
  refine lv_icmp_gt hx hb hd ht (fun q => ?_) (fun q => ?_)
  · rw [pv_lt o1.1 o1.2 o2.1 o2.2] at q
    exact kt q _ _ _ _ _ _ _ _ _ _ _ _ _ _ _ _ _ _ _ _ _ _ _ C N ⟨ag, hP, hD, oH, hS, hl, oL, oS⟩
  · rw [pv_lt o1.1 o1.2 o2.1 o2.2] at q
    exact kf q _ _ _ _ _ _ _ _ _ _ _ _ _ _ _ _ _ _ _ _ _ _ _ C N ⟨ag, hP, hD, oH, hS, hl, oL, oS⟩
theorem EV.icmp_le {x y : Int} {off : Int} {tgt : Nat} (hd : decode cc pc = .ok (.if_icmp .le off, 3)) (ht : (pc : Int) + off = (tgt : Int)) (kt : x ≤ y → EV own cc nL ret ini d sh' h' r tgt L st sh h) (kf : ¬ (x ≤ y) → EV own cc nL ret ini d sh' h' r (pc + 3) L st sh h) : EV own cc nL ret ini d sh' h' r pc L (.inl y :: .inl x :: st) sh h := by
  intro p l e s m args below meth c D aC ad0 ad A n0 s0 cells slots mc ms H locs ls C N R
  obtain ⟨hx, hb, hml, hrt, hown, hts, hlk, hin, hA, hK, hSt⟩ := id C
  obtain ⟨ag, hP, hD, oH, hS, hl, oL, oS⟩ := id R
  obtain ⟨o1, oS⟩ := List.forall_mem_cons.mp oS
  obtain ⟨o2, oS⟩ := List.forall_mem_cons.mp oS
  refine lv_icmp_le hx hb hd ht (fun q => ?_) (fun q => ?_)
  · rw [pv_le o2.1 o2.2 o1.1 o1.2] at q
    exact kt q _ _ _ _ _ _ _ _ _ _ _ _ _ _ _ _ _ _ _ _ _ _ _ C N ⟨ag, hP, hD, oH, hS, hl, oL, oS⟩
  · rw [pv_le o2.1 o2.2 o1.1 o1.2] at q
    exact kf q _ _ _ _ _ _ _ _ _ _ _ _ _ _ _ _ _ _ _ _ _ _ _ C N ⟨ag, hP, hD, oH, hS, hl, oL, oS⟩
theorem EV.tabIn {dflt lo hi : Int} {offs : Array Int} {len : Nat} {x off : Int} {tgt : Nat} (hd : decode cc pc = .ok (.tableswitch dflt lo hi offs, len)) (h1 : lo ≤ x) (h2 : x ≤ hi) (ho : offs[(x - lo).toNat]? = some off) (ht : (pc : Int) + off = (tgt : Int)) (k : EV own cc nL ret ini d sh' h' r tgt L (st) sh h) : EV own cc nL ret ini d sh' h' r pc L (.inl x :: st) sh h := by
  intro p l e s m args below meth c D aC ad0 ad A n0 s0 cells slots mc ms H locs ls C N R
  obtain ⟨hx, hb, hml, hrt, hown, hts, hlk, hin, hA, hK, hSt⟩ := id C
  obtain ⟨ag, hP, hD, oH, hS, hl, oL, oS⟩ := id R
  obtain ⟨o1, oS⟩ := List.forall_mem_cons.mp oS
  have ex : (Int32.ofInt x).toInt = x := pv_toInt o1.1 o1.2
  refine lv_tableIn hx hb hd (by rw [ex]; omega) (by rw [ex]; omega) (by rw [ex]; exact ho) ht ?_
  exact k _ _ _ _ _ _ _ _ _ _ _ _ _ _ _ _ _ _ _ _ _ _ _ C N ⟨ag, hP, hD, oH, hS, hl, oL, oS⟩
theorem EV.tabOut {dflt lo hi : Int} {offs : Array Int} {len : Nat} {x : Int} {tgt : Nat} (hd : decode cc pc = .ok (.tableswitch dflt lo hi offs, len)) (h1 : x < lo ∨ hi < x) (ht : (pc : Int) + dflt = (tgt : Int)) (k : EV own cc nL ret ini d sh' h' r tgt L (st) sh h) : EV own cc nL ret ini d sh' h' r pc L (.inl x :: st) sh h := by
  intro p l e s m args below meth c D aC ad0 ad A n0 s0 cells slots mc ms H locs ls C N R
  obtain ⟨hx, hb, hml, hrt, hown, hts, hlk, hin, hA, hK, hSt⟩ := id C
  obtain ⟨ag, hP, hD, oH, hS, hl, oL, oS⟩ := id R
  obtain ⟨o1, oS⟩ := List.forall_mem_cons.mp oS
  have ex : (Int32.ofInt x).toInt = x := pv_toInt o1.1 o1.2
  refine lv_tableOut hx hb hd (by rw [ex]; exact h1) ht ?_
  exact k _ _ _ _ _ _ _ _ _ _ _ _ _ _ _ _ _ _ _ _ _ _ _ C N ⟨ag, hP, hD, oH, hS, hl, oL, oS⟩
end RULES
