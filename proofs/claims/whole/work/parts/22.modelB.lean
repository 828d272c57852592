noncomputable def fX10_go_372 (N : Nat)  (a1 : Int) (a2 : Int) (a3 : Int) : Nat → Int → pv_H → Option (pv_H × Int)
  | 0, _, _ => none
  | n + 1, v5, h => if (h 0 39) ≤ v5 then (some (h, h 0 42)) else (if 0 ≤ v5 ∧ v5 < 200 then (if 0 ≤ pv_w (1435 + v5) ∧ pv_w (1435 + v5) < 9159 then (pv_b (pv_up h 2 (Int.toNat (pv_w (1435 + v5))) (h 25 (Int.toNat (v5)))) fun h52 => if 0 ≤ v5 ∧ v5 < 200 then (if 0 ≤ pv_w (1635 + v5) ∧ pv_w (1635 + v5) < 9159 then (pv_b (pv_up h52 2 (Int.toNat (pv_w (1635 + v5))) (h52 26 (Int.toNat (v5)))) fun h55 => if 0 ≤ v5 ∧ v5 < 200 then (if 0 ≤ pv_w (1835 + v5) ∧ pv_w (1835 + v5) < 9159 then (pv_b (pv_up h55 2 (Int.toNat (pv_w (1835 + v5))) (h55 27 (Int.toNat (v5)))) fun h58 => if 0 ≤ v5 ∧ v5 < 200 then (if 0 ≤ pv_w (2035 + v5) ∧ pv_w (2035 + v5) < 9159 then (pv_b (pv_up h58 2 (Int.toNat (pv_w (2035 + v5))) (h58 28 (Int.toNat (v5)))) fun h61 => if 0 ≤ v5 ∧ v5 < 200 then (if 0 ≤ pv_w (2235 + v5) ∧ pv_w (2235 + v5) < 9159 then (pv_b (pv_up h61 2 (Int.toNat (pv_w (2235 + v5))) (h61 29 (Int.toNat (v5)))) fun h64 => if 0 ≤ v5 ∧ v5 < 200 then (if 0 ≤ pv_w (2435 + v5) ∧ pv_w (2435 + v5) < 9159 then (pv_b (pv_up h64 2 (Int.toNat (pv_w (2435 + v5))) (h64 30 (Int.toNat (v5)))) fun h67 => pv_b (pv_w (v5 + 1)) fun x68 => fX10_go_372 N  a1 a2 a3 n (x68) h67) else none) else none) else none) else none) else none) else none) else none) else none) else none) else none) else none) else none)

noncomputable def fX10_go_336 (N : Nat)  (a1 : Int) (a2 : Int) (a3 : Int) : Nat → Int → pv_H → Option (pv_H × Int)
  | 0, _, _ => none
  | n + 1, v5, h => if (h 0 42) ≤ v5 then (fX10_go_372 N  a1 a2 a3 N (0) h) else (if 0 ≤ v5 ∧ v5 < 61 then (if 0 ≤ pv_w (1374 + v5) ∧ pv_w (1374 + v5) < 9159 then (pv_b (pv_up h 2 (Int.toNat (pv_w (1374 + v5))) (h 24 (Int.toNat (v5)))) fun h47 => pv_b (pv_w (v5 + 1)) fun x48 => fX10_go_336 N  a1 a2 a3 n (x48) h47) else none) else none)

noncomputable def fX10_go_246 (N : Nat)  (a1 : Int) (a2 : Int) (a3 : Int) : Nat → Int → pv_H → Option (pv_H × Int)
  | 0, _, _ => none
  | n + 1, v5, h => if (h 0 38) ≤ v5 then (fX10_go_336 N  a1 a2 a3 N (0) h) else (if 0 ≤ v5 ∧ v5 < 60 then (if 0 ≤ pv_w (1134 + v5) ∧ pv_w (1134 + v5) < 9159 then (pv_b (pv_up h 2 (Int.toNat (pv_w (1134 + v5))) (h 20 (Int.toNat (v5)))) fun h30 => if 0 ≤ v5 ∧ v5 < 60 then (if 0 ≤ pv_w (1194 + v5) ∧ pv_w (1194 + v5) < 9159 then (pv_b (pv_up h30 2 (Int.toNat (pv_w (1194 + v5))) (h30 21 (Int.toNat (v5)))) fun h33 => if 0 ≤ v5 ∧ v5 < 60 then (if 0 ≤ pv_w (1254 + v5) ∧ pv_w (1254 + v5) < 9159 then (pv_b (pv_up h33 2 (Int.toNat (pv_w (1254 + v5))) (h33 22 (Int.toNat (v5)))) fun h36 => if 0 ≤ v5 ∧ v5 < 60 then (if 0 ≤ pv_w (1314 + v5) ∧ pv_w (1314 + v5) < 9159 then (pv_b (pv_up h36 2 (Int.toNat (pv_w (1314 + v5))) (h36 23 (Int.toNat (v5)))) fun h39 => pv_b (pv_w (v5 + 1)) fun x40 => fX10_go_246 N  a1 a2 a3 n (x40) h39) else none) else none) else none) else none) else none) else none) else none) else none)

noncomputable def fX10_go_235 (N : Nat) (k202 : Int → pv_H → Option (pv_H × Int)) (a1 : Int) (a2 : Int) (a3 : Int) (v5 : Int) (s0 : Int) (s1 : Int) (s2 : Int) (h : pv_H) : Option (pv_H × Int) :=
  if 0 ≤ s2 ∧ s2 < 9159 then (pv_b (pv_up h 2 (Int.toNat (s2)) (pv_w (s1 + s0))) fun h42 => pv_b (pv_w (v5 + 1)) fun x43 => k202 (x43) h42) else none

noncomputable def fX10_go_202 (N : Nat)  (a1 : Int) (a2 : Int) (a3 : Int) : Nat → Int → pv_H → Option (pv_H × Int)
  | 0, _, _ => none
  | n + 1, v5, h => if (h 0 19) ≤ v5 then (fX10_go_246 N  a1 a2 a3 N (0) h) else (if 0 ≤ v5 ∧ v5 < 60 then (if (h 18 (Int.toNat (v5))) = 0 then (fX10_go_235 N (fun v5_ hh => fX10_go_202 N  a1 a2 a3 n v5_ hh) a1 a2 a3 (v5) (0) (h 2 1133) (1133) h) else (fX10_go_235 N (fun v5_ hh => fX10_go_202 N  a1 a2 a3 n v5_ hh) a1 a2 a3 (v5) (1) (h 2 1133) (1133) h)) else none)

noncomputable def fX10_go_188 (N : Nat)  (a1 : Int) (a2 : Int) (a3 : Int) (s0 : Int) (s1 : Int) (s2 : Int) (h : pv_H) : Option (pv_H × Int) :=
  if 0 ≤ s2 ∧ s2 < 9159 then (pv_b (pv_up h 2 (Int.toNat (s2)) (pv_w (s1 * s0))) fun h22 => pv_b (pv_up h22 2 1133 0) fun h23 => fX10_go_202 N  a1 a2 a3 N (0) h23) else none

noncomputable def fX10_go_149 (N : Nat)  (a1 : Int) (a2 : Int) (a3 : Int) (s0 : Int) (h : pv_H) : Option (pv_H × Int) :=
  if 0 ≤ s0 then (fX10_go_188 N  a1 a2 a3 (s0) (pv_w ((h 2 1118) - (h 2 1119))) (2635) h) else (fX10_go_188 N  a1 a2 a3 (pv_w (-s0)) (pv_w ((h 2 1118) - (h 2 1119))) (2635) h)

noncomputable def fX10_go (N : Nat) (a1 : Int) (a2 : Int) (a3 : Int) (h : pv_H) : Option (pv_H × Int) :=
  pv_b (pv_up h 0 0 0) fun h1 => pv_c1 (fX10_isBoth N a1 a2 h1) fun r3 => if r3 = 0 then (pv_c2b (fX10_no N (-2) h1) fun h18 r19 => some (h18, r19)) else (pv_c2b (fX10_piecesOf N a1 a2 a3 1 (-1) h1) fun h6 r7 => pv_b (pv_up h6 2 1125 1) fun h8 => pv_b (pv_up h8 2 1126 (h8 0 38)) fun h9 => pv_b (pv_up h9 2 1127 (h9 0 42)) fun h10 => pv_b (pv_up h10 2 1128 (h10 0 39)) fun h11 => pv_b (pv_up h11 2 1129 (h11 0 40)) fun h12 => pv_b (pv_up h12 2 1130 (h12 0 41)) fun h13 => pv_b (pv_up h13 2 1131 (h13 0 36)) fun h14 => pv_b (pv_up h14 2 1132 (h14 0 37)) fun h15 => if 2 ≤ (h15 0 38) then (fX10_go_149 N  a1 a2 a3 (pv_w ((h15 20 0) - (h15 20 1))) h15) else (fX10_go_149 N  a1 a2 a3 (0) h15))

set_option maxHeartbeats 4000000 in
set_option maxRecDepth 20000 in
theorem tX10_go_372 {d N : Nat}  {a1 : Int} {a2 : Int} {a3 : Int} {h' : pv_H} {r : Int} (hd : 6 ≤ d)   : ∀ (n : Nat) (v5 : Int)  (h : pv_H), fX10_go_372 N  a1 a2 a3 n v5 h = some (h', r) → EV RX10 cX10_go 6 (some .int) false d pv_SM (MM h') (some (.inl r)) 372 [some (.inr (.inr (0))), none, none, none, none, some (.inl (v5))] [] pv_SM (MM h) := by
  intro n
  induction n with
  | zero =>
    intro v5  h hf
    cases hf
  | succ n ih =>
    intro v5  h hf
    rw [fX10_go_372] at hf
    refine EV.iload dX10_go_372 rfl ?_
    refine EV.aload_n dX10_go_374 rfl rfl ?_
    refine FV.getI dX10_go_375 sm_0 fl_10_325 rfl ?_
    refine EV.icmp_ge (tgt := 495) dX10_go_378 (by decide) (fun q49 => ?_) (fun q49 => ?_)
    · have hf := pv_gp hf q49
      refine EV.aload_n dX10_go_495 rfl rfl ?_
      refine FV.getI dX10_go_496 sm_0 fl_10_390 rfl ?_
      exact FV.iret dX10_go_499 hf
    · have hf := pv_gn hf q49
      refine EV.aload_n dX10_go_381 rfl rfl ?_
      refine FV.getF (v := 2) dX10_go_382 sm_0 fl_10_17 rfl rfl hvm_0_2 ?_
      refine EV.sipush dX10_go_385 (by decide) (by decide) ?_
      refine EV.iload dX10_go_388 rfl ?_
      refine EV.iadd dX10_go_390 ?_
      refine EV.aload_n dX10_go_391 rfl rfl ?_
      refine FV.getF (v := 25) dX10_go_392 sm_0 fl_10_90 rfl rfl hvm_0_52 ?_
      refine EV.iload dX10_go_395 rfl ?_
      obtain ⟨g50, hf⟩ := pv_gd hf
      refine FV.iald dX10_go_397 sm_25 g50.1 g50.2 (j := (Int.toNat (v5))) rfl ?_
      obtain ⟨g51, hf⟩ := pv_gd hf
      obtain ⟨h52, eh52, hf⟩ := pv_bo hf
      refine FV.iast dX10_go_398 sm_2 g51.1 g51.2 (j := (Int.toNat (pv_w (1435 + v5)))) rfl eh52 ?_
      refine EV.aload_n dX10_go_399 rfl rfl ?_
      refine FV.getF (v := 2) dX10_go_400 sm_0 fl_10_17 rfl rfl hvm_0_2 ?_
      refine EV.sipush dX10_go_403 (by decide) (by decide) ?_
      refine EV.iload dX10_go_406 rfl ?_
      refine EV.iadd dX10_go_408 ?_
      refine EV.aload_n dX10_go_409 rfl rfl ?_
      refine FV.getF (v := 26) dX10_go_410 sm_0 fl_10_93 rfl rfl hvm_0_53 ?_
      refine EV.iload dX10_go_413 rfl ?_
      obtain ⟨g53, hf⟩ := pv_gd hf
      refine FV.iald dX10_go_415 sm_26 g53.1 g53.2 (j := (Int.toNat (v5))) rfl ?_
      obtain ⟨g54, hf⟩ := pv_gd hf
      obtain ⟨h55, eh55, hf⟩ := pv_bo hf
      refine FV.iast dX10_go_416 sm_2 g54.1 g54.2 (j := (Int.toNat (pv_w (1635 + v5)))) rfl eh55 ?_
      refine EV.aload_n dX10_go_417 rfl rfl ?_
      refine FV.getF (v := 2) dX10_go_418 sm_0 fl_10_17 rfl rfl hvm_0_2 ?_
      refine EV.sipush dX10_go_421 (by decide) (by decide) ?_
      refine EV.iload dX10_go_424 rfl ?_
      refine EV.iadd dX10_go_426 ?_
      refine EV.aload_n dX10_go_427 rfl rfl ?_
      refine FV.getF (v := 27) dX10_go_428 sm_0 fl_10_96 rfl rfl hvm_0_54 ?_
      refine EV.iload dX10_go_431 rfl ?_
      obtain ⟨g56, hf⟩ := pv_gd hf
      refine FV.iald dX10_go_433 sm_27 g56.1 g56.2 (j := (Int.toNat (v5))) rfl ?_
      obtain ⟨g57, hf⟩ := pv_gd hf
      obtain ⟨h58, eh58, hf⟩ := pv_bo hf
      refine FV.iast dX10_go_434 sm_2 g57.1 g57.2 (j := (Int.toNat (pv_w (1835 + v5)))) rfl eh58 ?_
      refine EV.aload_n dX10_go_435 rfl rfl ?_
      refine FV.getF (v := 2) dX10_go_436 sm_0 fl_10_17 rfl rfl hvm_0_2 ?_
      refine EV.sipush dX10_go_439 (by decide) (by decide) ?_
      refine EV.iload dX10_go_442 rfl ?_
      refine EV.iadd dX10_go_444 ?_
      refine EV.aload_n dX10_go_445 rfl rfl ?_
      refine FV.getF (v := 28) dX10_go_446 sm_0 fl_10_99 rfl rfl hvm_0_55 ?_
      refine EV.iload dX10_go_449 rfl ?_
      obtain ⟨g59, hf⟩ := pv_gd hf
      refine FV.iald dX10_go_451 sm_28 g59.1 g59.2 (j := (Int.toNat (v5))) rfl ?_
      obtain ⟨g60, hf⟩ := pv_gd hf
      obtain ⟨h61, eh61, hf⟩ := pv_bo hf
      refine FV.iast dX10_go_452 sm_2 g60.1 g60.2 (j := (Int.toNat (pv_w (2035 + v5)))) rfl eh61 ?_
      refine EV.aload_n dX10_go_453 rfl rfl ?_
      refine FV.getF (v := 2) dX10_go_454 sm_0 fl_10_17 rfl rfl hvm_0_2 ?_
      refine EV.sipush dX10_go_457 (by decide) (by decide) ?_
      refine EV.iload dX10_go_460 rfl ?_
      refine EV.iadd dX10_go_462 ?_
      refine EV.aload_n dX10_go_463 rfl rfl ?_
      refine FV.getF (v := 29) dX10_go_464 sm_0 fl_10_102 rfl rfl hvm_0_56 ?_
      refine EV.iload dX10_go_467 rfl ?_
      obtain ⟨g62, hf⟩ := pv_gd hf
      refine FV.iald dX10_go_469 sm_29 g62.1 g62.2 (j := (Int.toNat (v5))) rfl ?_
      obtain ⟨g63, hf⟩ := pv_gd hf
      obtain ⟨h64, eh64, hf⟩ := pv_bo hf
      refine FV.iast dX10_go_470 sm_2 g63.1 g63.2 (j := (Int.toNat (pv_w (2235 + v5)))) rfl eh64 ?_
      refine EV.aload_n dX10_go_471 rfl rfl ?_
      refine FV.getF (v := 2) dX10_go_472 sm_0 fl_10_17 rfl rfl hvm_0_2 ?_
      refine EV.sipush dX10_go_475 (by decide) (by decide) ?_
      refine EV.iload dX10_go_478 rfl ?_
      refine EV.iadd dX10_go_480 ?_
      refine EV.aload_n dX10_go_481 rfl rfl ?_
      refine FV.getF (v := 30) dX10_go_482 sm_0 fl_10_105 rfl rfl hvm_0_57 ?_
      refine EV.iload dX10_go_485 rfl ?_
      obtain ⟨g65, hf⟩ := pv_gd hf
      refine FV.iald dX10_go_487 sm_30 g65.1 g65.2 (j := (Int.toNat (v5))) rfl ?_
      obtain ⟨g66, hf⟩ := pv_gd hf
      obtain ⟨h67, eh67, hf⟩ := pv_bo hf
      refine FV.iast dX10_go_488 sm_2 g66.1 g66.2 (j := (Int.toNat (pv_w (2435 + v5)))) rfl eh67 ?_
      obtain ⟨x68, ex68, hf⟩ := pv_bo hf
      refine FV.inc (L2 := [some (.inr (.inr (0))), none, none, none, none, some (.inl (x68))]) dX10_go_489 rfl (Nat.le_of_ble_eq_true rfl) ex68 rfl ?_
      refine EV.goto (tgt := 372) dX10_go_492 (by decide) ?_
      refine EV.weak (L2 := [some (.inr (.inr (0))), none, none, none, none, some (.inl (x68))]) (And.intro rfl (And.intro rfl trivial)) ?_
      exact ih _  _ hf

set_option maxHeartbeats 4000000 in
set_option maxRecDepth 20000 in
theorem tX10_go_336 {d N : Nat}  {a1 : Int} {a2 : Int} {a3 : Int} {h' : pv_H} {r : Int} (hd : 6 ≤ d)   : ∀ (n : Nat) (v5 : Int)  (h : pv_H), fX10_go_336 N  a1 a2 a3 n v5 h = some (h', r) → EV RX10 cX10_go 6 (some .int) false d pv_SM (MM h') (some (.inl r)) 336 [some (.inr (.inr (0))), none, none, none, none, some (.inl (v5))] [] pv_SM (MM h) := by
  intro n
  induction n with
  | zero =>
    intro v5  h hf
    cases hf
  | succ n ih =>
    intro v5  h hf
    rw [fX10_go_336] at hf
    refine EV.iload dX10_go_336 rfl ?_
    refine EV.aload_n dX10_go_338 rfl rfl ?_
    refine FV.getI dX10_go_339 sm_0 fl_10_390 rfl ?_
    refine EV.icmp_ge (tgt := 369) dX10_go_342 (by decide) (fun q44 => ?_) (fun q44 => ?_)
    · have hf := pv_gp hf q44
      refine EV.iconst dX10_go_369 (by decide) (by decide) ?_
      refine FV.stiw (L2 := [some (.inr (.inr (0))), none, none, none, none, some (.inl (0))]) dX10_go_370 (Nat.le_of_ble_eq_true rfl) rfl rfl ?_
      refine EV.weak (L2 := [some (.inr (.inr (0))), none, none, none, none, some (.inl (0))]) (And.intro rfl (And.intro rfl trivial)) ?_
      exact tX10_go_372 hd   _ _  _ hf
    · have hf := pv_gn hf q44
      refine EV.aload_n dX10_go_345 rfl rfl ?_
      refine FV.getF (v := 2) dX10_go_346 sm_0 fl_10_17 rfl rfl hvm_0_2 ?_
      refine EV.sipush dX10_go_349 (by decide) (by decide) ?_
      refine EV.iload dX10_go_352 rfl ?_
      refine EV.iadd dX10_go_354 ?_
      refine EV.aload_n dX10_go_355 rfl rfl ?_
      refine FV.getF (v := 24) dX10_go_356 sm_0 fl_10_87 rfl rfl hvm_0_51 ?_
      refine EV.iload dX10_go_359 rfl ?_
      obtain ⟨g45, hf⟩ := pv_gd hf
      refine FV.iald dX10_go_361 sm_24 g45.1 g45.2 (j := (Int.toNat (v5))) rfl ?_
      obtain ⟨g46, hf⟩ := pv_gd hf
      obtain ⟨h47, eh47, hf⟩ := pv_bo hf
      refine FV.iast dX10_go_362 sm_2 g46.1 g46.2 (j := (Int.toNat (pv_w (1374 + v5)))) rfl eh47 ?_
      obtain ⟨x48, ex48, hf⟩ := pv_bo hf
      refine FV.inc (L2 := [some (.inr (.inr (0))), none, none, none, none, some (.inl (x48))]) dX10_go_363 rfl (Nat.le_of_ble_eq_true rfl) ex48 rfl ?_
      refine EV.goto (tgt := 336) dX10_go_366 (by decide) ?_
      refine EV.weak (L2 := [some (.inr (.inr (0))), none, none, none, none, some (.inl (x48))]) (And.intro rfl (And.intro rfl trivial)) ?_
      exact ih _  _ hf

set_option maxHeartbeats 4000000 in
set_option maxRecDepth 20000 in
theorem tX10_go_246 {d N : Nat}  {a1 : Int} {a2 : Int} {a3 : Int} {h' : pv_H} {r : Int} (hd : 6 ≤ d)   : ∀ (n : Nat) (v5 : Int)  (h : pv_H), fX10_go_246 N  a1 a2 a3 n v5 h = some (h', r) → EV RX10 cX10_go 6 (some .int) false d pv_SM (MM h') (some (.inl r)) 246 [some (.inr (.inr (0))), none, none, none, none, some (.inl (v5))] [] pv_SM (MM h) := by
  intro n
  induction n with
  | zero =>
    intro v5  h hf
    cases hf
  | succ n ih =>
    intro v5  h hf
    rw [fX10_go_246] at hf
    refine EV.iload dX10_go_246 rfl ?_
    refine EV.aload_n dX10_go_248 rfl rfl ?_
    refine FV.getI dX10_go_249 sm_0 fl_10_328 rfl ?_
    refine EV.icmp_ge (tgt := 333) dX10_go_252 (by decide) (fun q27 => ?_) (fun q27 => ?_)
    · have hf := pv_gp hf q27
      refine EV.iconst dX10_go_333 (by decide) (by decide) ?_
      refine FV.stiw (L2 := [some (.inr (.inr (0))), none, none, none, none, some (.inl (0))]) dX10_go_334 (Nat.le_of_ble_eq_true rfl) rfl rfl ?_
      refine EV.weak (L2 := [some (.inr (.inr (0))), none, none, none, none, some (.inl (0))]) (And.intro rfl (And.intro rfl trivial)) ?_
      exact tX10_go_336 hd   _ _  _ hf
    · have hf := pv_gn hf q27
      refine EV.aload_n dX10_go_255 rfl rfl ?_
      refine FV.getF (v := 2) dX10_go_256 sm_0 fl_10_17 rfl rfl hvm_0_2 ?_
      refine EV.sipush dX10_go_259 (by decide) (by decide) ?_
      refine EV.iload dX10_go_262 rfl ?_
      refine EV.iadd dX10_go_264 ?_
      refine EV.aload_n dX10_go_265 rfl rfl ?_
      refine FV.getF (v := 20) dX10_go_266 sm_0 fl_10_75 rfl rfl hvm_0_47 ?_
      refine EV.iload dX10_go_269 rfl ?_
      obtain ⟨g28, hf⟩ := pv_gd hf
      refine FV.iald dX10_go_271 sm_20 g28.1 g28.2 (j := (Int.toNat (v5))) rfl ?_
      obtain ⟨g29, hf⟩ := pv_gd hf
      obtain ⟨h30, eh30, hf⟩ := pv_bo hf
      refine FV.iast dX10_go_272 sm_2 g29.1 g29.2 (j := (Int.toNat (pv_w (1134 + v5)))) rfl eh30 ?_
      refine EV.aload_n dX10_go_273 rfl rfl ?_
      refine FV.getF (v := 2) dX10_go_274 sm_0 fl_10_17 rfl rfl hvm_0_2 ?_
      refine EV.sipush dX10_go_277 (by decide) (by decide) ?_
      refine EV.iload dX10_go_280 rfl ?_
      refine EV.iadd dX10_go_282 ?_
      refine EV.aload_n dX10_go_283 rfl rfl ?_
      refine FV.getF (v := 21) dX10_go_284 sm_0 fl_10_78 rfl rfl hvm_0_48 ?_
      refine EV.iload dX10_go_287 rfl ?_
      obtain ⟨g31, hf⟩ := pv_gd hf
      refine FV.iald dX10_go_289 sm_21 g31.1 g31.2 (j := (Int.toNat (v5))) rfl ?_
      obtain ⟨g32, hf⟩ := pv_gd hf
      obtain ⟨h33, eh33, hf⟩ := pv_bo hf
      refine FV.iast dX10_go_290 sm_2 g32.1 g32.2 (j := (Int.toNat (pv_w (1194 + v5)))) rfl eh33 ?_
      refine EV.aload_n dX10_go_291 rfl rfl ?_
      refine FV.getF (v := 2) dX10_go_292 sm_0 fl_10_17 rfl rfl hvm_0_2 ?_
      refine EV.sipush dX10_go_295 (by decide) (by decide) ?_
      refine EV.iload dX10_go_298 rfl ?_
      refine EV.iadd dX10_go_300 ?_
      refine EV.aload_n dX10_go_301 rfl rfl ?_
      refine FV.getF (v := 22) dX10_go_302 sm_0 fl_10_81 rfl rfl hvm_0_49 ?_
      refine EV.iload dX10_go_305 rfl ?_
      obtain ⟨g34, hf⟩ := pv_gd hf
      refine FV.iald dX10_go_307 sm_22 g34.1 g34.2 (j := (Int.toNat (v5))) rfl ?_
      obtain ⟨g35, hf⟩ := pv_gd hf
      obtain ⟨h36, eh36, hf⟩ := pv_bo hf
      refine FV.iast dX10_go_308 sm_2 g35.1 g35.2 (j := (Int.toNat (pv_w (1254 + v5)))) rfl eh36 ?_
      refine EV.aload_n dX10_go_309 rfl rfl ?_
      refine FV.getF (v := 2) dX10_go_310 sm_0 fl_10_17 rfl rfl hvm_0_2 ?_
      refine EV.sipush dX10_go_313 (by decide) (by decide) ?_
      refine EV.iload dX10_go_316 rfl ?_
      refine EV.iadd dX10_go_318 ?_
      refine EV.aload_n dX10_go_319 rfl rfl ?_
      refine FV.getF (v := 23) dX10_go_320 sm_0 fl_10_84 rfl rfl hvm_0_50 ?_
      refine EV.iload dX10_go_323 rfl ?_
      obtain ⟨g37, hf⟩ := pv_gd hf
      refine FV.iald dX10_go_325 sm_23 g37.1 g37.2 (j := (Int.toNat (v5))) rfl ?_
      obtain ⟨g38, hf⟩ := pv_gd hf
      obtain ⟨h39, eh39, hf⟩ := pv_bo hf
      refine FV.iast dX10_go_326 sm_2 g38.1 g38.2 (j := (Int.toNat (pv_w (1314 + v5)))) rfl eh39 ?_
      obtain ⟨x40, ex40, hf⟩ := pv_bo hf
      refine FV.inc (L2 := [some (.inr (.inr (0))), none, none, none, none, some (.inl (x40))]) dX10_go_327 rfl (Nat.le_of_ble_eq_true rfl) ex40 rfl ?_
      refine EV.goto (tgt := 246) dX10_go_330 (by decide) ?_
      refine EV.weak (L2 := [some (.inr (.inr (0))), none, none, none, none, some (.inl (x40))]) (And.intro rfl (And.intro rfl trivial)) ?_
      exact ih _  _ hf

set_option maxHeartbeats 4000000 in
set_option maxRecDepth 20000 in
theorem tX10_go_235 {d N : Nat} {k202 : Int → pv_H → Option (pv_H × Int)} {a1 : Int} {a2 : Int} {a3 : Int} {v5 : Int} {s0 : Int} {s1 : Int} {s2 : Int} {h h' : pv_H} {r : Int} (hd : 6 ≤ d) (hk202 : ∀ (v5 : Int)  (hh : pv_H), k202 v5 hh = some (h', r) → EV RX10 cX10_go 6 (some .int) false d pv_SM (MM h') (some (.inl r)) 202 [some (.inr (.inr (0))), none, none, none, none, some (.inl (v5))] [] pv_SM (MM hh))   (hf : fX10_go_235 N k202 a1 a2 a3 v5 s0 s1 s2 h = some (h', r)) : EV RX10 cX10_go 6 (some .int) false d pv_SM (MM h') (some (.inl r)) 235 [some (.inr (.inr (0))), none, none, none, none, some (.inl (v5))] [.inl (s0), .inl (s1), .inl (s2), .inr (.inr (2))] pv_SM (MM h) := by
  unfold fX10_go_235 at hf
  refine EV.iadd dX10_go_235 ?_
  obtain ⟨g41, hf⟩ := pv_gd hf
  obtain ⟨h42, eh42, hf⟩ := pv_bo hf
  refine FV.iast dX10_go_236 sm_2 g41.1 g41.2 (j := (Int.toNat (s2))) rfl eh42 ?_
  obtain ⟨x43, ex43, hf⟩ := pv_bo hf
  refine FV.inc (L2 := [some (.inr (.inr (0))), none, none, none, none, some (.inl (x43))]) dX10_go_237 rfl (Nat.le_of_ble_eq_true rfl) ex43 rfl ?_
  refine EV.goto (tgt := 202) dX10_go_240 (by decide) ?_
  refine EV.weak (L2 := [some (.inr (.inr (0))), none, none, none, none, some (.inl (x43))]) (And.intro rfl (And.intro rfl trivial)) ?_
  exact hk202 _  _ hf

set_option maxHeartbeats 4000000 in
set_option maxRecDepth 20000 in
theorem tX10_go_202 {d N : Nat}  {a1 : Int} {a2 : Int} {a3 : Int} {h' : pv_H} {r : Int} (hd : 6 ≤ d)   : ∀ (n : Nat) (v5 : Int)  (h : pv_H), fX10_go_202 N  a1 a2 a3 n v5 h = some (h', r) → EV RX10 cX10_go 6 (some .int) false d pv_SM (MM h') (some (.inl r)) 202 [some (.inr (.inr (0))), none, none, none, none, some (.inl (v5))] [] pv_SM (MM h) := by
  intro n
  induction n with
  | zero =>
    intro v5  h hf
    cases hf
  | succ n ih =>
    intro v5  h hf
    rw [fX10_go_202] at hf
    refine EV.iload dX10_go_202 rfl ?_
    refine EV.aload_n dX10_go_204 rfl rfl ?_
    refine FV.getI dX10_go_205 sm_0 fl_10_267 rfl ?_
    refine EV.icmp_ge (tgt := 243) dX10_go_208 (by decide) (fun q24 => ?_) (fun q24 => ?_)
    · have hf := pv_gp hf q24
      refine EV.iconst dX10_go_243 (by decide) (by decide) ?_
      refine FV.stiw (L2 := [some (.inr (.inr (0))), none, none, none, none, some (.inl (0))]) dX10_go_244 (Nat.le_of_ble_eq_true rfl) rfl rfl ?_
      refine EV.weak (L2 := [some (.inr (.inr (0))), none, none, none, none, some (.inl (0))]) (And.intro rfl (And.intro rfl trivial)) ?_
      exact tX10_go_246 hd   _ _  _ hf
    · have hf := pv_gn hf q24
      refine EV.aload_n dX10_go_211 rfl rfl ?_
      refine FV.getF (v := 2) dX10_go_212 sm_0 fl_10_17 rfl rfl hvm_0_2 ?_
      refine EV.sipush dX10_go_215 (by decide) (by decide) ?_
      refine EV.dup2 dX10_go_218 rfl rfl ?_
      refine FV.iald dX10_go_219 sm_2 (by decide) (by decide) (j := 1133) rfl ?_
      refine EV.aload_n dX10_go_220 rfl rfl ?_
      refine FV.getF (v := 18) dX10_go_221 sm_0 fl_10_69 rfl rfl hvm_0_45 ?_
      refine EV.iload dX10_go_224 rfl ?_
      obtain ⟨g25, hf⟩ := pv_gd hf
      refine FV.zald dX10_go_226 sm_18 g25.1 g25.2 (j := (Int.toNat (v5))) rfl ?_
      refine EV.if_eq (tgt := 234) dX10_go_227 (by decide) (fun q26 => ?_) (fun q26 => ?_)
      · have hf := pv_gp hf q26
        refine EV.iconst dX10_go_234 (by decide) (by decide) ?_
        refine EV.weak (L2 := [some (.inr (.inr (0))), none, none, none, none, some (.inl (v5))]) (And.intro rfl (And.intro rfl trivial)) ?_
        exact tX10_go_235 hd (ih)   hf
      · have hf := pv_gn hf q26
        refine EV.iconst dX10_go_230 (by decide) (by decide) ?_
        refine EV.goto (tgt := 235) dX10_go_231 (by decide) ?_
        refine EV.weak (L2 := [some (.inr (.inr (0))), none, none, none, none, some (.inl (v5))]) (And.intro rfl (And.intro rfl trivial)) ?_
        exact tX10_go_235 hd (ih)   hf

set_option maxHeartbeats 4000000 in
set_option maxRecDepth 20000 in
theorem tX10_go_188 {d N : Nat}  {a1 : Int} {a2 : Int} {a3 : Int} {s0 : Int} {s1 : Int} {s2 : Int} {h h' : pv_H} {r : Int} (hd : 6 ≤ d)    (hf : fX10_go_188 N  a1 a2 a3 s0 s1 s2 h = some (h', r)) : EV RX10 cX10_go 6 (some .int) false d pv_SM (MM h') (some (.inl r)) 188 [some (.inr (.inr (0))), none, none, none, none, none] [.inl (s0), .inl (s1), .inl (s2), .inr (.inr (2))] pv_SM (MM h) := by
  unfold fX10_go_188 at hf
  refine EV.imul dX10_go_188 ?_
  obtain ⟨g21, hf⟩ := pv_gd hf
  obtain ⟨h22, eh22, hf⟩ := pv_bo hf
  refine FV.iast dX10_go_189 sm_2 g21.1 g21.2 (j := (Int.toNat (s2))) rfl eh22 ?_
  refine EV.aload_n dX10_go_190 rfl rfl ?_
  refine FV.getF (v := 2) dX10_go_191 sm_0 fl_10_17 rfl rfl hvm_0_2 ?_
  refine EV.sipush dX10_go_194 (by decide) (by decide) ?_
  refine EV.iconst dX10_go_197 (by decide) (by decide) ?_
  obtain ⟨h23, eh23, hf⟩ := pv_bo hf
  refine FV.iast dX10_go_198 sm_2 (by decide) (by decide) (j := 1133) rfl eh23 ?_
  refine EV.iconst dX10_go_199 (by decide) (by decide) ?_
  refine FV.stiw (L2 := [some (.inr (.inr (0))), none, none, none, none, some (.inl (0))]) dX10_go_200 (Nat.le_of_ble_eq_true rfl) rfl rfl ?_
  refine EV.weak (L2 := [some (.inr (.inr (0))), none, none, none, none, some (.inl (0))]) (And.intro rfl (And.intro rfl trivial)) ?_
  exact tX10_go_202 hd   _ _  _ hf

set_option maxHeartbeats 4000000 in
set_option maxRecDepth 20000 in
theorem tX10_go_149 {d N : Nat}  {a1 : Int} {a2 : Int} {a3 : Int} {s0 : Int} {h h' : pv_H} {r : Int} (hd : 6 ≤ d)    (hf : fX10_go_149 N  a1 a2 a3 s0 h = some (h', r)) : EV RX10 cX10_go 6 (some .int) false d pv_SM (MM h') (some (.inl r)) 149 [some (.inr (.inr (0))), none, none, none, none, none] [.inl (s0)] pv_SM (MM h) := by
  unfold fX10_go_149 at hf
  refine FV.stiw (L2 := [some (.inr (.inr (0))), none, none, none, some (.inl (s0)), none]) dX10_go_149 (Nat.le_of_ble_eq_true rfl) rfl rfl ?_
  refine EV.aload_n dX10_go_151 rfl rfl ?_
  refine FV.getF (v := 2) dX10_go_152 sm_0 fl_10_17 rfl rfl hvm_0_2 ?_
  refine EV.sipush dX10_go_155 (by decide) (by decide) ?_
  refine EV.aload_n dX10_go_158 rfl rfl ?_
  refine FV.getF (v := 2) dX10_go_159 sm_0 fl_10_17 rfl rfl hvm_0_2 ?_
  refine EV.sipush dX10_go_162 (by decide) (by decide) ?_
  refine FV.iald dX10_go_165 sm_2 (by decide) (by decide) (j := 1118) rfl ?_
  refine EV.aload_n dX10_go_166 rfl rfl ?_
  refine FV.getF (v := 2) dX10_go_167 sm_0 fl_10_17 rfl rfl hvm_0_2 ?_
  refine EV.sipush dX10_go_170 (by decide) (by decide) ?_
  refine FV.iald dX10_go_173 sm_2 (by decide) (by decide) (j := 1119) rfl ?_
  refine EV.isub dX10_go_174 ?_
  refine EV.iload dX10_go_175 rfl ?_
  refine EV.if_ge (tgt := 186) dX10_go_177 (by decide) (fun q20 => ?_) (fun q20 => ?_)
  · have hf := pv_gp hf q20
    refine EV.iload dX10_go_186 rfl ?_
    refine EV.weak (L2 := [some (.inr (.inr (0))), none, none, none, none, none]) (And.intro rfl trivial) ?_
    exact tX10_go_188 hd    hf
  · have hf := pv_gn hf q20
    refine EV.iload dX10_go_180 rfl ?_
    refine EV.ineg dX10_go_182 ?_
    refine EV.goto (tgt := 188) dX10_go_183 (by decide) ?_
    refine EV.weak (L2 := [some (.inr (.inr (0))), none, none, none, none, none]) (And.intro rfl trivial) ?_
    exact tX10_go_188 hd    hf

set_option maxHeartbeats 4000000 in
set_option maxRecDepth 20000 in
theorem tX10_go {d N : Nat} {a1 : Int} {a2 : Int} {a3 : Int} {h h' : pv_H} {r : Int} (hd : 6 ≤ d)  (hf : fX10_go N a1 a2 a3 h = some (h', r)) : CALL yX10_go cX10_go 6 (some .int) d pv_SM (MM h) [.inr (.inr (0)), .inl (a1), .inl (a2), .inl (a3)] pv_SM (MM h') (some (.inl r)) := by
  unfold fX10_go at hf
  refine EV.call (own := RX10) (ini := false) rfl rfl (fun q => by cases q) ⟨[], (List.append_nil _).symm⟩ (Nat.le_of_ble_eq_true rfl) ?_
  refine EV.eqL (L2 := [some (.inr (.inr (0))), some (.inl (a1)), some (.inl (a2)), some (.inl (a3)), none, none]) rfl ?_
  refine EV.aload_n dX10_go_0 rfl rfl ?_
  refine EV.iconst dX10_go_1 (by decide) (by decide) ?_
  obtain ⟨h1, eh1, hf⟩ := pv_bo hf
  refine FV.putI dX10_go_2 sm_0 fl_10_1 rfl rfl eh1 ?_
  refine EV.aload_n dX10_go_5 rfl rfl ?_
  refine EV.iload_n dX10_go_6 rfl rfl ?_
  refine EV.iload_n dX10_go_7 rfl rfl ?_
  obtain ⟨r3, hc2, hf⟩ := pv_c1o hf
  refine EV.invV (As := [.inl (a1), .inl (a2)]) (st := []) (d1 := d - 1) (sh1 := pv_SM) (h1 := MM h1) (r1 := (some (.inl r3))) dX10_go_8 sm_0 (by decide) md_X10_isBoth ml_X10_396 im_X10_isBoth se_X10_isBoth (tX10_isBoth (by omega)  hc2) (by omega) rfl rfl (Nat.le_of_ble_eq_true rfl) ⟨[], (List.append_nil _).symm⟩ ?_
  refine EV.eqS (st2 := [.inl (r3)]) rfl ?_
  refine EV.if_ne (tgt := 21) dX10_go_11 (by decide) (fun q4 => ?_) (fun q4 => ?_)
  · have hf := pv_gn hf q4
    refine EV.aload_n dX10_go_21 rfl rfl ?_
    refine EV.iload_n dX10_go_22 rfl rfl ?_
    refine EV.iload_n dX10_go_23 rfl rfl ?_
    refine EV.iload_n dX10_go_24 rfl rfl ?_
    refine EV.iconst dX10_go_25 (by decide) (by decide) ?_
    refine EV.iconst dX10_go_26 (by decide) (by decide) ?_
    obtain ⟨h6, r7, hc5, hf⟩ := pv_c2o hf
    refine EV.invV (As := [.inl (a1), .inl (a2), .inl (a3), .inl (1), .inl (-1)]) (st := []) (d1 := d - 1) (sh1 := pv_SM) (h1 := MM h6) (r1 := (some (.inl r7))) dX10_go_27 sm_0 (by decide) md_X10_piecesOf ml_X10_400 im_X10_piecesOf se_X10_piecesOf (tX10_piecesOf (by omega)  hc5) (by omega) rfl rfl (Nat.le_of_ble_eq_true rfl) ⟨[], (List.append_nil _).symm⟩ ?_
    refine EV.eqS (st2 := [.inl (r7)]) rfl ?_
    refine EV.pop dX10_go_30 rfl ?_
    refine EV.aload_n dX10_go_31 rfl rfl ?_
    refine FV.getF (v := 2) dX10_go_32 sm_0 fl_10_17 rfl rfl hvm_0_2 ?_
    refine EV.sipush dX10_go_35 (by decide) (by decide) ?_
    refine EV.iconst dX10_go_38 (by decide) (by decide) ?_
    obtain ⟨h8, eh8, hf⟩ := pv_bo hf
    refine FV.iast dX10_go_39 sm_2 (by decide) (by decide) (j := 1125) rfl eh8 ?_
    refine EV.aload_n dX10_go_40 rfl rfl ?_
    refine FV.getF (v := 2) dX10_go_41 sm_0 fl_10_17 rfl rfl hvm_0_2 ?_
    refine EV.sipush dX10_go_44 (by decide) (by decide) ?_
    refine EV.aload_n dX10_go_47 rfl rfl ?_
    refine FV.getI dX10_go_48 sm_0 fl_10_328 rfl ?_
    obtain ⟨h9, eh9, hf⟩ := pv_bo hf
    refine FV.iast dX10_go_51 sm_2 (by decide) (by decide) (j := 1126) rfl eh9 ?_
    refine EV.aload_n dX10_go_52 rfl rfl ?_
    refine FV.getF (v := 2) dX10_go_53 sm_0 fl_10_17 rfl rfl hvm_0_2 ?_
    refine EV.sipush dX10_go_56 (by decide) (by decide) ?_
    refine EV.aload_n dX10_go_59 rfl rfl ?_
    refine FV.getI dX10_go_60 sm_0 fl_10_390 rfl ?_
    obtain ⟨h10, eh10, hf⟩ := pv_bo hf
    refine FV.iast dX10_go_63 sm_2 (by decide) (by decide) (j := 1127) rfl eh10 ?_
    refine EV.aload_n dX10_go_64 rfl rfl ?_
    refine FV.getF (v := 2) dX10_go_65 sm_0 fl_10_17 rfl rfl hvm_0_2 ?_
    refine EV.sipush dX10_go_68 (by decide) (by decide) ?_
    refine EV.aload_n dX10_go_71 rfl rfl ?_
    refine FV.getI dX10_go_72 sm_0 fl_10_325 rfl ?_
    obtain ⟨h11, eh11, hf⟩ := pv_bo hf
    refine FV.iast dX10_go_75 sm_2 (by decide) (by decide) (j := 1128) rfl eh11 ?_
    refine EV.aload_n dX10_go_76 rfl rfl ?_
    refine FV.getF (v := 2) dX10_go_77 sm_0 fl_10_17 rfl rfl hvm_0_2 ?_
    refine EV.sipush dX10_go_80 (by decide) (by decide) ?_
    refine EV.aload_n dX10_go_83 rfl rfl ?_
    refine FV.getI dX10_go_84 sm_0 fl_10_356 rfl ?_
    obtain ⟨h12, eh12, hf⟩ := pv_bo hf
    refine FV.iast dX10_go_87 sm_2 (by decide) (by decide) (j := 1129) rfl eh12 ?_
    refine EV.aload_n dX10_go_88 rfl rfl ?_
    refine FV.getF (v := 2) dX10_go_89 sm_0 fl_10_17 rfl rfl hvm_0_2 ?_
    refine EV.sipush dX10_go_92 (by decide) (by decide) ?_
    refine EV.aload_n dX10_go_95 rfl rfl ?_
    refine FV.getI dX10_go_96 sm_0 fl_10_368 rfl ?_
    obtain ⟨h13, eh13, hf⟩ := pv_bo hf
    refine FV.iast dX10_go_99 sm_2 (by decide) (by decide) (j := 1130) rfl eh13 ?_
    refine EV.aload_n dX10_go_100 rfl rfl ?_
    refine FV.getF (v := 2) dX10_go_101 sm_0 fl_10_17 rfl rfl hvm_0_2 ?_
    refine EV.sipush dX10_go_104 (by decide) (by decide) ?_
    refine EV.aload_n dX10_go_107 rfl rfl ?_
    refine FV.getI dX10_go_108 sm_0 fl_10_297 rfl ?_
    obtain ⟨h14, eh14, hf⟩ := pv_bo hf
    refine FV.iast dX10_go_111 sm_2 (by decide) (by decide) (j := 1131) rfl eh14 ?_
    refine EV.aload_n dX10_go_112 rfl rfl ?_
    refine FV.getF (v := 2) dX10_go_113 sm_0 fl_10_17 rfl rfl hvm_0_2 ?_
    refine EV.sipush dX10_go_116 (by decide) (by decide) ?_
    refine EV.aload_n dX10_go_119 rfl rfl ?_
    refine FV.getI dX10_go_120 sm_0 fl_10_300 rfl ?_
    obtain ⟨h15, eh15, hf⟩ := pv_bo hf
    refine FV.iast dX10_go_123 sm_2 (by decide) (by decide) (j := 1132) rfl eh15 ?_
    refine EV.aload_n dX10_go_124 rfl rfl ?_
    refine FV.getI dX10_go_125 sm_0 fl_10_328 rfl ?_
    refine EV.iconst dX10_go_128 (by decide) (by decide) ?_
    refine EV.icmp_ge (tgt := 136) dX10_go_129 (by decide) (fun q16 => ?_) (fun q16 => ?_)
    · have hf := pv_gp hf q16
      refine EV.aload_n dX10_go_136 rfl rfl ?_
      refine FV.getF (v := 20) dX10_go_137 sm_0 fl_10_75 rfl rfl hvm_0_47 ?_
      refine EV.iconst dX10_go_140 (by decide) (by decide) ?_
      refine FV.iald dX10_go_141 sm_20 (by decide) (by decide) (j := 0) rfl ?_
      refine EV.aload_n dX10_go_142 rfl rfl ?_
      refine FV.getF (v := 20) dX10_go_143 sm_0 fl_10_75 rfl rfl hvm_0_47 ?_
      refine EV.iconst dX10_go_146 (by decide) (by decide) ?_
      refine FV.iald dX10_go_147 sm_20 (by decide) (by decide) (j := 1) rfl ?_
      refine EV.isub dX10_go_148 ?_
      refine EV.weak (L2 := [some (.inr (.inr (0))), none, none, none, none, none]) (And.intro rfl trivial) ?_
      exact tX10_go_149 hd    hf
    · have hf := pv_gn hf q16
      refine EV.iconst dX10_go_132 (by decide) (by decide) ?_
      refine EV.goto (tgt := 149) dX10_go_133 (by decide) ?_
      refine EV.weak (L2 := [some (.inr (.inr (0))), none, none, none, none, none]) (And.intro rfl trivial) ?_
      exact tX10_go_149 hd    hf
  · have hf := pv_gp hf q4
    refine EV.aload_n dX10_go_14 rfl rfl ?_
    refine EV.bipush dX10_go_15 (by decide) (by decide) ?_
    obtain ⟨h18, r19, hc17, hf⟩ := pv_c2o hf
    refine EV.invV (As := [.inl (-2)]) (st := []) (d1 := d - 1) (sh1 := pv_SM) (h1 := MM h18) (r1 := (some (.inl r19))) dX10_go_17 sm_0 (by decide) md_X10_no ml_X10_131 im_X10_no se_X10_no (tX10_no (by omega)  hc17) (by omega) rfl rfl (Nat.le_of_ble_eq_true rfl) ⟨[], (List.append_nil _).symm⟩ ?_
    refine EV.eqS (st2 := [.inl (r19)]) rfl ?_
    exact FV.iret dX10_go_20 hf

noncomputable def fX10_isKept_17 (N : Nat)   (s0 : Int) (h : pv_H) : Option (Int) :=
  if s0 = 0 ∨ s0 = 1 then (some (s0)) else none

noncomputable def fX10_isKept (N : Nat)  (h : pv_H) : Option (Int) :=
  if (h 2 1125) = 1 then (fX10_isKept_17 N   (1) h) else (fX10_isKept_17 N   (0) h)

set_option maxHeartbeats 4000000 in
set_option maxRecDepth 20000 in
theorem tX10_isKept_17 {d N : Nat}   {s0 : Int} {h : pv_H} {r : Int} (hd : 1 ≤ d)    (hf : fX10_isKept_17 N   s0 h = some r) : EV RX10 cX10_isKept 1 (some .boolean) false d pv_SM (MM h) (some (.inl r)) 17 [none] [.inl (s0)] pv_SM (MM h) := by
  unfold fX10_isKept_17 at hf
  obtain ⟨g2, hf⟩ := pv_gd hf
  exact FV.zretp dX10_isKept_17 g2 hf

set_option maxHeartbeats 4000000 in
set_option maxRecDepth 20000 in
theorem tX10_isKept {d N : Nat}  {h : pv_H} {r : Int} (hd : 1 ≤ d)  (hf : fX10_isKept N  h = some r) : CALL yX10_isKept cX10_isKept 1 (some .boolean) d pv_SM (MM h) [.inr (.inr (0))] pv_SM (MM h) (some (.inl r)) := by
  unfold fX10_isKept at hf
  refine EV.call (own := RX10) (ini := false) rfl rfl (fun q => by cases q) ⟨[], (List.append_nil _).symm⟩ (Nat.le_of_ble_eq_true rfl) ?_
  refine EV.eqL (L2 := [some (.inr (.inr (0)))]) rfl ?_
  refine EV.aload_n dX10_isKept_0 rfl rfl ?_
  refine FV.getF (v := 2) dX10_isKept_1 sm_0 fl_10_17 rfl rfl hvm_0_2 ?_
  refine EV.sipush dX10_isKept_4 (by decide) (by decide) ?_
  refine FV.iald dX10_isKept_7 sm_2 (by decide) (by decide) (j := 1125) rfl ?_
  refine EV.iconst dX10_isKept_8 (by decide) (by decide) ?_
  refine EV.icmp_ne (tgt := 16) dX10_isKept_9 (by decide) (fun q1 => ?_) (fun q1 => ?_)
  · have hf := pv_gn hf q1
    refine EV.iconst dX10_isKept_16 (by decide) (by decide) ?_
    refine EV.weak (L2 := [none]) trivial ?_
    exact tX10_isKept_17 hd    hf
  · have hf := pv_gp hf q1
    refine EV.iconst dX10_isKept_12 (by decide) (by decide) ?_
    refine EV.goto (tgt := 17) dX10_isKept_13 (by decide) ?_
    refine EV.weak (L2 := [none]) trivial ?_
    exact tX10_isKept_17 hd    hf

noncomputable def fX10_broke_40 (N : Nat)  (a1 : Int) (a2 : Int)  (h : pv_H) : Option (pv_H × Int) :=
  pv_c2b (fX10_no N (-2) h) fun h8 r9 => some (h8, r9)

noncomputable def fX10_broke_28 (N : Nat)  (a1 : Int) (a2 : Int)  (h : pv_H) : Option (pv_H × Int) :=
  pv_c1 (fX10_within N a2 0 3 h) fun r11 => if r11 = 0 then (fX10_broke_40 N  a1 a2  h) else (pv_c1 (fX10_isKept N  h) fun r14 => if r14 = 0 then (pv_c2b (fX10_no N (-5) h) fun h18 r19 => some (h18, r19)) else (if 0 ≤ pv_w ((pv_w (1134 + (pv_w (60 * a2)))) + a1) ∧ pv_w ((pv_w (1134 + (pv_w (60 * a2)))) + a1) < 9159 then (some (h, h 2 (Int.toNat (pv_w ((pv_w (1134 + (pv_w (60 * a2)))) + a1))))) else none))

noncomputable def fX10_broke (N : Nat) (a1 : Int) (a2 : Int) (h : pv_H) : Option (pv_H × Int) :=
  pv_b (pv_up h 0 0 0) fun h1 => if a1 < 0 then (fX10_broke_40 N  a1 a2  h1) else (pv_c1 (fX10_isKept N  h1) fun r4 => if r4 = 0 then (fX10_broke_28 N  a1 a2  h1) else (if (h1 2 1126) ≤ a1 then (fX10_broke_40 N  a1 a2  h1) else (fX10_broke_28 N  a1 a2  h1)))

set_option maxHeartbeats 4000000 in
set_option maxRecDepth 20000 in
theorem tX10_broke_40 {d N : Nat}  {a1 : Int} {a2 : Int}  {h h' : pv_H} {r : Int} (hd : 2 ≤ d)    (hf : fX10_broke_40 N  a1 a2  h = some (h', r)) : EV RX10 cX10_broke 3 (some .int) false d pv_SM (MM h') (some (.inl r)) 40 [some (.inr (.inr (0))), none, none] [] pv_SM (MM h) := by
  unfold fX10_broke_40 at hf
  refine EV.aload_n dX10_broke_40 rfl rfl ?_
  refine EV.bipush dX10_broke_41 (by decide) (by decide) ?_
  obtain ⟨h8, r9, hc7, hf⟩ := pv_c2o hf
  refine EV.invV (As := [.inl (-2)]) (st := []) (d1 := d - 1) (sh1 := pv_SM) (h1 := MM h8) (r1 := (some (.inl r9))) dX10_broke_43 sm_0 (by decide) md_X10_no ml_X10_131 im_X10_no se_X10_no (tX10_no (by omega)  hc7) (by omega) rfl rfl (Nat.le_of_ble_eq_true rfl) ⟨[], (List.append_nil _).symm⟩ ?_
  refine EV.eqS (st2 := [.inl (r9)]) rfl ?_
  exact FV.iret dX10_broke_46 hf

set_option maxHeartbeats 4000000 in
set_option maxRecDepth 20000 in
theorem tX10_broke_28 {d N : Nat}  {a1 : Int} {a2 : Int}  {h h' : pv_H} {r : Int} (hd : 2 ≤ d)    (hf : fX10_broke_28 N  a1 a2  h = some (h', r)) : EV RX10 cX10_broke 3 (some .int) false d pv_SM (MM h') (some (.inl r)) 28 [some (.inr (.inr (0))), some (.inl (a1)), some (.inl (a2))] [] pv_SM (MM h) := by
  unfold fX10_broke_28 at hf
  refine EV.iload_n dX10_broke_28 rfl rfl ?_
  refine EV.i2l dX10_broke_29 ?_
  refine EV.lconst (x := 0) dX10_broke_30 (by decide) (by decide) (by decide) ?_
  refine EV.ldc2 (n := 3) dX10_broke_31 kl_X10_250 (by decide) (by decide) ?_
  obtain ⟨r11, hc10, hf⟩ := pv_c1o hf
  refine EV.invS (As := [.inr (.inl (a2)), .inr (.inl (0)), .inr (.inl (3))]) (st := []) (d1 := d - 1) (sh1 := pv_SM) (h1 := MM h) (r1 := (some (.inl r11))) dX10_broke_34 md_X10_within ml_X10_193 st_X10_within (tX10_within (by omega)  hc10) (by omega) rfl rfl (Nat.le_of_ble_eq_true rfl) ⟨[], (List.append_nil _).symm⟩ ?_
  refine EV.eqS (st2 := [.inl (r11)]) rfl ?_
  refine EV.if_ne (tgt := 47) dX10_broke_37 (by decide) (fun q12 => ?_) (fun q12 => ?_)
  · have hf := pv_gn hf q12
    refine EV.aload_n dX10_broke_47 rfl rfl ?_
    obtain ⟨r14, hc13, hf⟩ := pv_c1o hf
    refine EV.invV (As := []) (st := []) (d1 := d - 1) (sh1 := pv_SM) (h1 := MM h) (r1 := (some (.inl r14))) dX10_broke_48 sm_0 (by decide) md_X10_isKept ml_X10_404 im_X10_isKept se_X10_isKept (tX10_isKept (by omega)  hc13) (by omega) rfl rfl (Nat.le_of_ble_eq_true rfl) ⟨[], (List.append_nil _).symm⟩ ?_
    refine EV.eqS (st2 := [.inl (r14)]) rfl ?_
    refine EV.if_ne (tgt := 61) dX10_broke_51 (by decide) (fun q15 => ?_) (fun q15 => ?_)
    · have hf := pv_gn hf q15
      refine EV.aload_n dX10_broke_61 rfl rfl ?_
      refine FV.getF (v := 2) dX10_broke_62 sm_0 fl_10_17 rfl rfl hvm_0_2 ?_
      refine EV.sipush dX10_broke_65 (by decide) (by decide) ?_
      refine EV.bipush dX10_broke_68 (by decide) (by decide) ?_
      refine EV.iload_n dX10_broke_70 rfl rfl ?_
      refine EV.imul dX10_broke_71 ?_
      refine EV.iadd dX10_broke_72 ?_
      refine EV.iload_n dX10_broke_73 rfl rfl ?_
      refine EV.iadd dX10_broke_74 ?_
      obtain ⟨g16, hf⟩ := pv_gd hf
      refine FV.iald dX10_broke_75 sm_2 g16.1 g16.2 (j := (Int.toNat (pv_w ((pv_w (1134 + (pv_w (60 * a2)))) + a1)))) rfl ?_
      exact FV.iret dX10_broke_76 hf
    · have hf := pv_gp hf q15
      refine EV.aload_n dX10_broke_54 rfl rfl ?_
      refine EV.bipush dX10_broke_55 (by decide) (by decide) ?_
      obtain ⟨h18, r19, hc17, hf⟩ := pv_c2o hf
      refine EV.invV (As := [.inl (-5)]) (st := []) (d1 := d - 1) (sh1 := pv_SM) (h1 := MM h18) (r1 := (some (.inl r19))) dX10_broke_57 sm_0 (by decide) md_X10_no ml_X10_131 im_X10_no se_X10_no (tX10_no (by omega)  hc17) (by omega) rfl rfl (Nat.le_of_ble_eq_true rfl) ⟨[], (List.append_nil _).symm⟩ ?_
      refine EV.eqS (st2 := [.inl (r19)]) rfl ?_
      exact FV.iret dX10_broke_60 hf
  · have hf := pv_gp hf q12
    refine EV.weak (L2 := [some (.inr (.inr (0))), none, none]) (And.intro rfl trivial) ?_
    exact tX10_broke_40 hd    hf

set_option maxHeartbeats 4000000 in
set_option maxRecDepth 20000 in
theorem tX10_broke {d N : Nat} {a1 : Int} {a2 : Int} {h h' : pv_H} {r : Int} (hd : 2 ≤ d)  (hf : fX10_broke N a1 a2 h = some (h', r)) : CALL yX10_broke cX10_broke 3 (some .int) d pv_SM (MM h) [.inr (.inr (0)), .inl (a1), .inl (a2)] pv_SM (MM h') (some (.inl r)) := by
  unfold fX10_broke at hf
  refine EV.call (own := RX10) (ini := false) rfl rfl (fun q => by cases q) ⟨[], (List.append_nil _).symm⟩ (Nat.le_of_ble_eq_true rfl) ?_
  refine EV.eqL (L2 := [some (.inr (.inr (0))), some (.inl (a1)), some (.inl (a2))]) rfl ?_
  refine EV.aload_n dX10_broke_0 rfl rfl ?_
  refine EV.iconst dX10_broke_1 (by decide) (by decide) ?_
  obtain ⟨h1, eh1, hf⟩ := pv_bo hf
  refine FV.putI dX10_broke_2 sm_0 fl_10_1 rfl rfl eh1 ?_
  refine EV.iload_n dX10_broke_5 rfl rfl ?_
  refine EV.if_lt (tgt := 40) dX10_broke_6 (by decide) (fun q2 => ?_) (fun q2 => ?_)
  · have hf := pv_gp hf q2
    refine EV.weak (L2 := [some (.inr (.inr (0))), none, none]) (And.intro rfl trivial) ?_
    exact tX10_broke_40 hd    hf
  · have hf := pv_gn hf q2
    refine EV.aload_n dX10_broke_9 rfl rfl ?_
    obtain ⟨r4, hc3, hf⟩ := pv_c1o hf
    refine EV.invV (As := []) (st := []) (d1 := d - 1) (sh1 := pv_SM) (h1 := MM h1) (r1 := (some (.inl r4))) dX10_broke_10 sm_0 (by decide) md_X10_isKept ml_X10_404 im_X10_isKept se_X10_isKept (tX10_isKept (by omega)  hc3) (by omega) rfl rfl (Nat.le_of_ble_eq_true rfl) ⟨[], (List.append_nil _).symm⟩ ?_
    refine EV.eqS (st2 := [.inl (r4)]) rfl ?_
    refine EV.if_eq (tgt := 28) dX10_broke_13 (by decide) (fun q5 => ?_) (fun q5 => ?_)
    · have hf := pv_gp hf q5
      refine EV.weak (L2 := [some (.inr (.inr (0))), some (.inl (a1)), some (.inl (a2))]) (And.intro rfl (And.intro rfl (And.intro rfl trivial))) ?_
      exact tX10_broke_28 hd    hf
    · have hf := pv_gn hf q5
      refine EV.iload_n dX10_broke_16 rfl rfl ?_
      refine EV.aload_n dX10_broke_17 rfl rfl ?_
      refine FV.getF (v := 2) dX10_broke_18 sm_0 fl_10_17 rfl rfl hvm_0_2 ?_
      refine EV.sipush dX10_broke_21 (by decide) (by decide) ?_
      refine FV.iald dX10_broke_24 sm_2 (by decide) (by decide) (j := 1126) rfl ?_
      refine EV.icmp_ge (tgt := 40) dX10_broke_25 (by decide) (fun q6 => ?_) (fun q6 => ?_)
      · have hf := pv_gp hf q6
        refine EV.weak (L2 := [some (.inr (.inr (0))), none, none]) (And.intro rfl trivial) ?_
        exact tX10_broke_40 hd    hf
      · have hf := pv_gn hf q6
        refine EV.weak (L2 := [some (.inr (.inr (0))), some (.inl (a1)), some (.inl (a2))]) (And.intro rfl (And.intro rfl (And.intro rfl trivial))) ?_
        exact tX10_broke_28 hd    hf

noncomputable def fX10_piece_28 (N : Nat)  (a1 : Int)  (h : pv_H) : Option (pv_H × Int) :=
  pv_c2b (fX10_no N (-2) h) fun h8 r9 => some (h8, r9)

noncomputable def fX10_piece_35 (N : Nat)  (a1 : Int)  (h : pv_H) : Option (pv_H × Int) :=
  pv_c1 (fX10_isKept N  h) fun r11 => if r11 = 0 then (pv_c2b (fX10_no N (-5) h) fun h15 r16 => some (h15, r16)) else (if 0 ≤ pv_w (1374 + a1) ∧ pv_w (1374 + a1) < 9159 then (some (h, h 2 (Int.toNat (pv_w (1374 + a1))))) else none)

noncomputable def fX10_piece (N : Nat) (a1 : Int) (h : pv_H) : Option (pv_H × Int) :=
  pv_b (pv_up h 0 0 0) fun h1 => if a1 < 0 then (fX10_piece_28 N  a1  h1) else (pv_c1 (fX10_isKept N  h1) fun r4 => if r4 = 0 then (fX10_piece_35 N  a1  h1) else (if a1 < (h1 2 1127) then (fX10_piece_35 N  a1  h1) else (fX10_piece_28 N  a1  h1)))

set_option maxHeartbeats 4000000 in
set_option maxRecDepth 20000 in
theorem tX10_piece_28 {d N : Nat}  {a1 : Int}  {h h' : pv_H} {r : Int} (hd : 2 ≤ d)    (hf : fX10_piece_28 N  a1  h = some (h', r)) : EV RX10 cX10_piece 2 (some .int) false d pv_SM (MM h') (some (.inl r)) 28 [some (.inr (.inr (0))), none] [] pv_SM (MM h) := by
  unfold fX10_piece_28 at hf
  refine EV.aload_n dX10_piece_28 rfl rfl ?_
  refine EV.bipush dX10_piece_29 (by decide) (by decide) ?_
  obtain ⟨h8, r9, hc7, hf⟩ := pv_c2o hf
  refine EV.invV (As := [.inl (-2)]) (st := []) (d1 := d - 1) (sh1 := pv_SM) (h1 := MM h8) (r1 := (some (.inl r9))) dX10_piece_31 sm_0 (by decide) md_X10_no ml_X10_131 im_X10_no se_X10_no (tX10_no (by omega)  hc7) (by omega) rfl rfl (Nat.le_of_ble_eq_true rfl) ⟨[], (List.append_nil _).symm⟩ ?_
  refine EV.eqS (st2 := [.inl (r9)]) rfl ?_
  exact FV.iret dX10_piece_34 hf

set_option maxHeartbeats 4000000 in
set_option maxRecDepth 20000 in
theorem tX10_piece_35 {d N : Nat}  {a1 : Int}  {h h' : pv_H} {r : Int} (hd : 2 ≤ d)    (hf : fX10_piece_35 N  a1  h = some (h', r)) : EV RX10 cX10_piece 2 (some .int) false d pv_SM (MM h') (some (.inl r)) 35 [some (.inr (.inr (0))), some (.inl (a1))] [] pv_SM (MM h) := by
  unfold fX10_piece_35 at hf
  refine EV.aload_n dX10_piece_35 rfl rfl ?_
  obtain ⟨r11, hc10, hf⟩ := pv_c1o hf
  refine EV.invV (As := []) (st := []) (d1 := d - 1) (sh1 := pv_SM) (h1 := MM h) (r1 := (some (.inl r11))) dX10_piece_36 sm_0 (by decide) md_X10_isKept ml_X10_404 im_X10_isKept se_X10_isKept (tX10_isKept (by omega)  hc10) (by omega) rfl rfl (Nat.le_of_ble_eq_true rfl) ⟨[], (List.append_nil _).symm⟩ ?_
  refine EV.eqS (st2 := [.inl (r11)]) rfl ?_
  refine EV.if_ne (tgt := 49) dX10_piece_39 (by decide) (fun q12 => ?_) (fun q12 => ?_)
  · have hf := pv_gn hf q12
    refine EV.aload_n dX10_piece_49 rfl rfl ?_
    refine FV.getF (v := 2) dX10_piece_50 sm_0 fl_10_17 rfl rfl hvm_0_2 ?_
    refine EV.sipush dX10_piece_53 (by decide) (by decide) ?_
    refine EV.iload_n dX10_piece_56 rfl rfl ?_
    refine EV.iadd dX10_piece_57 ?_
    obtain ⟨g13, hf⟩ := pv_gd hf
    refine FV.iald dX10_piece_58 sm_2 g13.1 g13.2 (j := (Int.toNat (pv_w (1374 + a1)))) rfl ?_
    exact FV.iret dX10_piece_59 hf
  · have hf := pv_gp hf q12
    refine EV.aload_n dX10_piece_42 rfl rfl ?_
    refine EV.bipush dX10_piece_43 (by decide) (by decide) ?_
    obtain ⟨h15, r16, hc14, hf⟩ := pv_c2o hf
    refine EV.invV (As := [.inl (-5)]) (st := []) (d1 := d - 1) (sh1 := pv_SM) (h1 := MM h15) (r1 := (some (.inl r16))) dX10_piece_45 sm_0 (by decide) md_X10_no ml_X10_131 im_X10_no se_X10_no (tX10_no (by omega)  hc14) (by omega) rfl rfl (Nat.le_of_ble_eq_true rfl) ⟨[], (List.append_nil _).symm⟩ ?_
    refine EV.eqS (st2 := [.inl (r16)]) rfl ?_
    exact FV.iret dX10_piece_48 hf

set_option maxHeartbeats 4000000 in
set_option maxRecDepth 20000 in
theorem tX10_piece {d N : Nat} {a1 : Int} {h h' : pv_H} {r : Int} (hd : 2 ≤ d)  (hf : fX10_piece N a1 h = some (h', r)) : CALL yX10_piece cX10_piece 2 (some .int) d pv_SM (MM h) [.inr (.inr (0)), .inl (a1)] pv_SM (MM h') (some (.inl r)) := by
  unfold fX10_piece at hf
  refine EV.call (own := RX10) (ini := false) rfl rfl (fun q => by cases q) ⟨[], (List.append_nil _).symm⟩ (Nat.le_of_ble_eq_true rfl) ?_
  refine EV.eqL (L2 := [some (.inr (.inr (0))), some (.inl (a1))]) rfl ?_
  refine EV.aload_n dX10_piece_0 rfl rfl ?_
  refine EV.iconst dX10_piece_1 (by decide) (by decide) ?_
  obtain ⟨h1, eh1, hf⟩ := pv_bo hf
  refine FV.putI dX10_piece_2 sm_0 fl_10_1 rfl rfl eh1 ?_
  refine EV.iload_n dX10_piece_5 rfl rfl ?_
  refine EV.if_lt (tgt := 28) dX10_piece_6 (by decide) (fun q2 => ?_) (fun q2 => ?_)
  · have hf := pv_gp hf q2
    refine EV.weak (L2 := [some (.inr (.inr (0))), none]) (And.intro rfl trivial) ?_
    exact tX10_piece_28 hd    hf
  · have hf := pv_gn hf q2
    refine EV.aload_n dX10_piece_9 rfl rfl ?_
    obtain ⟨r4, hc3, hf⟩ := pv_c1o hf
    refine EV.invV (As := []) (st := []) (d1 := d - 1) (sh1 := pv_SM) (h1 := MM h1) (r1 := (some (.inl r4))) dX10_piece_10 sm_0 (by decide) md_X10_isKept ml_X10_404 im_X10_isKept se_X10_isKept (tX10_isKept (by omega)  hc3) (by omega) rfl rfl (Nat.le_of_ble_eq_true rfl) ⟨[], (List.append_nil _).symm⟩ ?_
    refine EV.eqS (st2 := [.inl (r4)]) rfl ?_
    refine EV.if_eq (tgt := 35) dX10_piece_13 (by decide) (fun q5 => ?_) (fun q5 => ?_)
    · have hf := pv_gp hf q5
      refine EV.weak (L2 := [some (.inr (.inr (0))), some (.inl (a1))]) (And.intro rfl (And.intro rfl trivial)) ?_
      exact tX10_piece_35 hd    hf
    · have hf := pv_gn hf q5
      refine EV.iload_n dX10_piece_16 rfl rfl ?_
      refine EV.aload_n dX10_piece_17 rfl rfl ?_
      refine FV.getF (v := 2) dX10_piece_18 sm_0 fl_10_17 rfl rfl hvm_0_2 ?_
      refine EV.sipush dX10_piece_21 (by decide) (by decide) ?_
      refine FV.iald dX10_piece_24 sm_2 (by decide) (by decide) (j := 1127) rfl ?_
      refine EV.icmp_lt (tgt := 35) dX10_piece_25 (by decide) (fun q6 => ?_) (fun q6 => ?_)
      · have hf := pv_gp hf q6
        refine EV.weak (L2 := [some (.inr (.inr (0))), some (.inl (a1))]) (And.intro rfl (And.intro rfl trivial)) ?_
        exact tX10_piece_35 hd    hf
      · have hf := pv_gn hf q6
        refine EV.weak (L2 := [some (.inr (.inr (0))), none]) (And.intro rfl trivial) ?_
        exact tX10_piece_28 hd    hf

noncomputable def fX10_wave_40 (N : Nat)  (a1 : Int) (a2 : Int)  (h : pv_H) : Option (pv_H × Int) :=
  pv_c2b (fX10_no N (-2) h) fun h8 r9 => some (h8, r9)

noncomputable def fX10_wave_28 (N : Nat)  (a1 : Int) (a2 : Int)  (h : pv_H) : Option (pv_H × Int) :=
  pv_c1 (fX10_within N a2 0 5 h) fun r11 => if r11 = 0 then (fX10_wave_40 N  a1 a2  h) else (pv_c1 (fX10_isKept N  h) fun r14 => if r14 = 0 then (pv_c2b (fX10_no N (-5) h) fun h18 r19 => some (h18, r19)) else (if 0 ≤ pv_w ((pv_w (1435 + (pv_w (200 * a2)))) + a1) ∧ pv_w ((pv_w (1435 + (pv_w (200 * a2)))) + a1) < 9159 then (some (h, h 2 (Int.toNat (pv_w ((pv_w (1435 + (pv_w (200 * a2)))) + a1))))) else none))

noncomputable def fX10_wave (N : Nat) (a1 : Int) (a2 : Int) (h : pv_H) : Option (pv_H × Int) :=
  pv_b (pv_up h 0 0 0) fun h1 => if a1 < 0 then (fX10_wave_40 N  a1 a2  h1) else (pv_c1 (fX10_isKept N  h1) fun r4 => if r4 = 0 then (fX10_wave_28 N  a1 a2  h1) else (if (h1 2 1128) ≤ a1 then (fX10_wave_40 N  a1 a2  h1) else (fX10_wave_28 N  a1 a2  h1)))

set_option maxHeartbeats 4000000 in
set_option maxRecDepth 20000 in
theorem tX10_wave_40 {d N : Nat}  {a1 : Int} {a2 : Int}  {h h' : pv_H} {r : Int} (hd : 2 ≤ d)    (hf : fX10_wave_40 N  a1 a2  h = some (h', r)) : EV RX10 cX10_wave 3 (some .int) false d pv_SM (MM h') (some (.inl r)) 40 [some (.inr (.inr (0))), none, none] [] pv_SM (MM h) := by
  unfold fX10_wave_40 at hf
  refine EV.aload_n dX10_wave_40 rfl rfl ?_
  refine EV.bipush dX10_wave_41 (by decide) (by decide) ?_
  obtain ⟨h8, r9, hc7, hf⟩ := pv_c2o hf
  refine EV.invV (As := [.inl (-2)]) (st := []) (d1 := d - 1) (sh1 := pv_SM) (h1 := MM h8) (r1 := (some (.inl r9))) dX10_wave_43 sm_0 (by decide) md_X10_no ml_X10_131 im_X10_no se_X10_no (tX10_no (by omega)  hc7) (by omega) rfl rfl (Nat.le_of_ble_eq_true rfl) ⟨[], (List.append_nil _).symm⟩ ?_
  refine EV.eqS (st2 := [.inl (r9)]) rfl ?_
  exact FV.iret dX10_wave_46 hf

set_option maxHeartbeats 4000000 in
set_option maxRecDepth 20000 in
theorem tX10_wave_28 {d N : Nat}  {a1 : Int} {a2 : Int}  {h h' : pv_H} {r : Int} (hd : 2 ≤ d)    (hf : fX10_wave_28 N  a1 a2  h = some (h', r)) : EV RX10 cX10_wave 3 (some .int) false d pv_SM (MM h') (some (.inl r)) 28 [some (.inr (.inr (0))), some (.inl (a1)), some (.inl (a2))] [] pv_SM (MM h) := by
  unfold fX10_wave_28 at hf
  refine EV.iload_n dX10_wave_28 rfl rfl ?_
  refine EV.i2l dX10_wave_29 ?_
  refine EV.lconst (x := 0) dX10_wave_30 (by decide) (by decide) (by decide) ?_
  refine EV.ldc2 (n := 5) dX10_wave_31 kl_X10_407 (by decide) (by decide) ?_
  obtain ⟨r11, hc10, hf⟩ := pv_c1o hf
  refine EV.invS (As := [.inr (.inl (a2)), .inr (.inl (0)), .inr (.inl (5))]) (st := []) (d1 := d - 1) (sh1 := pv_SM) (h1 := MM h) (r1 := (some (.inl r11))) dX10_wave_34 md_X10_within ml_X10_193 st_X10_within (tX10_within (by omega)  hc10) (by omega) rfl rfl (Nat.le_of_ble_eq_true rfl) ⟨[], (List.append_nil _).symm⟩ ?_
  refine EV.eqS (st2 := [.inl (r11)]) rfl ?_
  refine EV.if_ne (tgt := 47) dX10_wave_37 (by decide) (fun q12 => ?_) (fun q12 => ?_)
  · have hf := pv_gn hf q12
    refine EV.aload_n dX10_wave_47 rfl rfl ?_
    obtain ⟨r14, hc13, hf⟩ := pv_c1o hf
    refine EV.invV (As := []) (st := []) (d1 := d - 1) (sh1 := pv_SM) (h1 := MM h) (r1 := (some (.inl r14))) dX10_wave_48 sm_0 (by decide) md_X10_isKept ml_X10_404 im_X10_isKept se_X10_isKept (tX10_isKept (by omega)  hc13) (by omega) rfl rfl (Nat.le_of_ble_eq_true rfl) ⟨[], (List.append_nil _).symm⟩ ?_
    refine EV.eqS (st2 := [.inl (r14)]) rfl ?_
    refine EV.if_ne (tgt := 61) dX10_wave_51 (by decide) (fun q15 => ?_) (fun q15 => ?_)
    · have hf := pv_gn hf q15
      refine EV.aload_n dX10_wave_61 rfl rfl ?_
      refine FV.getF (v := 2) dX10_wave_62 sm_0 fl_10_17 rfl rfl hvm_0_2 ?_
      refine EV.sipush dX10_wave_65 (by decide) (by decide) ?_
      refine EV.sipush dX10_wave_68 (by decide) (by decide) ?_
      refine EV.iload_n dX10_wave_71 rfl rfl ?_
      refine EV.imul dX10_wave_72 ?_
      refine EV.iadd dX10_wave_73 ?_
      refine EV.iload_n dX10_wave_74 rfl rfl ?_
      refine EV.iadd dX10_wave_75 ?_
      obtain ⟨g16, hf⟩ := pv_gd hf
      refine FV.iald dX10_wave_76 sm_2 g16.1 g16.2 (j := (Int.toNat (pv_w ((pv_w (1435 + (pv_w (200 * a2)))) + a1)))) rfl ?_
      exact FV.iret dX10_wave_77 hf
    · have hf := pv_gp hf q15
      refine EV.aload_n dX10_wave_54 rfl rfl ?_
      refine EV.bipush dX10_wave_55 (by decide) (by decide) ?_
      obtain ⟨h18, r19, hc17, hf⟩ := pv_c2o hf
      refine EV.invV (As := [.inl (-5)]) (st := []) (d1 := d - 1) (sh1 := pv_SM) (h1 := MM h18) (r1 := (some (.inl r19))) dX10_wave_57 sm_0 (by decide) md_X10_no ml_X10_131 im_X10_no se_X10_no (tX10_no (by omega)  hc17) (by omega) rfl rfl (Nat.le_of_ble_eq_true rfl) ⟨[], (List.append_nil _).symm⟩ ?_
      refine EV.eqS (st2 := [.inl (r19)]) rfl ?_
      exact FV.iret dX10_wave_60 hf
  · have hf := pv_gp hf q12
    refine EV.weak (L2 := [some (.inr (.inr (0))), none, none]) (And.intro rfl trivial) ?_
    exact tX10_wave_40 hd    hf

set_option maxHeartbeats 4000000 in
set_option maxRecDepth 20000 in
theorem tX10_wave {d N : Nat} {a1 : Int} {a2 : Int} {h h' : pv_H} {r : Int} (hd : 2 ≤ d)  (hf : fX10_wave N a1 a2 h = some (h', r)) : CALL yX10_wave cX10_wave 3 (some .int) d pv_SM (MM h) [.inr (.inr (0)), .inl (a1), .inl (a2)] pv_SM (MM h') (some (.inl r)) := by
  unfold fX10_wave at hf
  refine EV.call (own := RX10) (ini := false) rfl rfl (fun q => by cases q) ⟨[], (List.append_nil _).symm⟩ (Nat.le_of_ble_eq_true rfl) ?_
  refine EV.eqL (L2 := [some (.inr (.inr (0))), some (.inl (a1)), some (.inl (a2))]) rfl ?_
  refine EV.aload_n dX10_wave_0 rfl rfl ?_
  refine EV.iconst dX10_wave_1 (by decide) (by decide) ?_
  obtain ⟨h1, eh1, hf⟩ := pv_bo hf
  refine FV.putI dX10_wave_2 sm_0 fl_10_1 rfl rfl eh1 ?_
  refine EV.iload_n dX10_wave_5 rfl rfl ?_
  refine EV.if_lt (tgt := 40) dX10_wave_6 (by decide) (fun q2 => ?_) (fun q2 => ?_)
  · have hf := pv_gp hf q2
    refine EV.weak (L2 := [some (.inr (.inr (0))), none, none]) (And.intro rfl trivial) ?_
    exact tX10_wave_40 hd    hf
  · have hf := pv_gn hf q2
    refine EV.aload_n dX10_wave_9 rfl rfl ?_
    obtain ⟨r4, hc3, hf⟩ := pv_c1o hf
    refine EV.invV (As := []) (st := []) (d1 := d - 1) (sh1 := pv_SM) (h1 := MM h1) (r1 := (some (.inl r4))) dX10_wave_10 sm_0 (by decide) md_X10_isKept ml_X10_404 im_X10_isKept se_X10_isKept (tX10_isKept (by omega)  hc3) (by omega) rfl rfl (Nat.le_of_ble_eq_true rfl) ⟨[], (List.append_nil _).symm⟩ ?_
    refine EV.eqS (st2 := [.inl (r4)]) rfl ?_
    refine EV.if_eq (tgt := 28) dX10_wave_13 (by decide) (fun q5 => ?_) (fun q5 => ?_)
    · have hf := pv_gp hf q5
      refine EV.weak (L2 := [some (.inr (.inr (0))), some (.inl (a1)), some (.inl (a2))]) (And.intro rfl (And.intro rfl (And.intro rfl trivial))) ?_
      exact tX10_wave_28 hd    hf
    · have hf := pv_gn hf q5
      refine EV.iload_n dX10_wave_16 rfl rfl ?_
      refine EV.aload_n dX10_wave_17 rfl rfl ?_
      refine FV.getF (v := 2) dX10_wave_18 sm_0 fl_10_17 rfl rfl hvm_0_2 ?_
      refine EV.sipush dX10_wave_21 (by decide) (by decide) ?_
      refine FV.iald dX10_wave_24 sm_2 (by decide) (by decide) (j := 1128) rfl ?_
      refine EV.icmp_ge (tgt := 40) dX10_wave_25 (by decide) (fun q6 => ?_) (fun q6 => ?_)
      · have hf := pv_gp hf q6
        refine EV.weak (L2 := [some (.inr (.inr (0))), none, none]) (And.intro rfl trivial) ?_
        exact tX10_wave_40 hd    hf
      · have hf := pv_gn hf q6
        refine EV.weak (L2 := [some (.inr (.inr (0))), some (.inl (a1)), some (.inl (a2))]) (And.intro rfl (And.intro rfl (And.intro rfl trivial))) ?_
        exact tX10_wave_28 hd    hf

noncomputable def fX10_run (N : Nat) (a1 : Int) (h : pv_H) : Option (pv_H × Int) :=
  pv_b (pv_up h 0 0 0) fun h1 => pv_c1 (fX10_within N a1 0 7 h1) fun r3 => if r3 = 0 then (pv_c2b (fX10_no N (-2) h1) fun h13 r14 => some (h13, r14)) else (pv_c1 (fX10_isKept N  h1) fun r6 => if r6 = 0 then (pv_c2b (fX10_no N (-5) h1) fun h10 r11 => some (h10, r11)) else (if 0 ≤ pv_w (1126 + a1) ∧ pv_w (1126 + a1) < 9159 then (some (h1, h1 2 (Int.toNat (pv_w (1126 + a1))))) else none))

set_option maxHeartbeats 4000000 in
set_option maxRecDepth 20000 in
theorem tX10_run {d N : Nat} {a1 : Int} {h h' : pv_H} {r : Int} (hd : 2 ≤ d)  (hf : fX10_run N a1 h = some (h', r)) : CALL yX10_run cX10_run 2 (some .int) d pv_SM (MM h) [.inr (.inr (0)), .inl (a1)] pv_SM (MM h') (some (.inl r)) := by
  unfold fX10_run at hf
  refine EV.call (own := RX10) (ini := false) rfl rfl (fun q => by cases q) ⟨[], (List.append_nil _).symm⟩ (Nat.le_of_ble_eq_true rfl) ?_
  refine EV.eqL (L2 := [some (.inr (.inr (0))), some (.inl (a1))]) rfl ?_
  refine EV.aload_n dX10_run_0 rfl rfl ?_
  refine EV.iconst dX10_run_1 (by decide) (by decide) ?_
  obtain ⟨h1, eh1, hf⟩ := pv_bo hf
  refine FV.putI dX10_run_2 sm_0 fl_10_1 rfl rfl eh1 ?_
  refine EV.iload_n dX10_run_5 rfl rfl ?_
  refine EV.i2l dX10_run_6 ?_
  refine EV.lconst (x := 0) dX10_run_7 (by decide) (by decide) (by decide) ?_
  refine EV.ldc2 (n := 7) dX10_run_8 kl_X10_409 (by decide) (by decide) ?_
  obtain ⟨r3, hc2, hf⟩ := pv_c1o hf
  refine EV.invS (As := [.inr (.inl (a1)), .inr (.inl (0)), .inr (.inl (7))]) (st := []) (d1 := d - 1) (sh1 := pv_SM) (h1 := MM h1) (r1 := (some (.inl r3))) dX10_run_11 md_X10_within ml_X10_193 st_X10_within (tX10_within (by omega)  hc2) (by omega) rfl rfl (Nat.le_of_ble_eq_true rfl) ⟨[], (List.append_nil _).symm⟩ ?_
  refine EV.eqS (st2 := [.inl (r3)]) rfl ?_
  refine EV.if_ne (tgt := 24) dX10_run_14 (by decide) (fun q4 => ?_) (fun q4 => ?_)
  · have hf := pv_gn hf q4
    refine EV.aload_n dX10_run_24 rfl rfl ?_
    obtain ⟨r6, hc5, hf⟩ := pv_c1o hf
    refine EV.invV (As := []) (st := []) (d1 := d - 1) (sh1 := pv_SM) (h1 := MM h1) (r1 := (some (.inl r6))) dX10_run_25 sm_0 (by decide) md_X10_isKept ml_X10_404 im_X10_isKept se_X10_isKept (tX10_isKept (by omega)  hc5) (by omega) rfl rfl (Nat.le_of_ble_eq_true rfl) ⟨[], (List.append_nil _).symm⟩ ?_
    refine EV.eqS (st2 := [.inl (r6)]) rfl ?_
    refine EV.if_ne (tgt := 38) dX10_run_28 (by decide) (fun q7 => ?_) (fun q7 => ?_)
    · have hf := pv_gn hf q7
      refine EV.aload_n dX10_run_38 rfl rfl ?_
      refine FV.getF (v := 2) dX10_run_39 sm_0 fl_10_17 rfl rfl hvm_0_2 ?_
      refine EV.sipush dX10_run_42 (by decide) (by decide) ?_
      refine EV.iload_n dX10_run_45 rfl rfl ?_
      refine EV.iadd dX10_run_46 ?_
      obtain ⟨g8, hf⟩ := pv_gd hf
      refine FV.iald dX10_run_47 sm_2 g8.1 g8.2 (j := (Int.toNat (pv_w (1126 + a1)))) rfl ?_
      exact FV.iret dX10_run_48 hf
    · have hf := pv_gp hf q7
      refine EV.aload_n dX10_run_31 rfl rfl ?_
      refine EV.bipush dX10_run_32 (by decide) (by decide) ?_
      obtain ⟨h10, r11, hc9, hf⟩ := pv_c2o hf
      refine EV.invV (As := [.inl (-5)]) (st := []) (d1 := d - 1) (sh1 := pv_SM) (h1 := MM h10) (r1 := (some (.inl r11))) dX10_run_34 sm_0 (by decide) md_X10_no ml_X10_131 im_X10_no se_X10_no (tX10_no (by omega)  hc9) (by omega) rfl rfl (Nat.le_of_ble_eq_true rfl) ⟨[], (List.append_nil _).symm⟩ ?_
      refine EV.eqS (st2 := [.inl (r11)]) rfl ?_
      exact FV.iret dX10_run_37 hf
  · have hf := pv_gp hf q4
    refine EV.aload_n dX10_run_17 rfl rfl ?_
    refine EV.bipush dX10_run_18 (by decide) (by decide) ?_
    obtain ⟨h13, r14, hc12, hf⟩ := pv_c2o hf
    refine EV.invV (As := [.inl (-2)]) (st := []) (d1 := d - 1) (sh1 := pv_SM) (h1 := MM h13) (r1 := (some (.inl r14))) dX10_run_20 sm_0 (by decide) md_X10_no ml_X10_131 im_X10_no se_X10_no (tX10_no (by omega)  hc12) (by omega) rfl rfl (Nat.le_of_ble_eq_true rfl) ⟨[], (List.append_nil _).symm⟩ ?_
    refine EV.eqS (st2 := [.inl (r14)]) rfl ?_
    exact FV.iret dX10_run_23 hf

noncomputable def fX10_why (N : Nat)  (h : pv_H) : Option (pv_H × Int) :=
  pv_b (pv_up h 0 0 0) fun h1 => pv_c1 (fX10_isKept N  h1) fun r3 => if r3 = 0 then (pv_c2b (fX10_no N (-5) h1) fun h6 r7 => some (h6, r7)) else (some (h1, h1 2 2635))

set_option maxHeartbeats 4000000 in
set_option maxRecDepth 20000 in
theorem tX10_why {d N : Nat}  {h h' : pv_H} {r : Int} (hd : 2 ≤ d)  (hf : fX10_why N  h = some (h', r)) : CALL yX10_why cX10_why 1 (some .int) d pv_SM (MM h) [.inr (.inr (0))] pv_SM (MM h') (some (.inl r)) := by
  unfold fX10_why at hf
  refine EV.call (own := RX10) (ini := false) rfl rfl (fun q => by cases q) ⟨[], (List.append_nil _).symm⟩ (Nat.le_of_ble_eq_true rfl) ?_
  refine EV.eqL (L2 := [some (.inr (.inr (0)))]) rfl ?_
  refine EV.aload_n dX10_why_0 rfl rfl ?_
  refine EV.iconst dX10_why_1 (by decide) (by decide) ?_
  obtain ⟨h1, eh1, hf⟩ := pv_bo hf
  refine FV.putI dX10_why_2 sm_0 fl_10_1 rfl rfl eh1 ?_
  refine EV.aload_n dX10_why_5 rfl rfl ?_
  obtain ⟨r3, hc2, hf⟩ := pv_c1o hf
  refine EV.invV (As := []) (st := []) (d1 := d - 1) (sh1 := pv_SM) (h1 := MM h1) (r1 := (some (.inl r3))) dX10_why_6 sm_0 (by decide) md_X10_isKept ml_X10_404 im_X10_isKept se_X10_isKept (tX10_isKept (by omega)  hc2) (by omega) rfl rfl (Nat.le_of_ble_eq_true rfl) ⟨[], (List.append_nil _).symm⟩ ?_
  refine EV.eqS (st2 := [.inl (r3)]) rfl ?_
  refine EV.if_ne (tgt := 19) dX10_why_9 (by decide) (fun q4 => ?_) (fun q4 => ?_)
  · have hf := pv_gn hf q4
    refine EV.aload_n dX10_why_19 rfl rfl ?_
    refine FV.getF (v := 2) dX10_why_20 sm_0 fl_10_17 rfl rfl hvm_0_2 ?_
    refine EV.sipush dX10_why_23 (by decide) (by decide) ?_
    refine FV.iald dX10_why_26 sm_2 (by decide) (by decide) (j := 2635) rfl ?_
    exact FV.iret dX10_why_27 hf
  · have hf := pv_gp hf q4
    refine EV.aload_n dX10_why_12 rfl rfl ?_
    refine EV.bipush dX10_why_13 (by decide) (by decide) ?_
    obtain ⟨h6, r7, hc5, hf⟩ := pv_c2o hf
    refine EV.invV (As := [.inl (-5)]) (st := []) (d1 := d - 1) (sh1 := pv_SM) (h1 := MM h6) (r1 := (some (.inl r7))) dX10_why_15 sm_0 (by decide) md_X10_no ml_X10_131 im_X10_no se_X10_no (tX10_no (by omega)  hc5) (by omega) rfl rfl (Nat.le_of_ble_eq_true rfl) ⟨[], (List.append_nil _).symm⟩ ?_
    refine EV.eqS (st2 := [.inl (r7)]) rfl ?_
    exact FV.iret dX10_why_18 hf

noncomputable def fX10_film_169 (N : Nat)  (a1 : Int) (s0 : Int) (h : pv_H) : Option (pv_H × Int) :=
  some (h, s0)

noncomputable def fX10_film_160 (N : Nat)  (a1 : Int) (v3 : Int) (h : pv_H) : Option (pv_H × Int) :=
  if v3 = 0 then (fX10_film_169 N  a1 (0) h) else (fX10_film_169 N  a1 (1) h)

noncomputable def fX10_film_153 (N : Nat) (k110 : Int → Int → Int → pv_H → Option (pv_H × Int)) (a1 : Int) (v2 : Int) (v4 : Int) (s0 : Int) (h : pv_H) : Option (pv_H × Int) :=
  pv_b (pv_w (v4 + 1)) fun x31 => k110 (v2) (s0) (x31) h

noncomputable def fX10_film_110 (N : Nat)  (a1 : Int) : Nat → Int → Int → Int → pv_H → Option (pv_H × Int)
  | 0, _, _, _, _ => none
  | n + 1, v2, v3, v4, h => if v2 ≤ v4 then (fX10_film_160 N  a1 (v3) h) else (if v3 = 0 then (fX10_film_160 N  a1 (v3) h) else (if 0 ≤ pv_w ((pv_w (60 * a1)) + v4) ∧ pv_w ((pv_w (60 * a1)) + v4) < 240 then (if 0 ≤ pv_w (1194 + v4) ∧ pv_w (1194 + v4) < 9159 then (if (pv_cmp (h 35 (Int.toNat (pv_w ((pv_w (60 * a1)) + v4)))) (h 2 (Int.toNat (pv_w (1194 + v4))))) = 0 then (fX10_film_153 N (fun v2_ v3_ v4_ hh => fX10_film_110 N  a1 n v2_ v3_ v4_ hh) a1 (v2) (v4) (1) h) else (fX10_film_153 N (fun v2_ v3_ v4_ hh => fX10_film_110 N  a1 n v2_ v3_ v4_ hh) a1 (v2) (v4) (0) h)) else none) else none))

noncomputable def fX10_film_106 (N : Nat)  (a1 : Int) (v2 : Int) (s0 : Int) (h : pv_H) : Option (pv_H × Int) :=
  fX10_film_110 N  a1 N (v2) (s0) (0) h

noncomputable def fX10_film_89 (N : Nat)  (a1 : Int) (v2 : Int) (h : pv_H) : Option (pv_H × Int) :=
  if v2 = (h 2 1126) then (fX10_film_106 N  a1 (v2) (1) h) else (fX10_film_106 N  a1 (v2) (0) h)

noncomputable def fX10_film_57 (N : Nat)  (a1 : Int) : Nat → Int → pv_H → Option (pv_H × Int)
  | 0, _, _ => none
  | n + 1, v2, h => if 0 ≤ a1 ∧ a1 < 4 then (if (h 34 (Int.toNat (a1))) ≤ v2 then (fX10_film_89 N  a1 (v2) h) else (if 0 ≤ pv_w ((pv_w (60 * a1)) + v2) ∧ pv_w ((pv_w (60 * a1)) + v2) < 240 then (if (pv_cmp (h 35 (Int.toNat (pv_w ((pv_w (60 * a1)) + v2)))) 0) < 0 then (fX10_film_89 N  a1 (v2) h) else (pv_b (pv_w (v2 + 1)) fun x23 => fX10_film_57 N  a1 n (x23) h)) else none)) else none

noncomputable def fX10_film (N : Nat) (a1 : Int) (h : pv_H) : Option (pv_H × Int) :=
  pv_b (pv_up h 0 0 0) fun h1 => pv_c1 (fX10_within N a1 0 3 h1) fun r3 => if r3 = 0 then (pv_c2b (fX10_no N (-2) h1) fun h17 r18 => some (h17, r18)) else (pv_c1 (fX10_isKept N  h1) fun r6 => if r6 = 0 then (pv_c2b (fX10_no N (-5) h1) fun h14 r15 => some (h14, r15)) else (if 0 ≤ a1 ∧ a1 < 4 then (if (h1 33 (Int.toNat (a1))) = (-1) then (pv_c2b (fX10_no N (-6) h1) fun h11 r12 => some (h11, r12)) else (fX10_film_57 N  a1 N (0) h1)) else none))

set_option maxHeartbeats 4000000 in
set_option maxRecDepth 20000 in
theorem tX10_film_169 {d N : Nat}  {a1 : Int} {s0 : Int} {h h' : pv_H} {r : Int} (hd : 2 ≤ d)    (hf : fX10_film_169 N  a1 s0 h = some (h', r)) : EV RX10 cX10_film 5 (some .int) false d pv_SM (MM h') (some (.inl r)) 169 [none, none, none, none, none] [.inl (s0)] pv_SM (MM h) := by
  unfold fX10_film_169 at hf
  exact FV.iret dX10_film_169 hf

set_option maxHeartbeats 4000000 in
set_option maxRecDepth 20000 in
theorem tX10_film_160 {d N : Nat}  {a1 : Int} {v3 : Int} {h h' : pv_H} {r : Int} (hd : 2 ≤ d)    (hf : fX10_film_160 N  a1 v3 h = some (h', r)) : EV RX10 cX10_film 5 (some .int) false d pv_SM (MM h') (some (.inl r)) 160 [none, none, none, some (.inl (v3)), none] [] pv_SM (MM h) := by
  unfold fX10_film_160 at hf
  refine EV.iload_n dX10_film_160 rfl rfl ?_
  refine EV.if_eq (tgt := 168) dX10_film_161 (by decide) (fun q30 => ?_) (fun q30 => ?_)
  · have hf := pv_gp hf q30
    refine EV.iconst dX10_film_168 (by decide) (by decide) ?_
    refine EV.weak (L2 := [none, none, none, none, none]) trivial ?_
    exact tX10_film_169 hd    hf
  · have hf := pv_gn hf q30
    refine EV.iconst dX10_film_164 (by decide) (by decide) ?_
    refine EV.goto (tgt := 169) dX10_film_165 (by decide) ?_
    refine EV.weak (L2 := [none, none, none, none, none]) trivial ?_
    exact tX10_film_169 hd    hf

set_option maxHeartbeats 4000000 in
set_option maxRecDepth 20000 in
theorem tX10_film_153 {d N : Nat} {k110 : Int → Int → Int → pv_H → Option (pv_H × Int)} {a1 : Int} {v2 : Int} {v4 : Int} {s0 : Int} {h h' : pv_H} {r : Int} (hd : 2 ≤ d) (hk110 : ∀ (v2 : Int) (v3 : Int) (v4 : Int)  (hh : pv_H), k110 v2 v3 v4 hh = some (h', r) → EV RX10 cX10_film 5 (some .int) false d pv_SM (MM h') (some (.inl r)) 110 [some (.inr (.inr (0))), some (.inl (a1)), some (.inl (v2)), some (.inl (v3)), some (.inl (v4))] [] pv_SM (MM hh))   (hf : fX10_film_153 N k110 a1 v2 v4 s0 h = some (h', r)) : EV RX10 cX10_film 5 (some .int) false d pv_SM (MM h') (some (.inl r)) 153 [some (.inr (.inr (0))), some (.inl (a1)), some (.inl (v2)), none, some (.inl (v4))] [.inl (s0)] pv_SM (MM h) := by
  unfold fX10_film_153 at hf
  refine FV.sti (L2 := [some (.inr (.inr (0))), some (.inl (a1)), some (.inl (v2)), some (.inl (s0)), some (.inl (v4))]) dX10_film_153 rfl (Nat.le_of_ble_eq_true rfl) rfl rfl ?_
  obtain ⟨x31, ex31, hf⟩ := pv_bo hf
  refine FV.inc (L2 := [some (.inr (.inr (0))), some (.inl (a1)), some (.inl (v2)), some (.inl (s0)), some (.inl (x31))]) dX10_film_154 rfl (Nat.le_of_ble_eq_true rfl) ex31 rfl ?_
  refine EV.goto (tgt := 110) dX10_film_157 (by decide) ?_
  refine EV.weak (L2 := [some (.inr (.inr (0))), some (.inl (a1)), some (.inl (v2)), some (.inl (s0)), some (.inl (x31))]) (And.intro rfl (And.intro rfl (And.intro rfl (And.intro rfl (And.intro rfl trivial))))) ?_
  exact hk110 _ _ _  _ hf

set_option maxHeartbeats 4000000 in
set_option maxRecDepth 20000 in
theorem tX10_film_110 {d N : Nat}  {a1 : Int} {h' : pv_H} {r : Int} (hd : 2 ≤ d)   : ∀ (n : Nat) (v2 : Int) (v3 : Int) (v4 : Int)  (h : pv_H), fX10_film_110 N  a1 n v2 v3 v4 h = some (h', r) → EV RX10 cX10_film 5 (some .int) false d pv_SM (MM h') (some (.inl r)) 110 [some (.inr (.inr (0))), some (.inl (a1)), some (.inl (v2)), some (.inl (v3)), some (.inl (v4))] [] pv_SM (MM h) := by
  intro n
  induction n with
  | zero =>
    intro v2 v3 v4  h hf
    cases hf
  | succ n ih =>
    intro v2 v3 v4  h hf
    rw [fX10_film_110] at hf
    refine EV.iload dX10_film_110 rfl ?_
    refine EV.iload_n dX10_film_112 rfl rfl ?_
    refine EV.icmp_ge (tgt := 160) dX10_film_113 (by decide) (fun q25 => ?_) (fun q25 => ?_)
    · have hf := pv_gp hf q25
      refine EV.weak (L2 := [none, none, none, some (.inl (v3)), none]) (And.intro rfl trivial) ?_
      exact tX10_film_160 hd    hf
    · have hf := pv_gn hf q25
      refine EV.iload_n dX10_film_116 rfl rfl ?_
      refine EV.if_eq (tgt := 160) dX10_film_117 (by decide) (fun q26 => ?_) (fun q26 => ?_)
      · have hf := pv_gp hf q26
        refine EV.weak (L2 := [none, none, none, some (.inl (v3)), none]) (And.intro rfl trivial) ?_
        exact tX10_film_160 hd    hf
      · have hf := pv_gn hf q26
        refine EV.aload_n dX10_film_120 rfl rfl ?_
        refine FV.getF (v := 35) dX10_film_121 sm_0 fl_10_120 rfl rfl hvm_0_65 ?_
        refine EV.bipush dX10_film_124 (by decide) (by decide) ?_
        refine EV.iload_n dX10_film_126 rfl rfl ?_
        refine EV.imul dX10_film_127 ?_
        refine EV.iload dX10_film_128 rfl ?_
        refine EV.iadd dX10_film_130 ?_
        obtain ⟨g27, hf⟩ := pv_gd hf
        refine FV.lald dX10_film_131 sm_35 g27.1 g27.2 (j := (Int.toNat (pv_w ((pv_w (60 * a1)) + v4)))) rfl ?_
        refine EV.aload_n dX10_film_132 rfl rfl ?_
        refine FV.getF (v := 2) dX10_film_133 sm_0 fl_10_17 rfl rfl hvm_0_2 ?_
        refine EV.sipush dX10_film_136 (by decide) (by decide) ?_
        refine EV.iload dX10_film_139 rfl ?_
        refine EV.iadd dX10_film_141 ?_
        obtain ⟨g28, hf⟩ := pv_gd hf
        refine FV.iald dX10_film_142 sm_2 g28.1 g28.2 (j := (Int.toNat (pv_w (1194 + v4)))) rfl ?_
        refine EV.i2l dX10_film_143 ?_
        refine EV.lcmp dX10_film_144 ?_
        refine EV.if_ne (tgt := 152) dX10_film_145 (by decide) (fun q29 => ?_) (fun q29 => ?_)
        · have hf := pv_gn hf q29
          refine EV.iconst dX10_film_152 (by decide) (by decide) ?_
          refine EV.weak (L2 := [some (.inr (.inr (0))), some (.inl (a1)), some (.inl (v2)), none, some (.inl (v4))]) (And.intro rfl (And.intro rfl (And.intro rfl (And.intro rfl trivial)))) ?_
          exact tX10_film_153 hd (ih)   hf
        · have hf := pv_gp hf q29
          refine EV.iconst dX10_film_148 (by decide) (by decide) ?_
          refine EV.goto (tgt := 153) dX10_film_149 (by decide) ?_
          refine EV.weak (L2 := [some (.inr (.inr (0))), some (.inl (a1)), some (.inl (v2)), none, some (.inl (v4))]) (And.intro rfl (And.intro rfl (And.intro rfl (And.intro rfl trivial)))) ?_
          exact tX10_film_153 hd (ih)   hf

set_option maxHeartbeats 4000000 in
set_option maxRecDepth 20000 in
theorem tX10_film_106 {d N : Nat}  {a1 : Int} {v2 : Int} {s0 : Int} {h h' : pv_H} {r : Int} (hd : 2 ≤ d)    (hf : fX10_film_106 N  a1 v2 s0 h = some (h', r)) : EV RX10 cX10_film 5 (some .int) false d pv_SM (MM h') (some (.inl r)) 106 [some (.inr (.inr (0))), some (.inl (a1)), some (.inl (v2)), none, none] [.inl (s0)] pv_SM (MM h) := by
  unfold fX10_film_106 at hf
  refine FV.sti (L2 := [some (.inr (.inr (0))), some (.inl (a1)), some (.inl (v2)), some (.inl (s0)), none]) dX10_film_106 rfl (Nat.le_of_ble_eq_true rfl) rfl rfl ?_
  refine EV.iconst dX10_film_107 (by decide) (by decide) ?_
  refine FV.stiw (L2 := [some (.inr (.inr (0))), some (.inl (a1)), some (.inl (v2)), some (.inl (s0)), some (.inl (0))]) dX10_film_108 (Nat.le_of_ble_eq_true rfl) rfl rfl ?_
  refine EV.weak (L2 := [some (.inr (.inr (0))), some (.inl (a1)), some (.inl (v2)), some (.inl (s0)), some (.inl (0))]) (And.intro rfl (And.intro rfl (And.intro rfl (And.intro rfl (And.intro rfl trivial))))) ?_
  exact tX10_film_110 hd   _ _ _ _  _ hf

set_option maxHeartbeats 4000000 in
set_option maxRecDepth 20000 in
theorem tX10_film_89 {d N : Nat}  {a1 : Int} {v2 : Int} {h h' : pv_H} {r : Int} (hd : 2 ≤ d)    (hf : fX10_film_89 N  a1 v2 h = some (h', r)) : EV RX10 cX10_film 5 (some .int) false d pv_SM (MM h') (some (.inl r)) 89 [some (.inr (.inr (0))), some (.inl (a1)), some (.inl (v2)), none, none] [] pv_SM (MM h) := by
  unfold fX10_film_89 at hf
  refine EV.iload_n dX10_film_89 rfl rfl ?_
  refine EV.aload_n dX10_film_90 rfl rfl ?_
  refine FV.getF (v := 2) dX10_film_91 sm_0 fl_10_17 rfl rfl hvm_0_2 ?_
  refine EV.sipush dX10_film_94 (by decide) (by decide) ?_
  refine FV.iald dX10_film_97 sm_2 (by decide) (by decide) (j := 1126) rfl ?_
  refine EV.icmp_ne (tgt := 105) dX10_film_98 (by decide) (fun q24 => ?_) (fun q24 => ?_)
  · have hf := pv_gn hf q24
    refine EV.iconst dX10_film_105 (by decide) (by decide) ?_
    refine EV.weak (L2 := [some (.inr (.inr (0))), some (.inl (a1)), some (.inl (v2)), none, none]) (And.intro rfl (And.intro rfl (And.intro rfl trivial))) ?_
    exact tX10_film_106 hd    hf
  · have hf := pv_gp hf q24
    refine EV.iconst dX10_film_101 (by decide) (by decide) ?_
    refine EV.goto (tgt := 106) dX10_film_102 (by decide) ?_
    refine EV.weak (L2 := [some (.inr (.inr (0))), some (.inl (a1)), some (.inl (v2)), none, none]) (And.intro rfl (And.intro rfl (And.intro rfl trivial))) ?_
    exact tX10_film_106 hd    hf

set_option maxHeartbeats 4000000 in
set_option maxRecDepth 20000 in
theorem tX10_film_57 {d N : Nat}  {a1 : Int} {h' : pv_H} {r : Int} (hd : 2 ≤ d)   : ∀ (n : Nat) (v2 : Int)  (h : pv_H), fX10_film_57 N  a1 n v2 h = some (h', r) → EV RX10 cX10_film 5 (some .int) false d pv_SM (MM h') (some (.inl r)) 57 [some (.inr (.inr (0))), some (.inl (a1)), some (.inl (v2)), none, none] [] pv_SM (MM h) := by
  intro n
  induction n with
  | zero =>
    intro v2  h hf
    cases hf
  | succ n ih =>
    intro v2  h hf
    rw [fX10_film_57] at hf
    refine EV.iload_n dX10_film_57 rfl rfl ?_
    refine EV.aload_n dX10_film_58 rfl rfl ?_
    refine FV.getF (v := 34) dX10_film_59 sm_0 fl_10_117 rfl rfl hvm_0_64 ?_
    refine EV.iload_n dX10_film_62 rfl rfl ?_
    obtain ⟨g19, hf⟩ := pv_gd hf
    refine FV.iald dX10_film_63 sm_34 g19.1 g19.2 (j := (Int.toNat (a1))) rfl ?_
    refine EV.icmp_ge (tgt := 89) dX10_film_64 (by decide) (fun q20 => ?_) (fun q20 => ?_)
    · have hf := pv_gp hf q20
      refine EV.weak (L2 := [some (.inr (.inr (0))), some (.inl (a1)), some (.inl (v2)), none, none]) (And.intro rfl (And.intro rfl (And.intro rfl trivial))) ?_
      exact tX10_film_89 hd    hf
    · have hf := pv_gn hf q20
      refine EV.aload_n dX10_film_67 rfl rfl ?_
      refine FV.getF (v := 35) dX10_film_68 sm_0 fl_10_120 rfl rfl hvm_0_65 ?_
      refine EV.bipush dX10_film_71 (by decide) (by decide) ?_
      refine EV.iload_n dX10_film_73 rfl rfl ?_
      refine EV.imul dX10_film_74 ?_
      refine EV.iload_n dX10_film_75 rfl rfl ?_
      refine EV.iadd dX10_film_76 ?_
      obtain ⟨g21, hf⟩ := pv_gd hf
      refine FV.lald dX10_film_77 sm_35 g21.1 g21.2 (j := (Int.toNat (pv_w ((pv_w (60 * a1)) + v2)))) rfl ?_
      refine EV.lconst (x := 0) dX10_film_78 (by decide) (by decide) (by decide) ?_
      refine EV.lcmp dX10_film_79 ?_
      refine EV.if_lt (tgt := 89) dX10_film_80 (by decide) (fun q22 => ?_) (fun q22 => ?_)
      · have hf := pv_gp hf q22
        refine EV.weak (L2 := [some (.inr (.inr (0))), some (.inl (a1)), some (.inl (v2)), none, none]) (And.intro rfl (And.intro rfl (And.intro rfl trivial))) ?_
        exact tX10_film_89 hd    hf
      · have hf := pv_gn hf q22
        obtain ⟨x23, ex23, hf⟩ := pv_bo hf
        refine FV.inc (L2 := [some (.inr (.inr (0))), some (.inl (a1)), some (.inl (x23)), none, none]) dX10_film_83 rfl (Nat.le_of_ble_eq_true rfl) ex23 rfl ?_
        refine EV.goto (tgt := 57) dX10_film_86 (by decide) ?_
        refine EV.weak (L2 := [some (.inr (.inr (0))), some (.inl (a1)), some (.inl (x23)), none, none]) (And.intro rfl (And.intro rfl (And.intro rfl trivial))) ?_
        exact ih _  _ hf

set_option maxHeartbeats 4000000 in
set_option maxRecDepth 20000 in
theorem tX10_film {d N : Nat} {a1 : Int} {h h' : pv_H} {r : Int} (hd : 2 ≤ d)  (hf : fX10_film N a1 h = some (h', r)) : CALL yX10_film cX10_film 5 (some .int) d pv_SM (MM h) [.inr (.inr (0)), .inl (a1)] pv_SM (MM h') (some (.inl r)) := by
  unfold fX10_film at hf
  refine EV.call (own := RX10) (ini := false) rfl rfl (fun q => by cases q) ⟨[], (List.append_nil _).symm⟩ (Nat.le_of_ble_eq_true rfl) ?_
  refine EV.eqL (L2 := [some (.inr (.inr (0))), some (.inl (a1)), none, none, none]) rfl ?_
  refine EV.aload_n dX10_film_0 rfl rfl ?_
  refine EV.iconst dX10_film_1 (by decide) (by decide) ?_
  obtain ⟨h1, eh1, hf⟩ := pv_bo hf
  refine FV.putI dX10_film_2 sm_0 fl_10_1 rfl rfl eh1 ?_
  refine EV.iload_n dX10_film_5 rfl rfl ?_
  refine EV.i2l dX10_film_6 ?_
  refine EV.lconst (x := 0) dX10_film_7 (by decide) (by decide) (by decide) ?_
  refine EV.ldc2 (n := 3) dX10_film_8 kl_X10_250 (by decide) (by decide) ?_
  obtain ⟨r3, hc2, hf⟩ := pv_c1o hf
  refine EV.invS (As := [.inr (.inl (a1)), .inr (.inl (0)), .inr (.inl (3))]) (st := []) (d1 := d - 1) (sh1 := pv_SM) (h1 := MM h1) (r1 := (some (.inl r3))) dX10_film_11 md_X10_within ml_X10_193 st_X10_within (tX10_within (by omega)  hc2) (by omega) rfl rfl (Nat.le_of_ble_eq_true rfl) ⟨[], (List.append_nil _).symm⟩ ?_
  refine EV.eqS (st2 := [.inl (r3)]) rfl ?_
  refine EV.if_ne (tgt := 24) dX10_film_14 (by decide) (fun q4 => ?_) (fun q4 => ?_)
  · have hf := pv_gn hf q4
    refine EV.aload_n dX10_film_24 rfl rfl ?_
    obtain ⟨r6, hc5, hf⟩ := pv_c1o hf
    refine EV.invV (As := []) (st := []) (d1 := d - 1) (sh1 := pv_SM) (h1 := MM h1) (r1 := (some (.inl r6))) dX10_film_25 sm_0 (by decide) md_X10_isKept ml_X10_404 im_X10_isKept se_X10_isKept (tX10_isKept (by omega)  hc5) (by omega) rfl rfl (Nat.le_of_ble_eq_true rfl) ⟨[], (List.append_nil _).symm⟩ ?_
    refine EV.eqS (st2 := [.inl (r6)]) rfl ?_
    refine EV.if_ne (tgt := 38) dX10_film_28 (by decide) (fun q7 => ?_) (fun q7 => ?_)
    · have hf := pv_gn hf q7
      refine EV.aload_n dX10_film_38 rfl rfl ?_
      refine FV.getF (v := 33) dX10_film_39 sm_0 fl_10_114 rfl rfl hvm_0_63 ?_
      refine EV.iload_n dX10_film_42 rfl rfl ?_
      obtain ⟨g8, hf⟩ := pv_gd hf
      refine FV.iald dX10_film_43 sm_33 g8.1 g8.2 (j := (Int.toNat (a1))) rfl ?_
      refine EV.iconst dX10_film_44 (by decide) (by decide) ?_
      refine EV.icmp_ne (tgt := 55) dX10_film_45 (by decide) (fun q9 => ?_) (fun q9 => ?_)
      · have hf := pv_gn hf q9
        refine EV.iconst dX10_film_55 (by decide) (by decide) ?_
        refine FV.sti (L2 := [some (.inr (.inr (0))), some (.inl (a1)), some (.inl (0)), none, none]) dX10_film_56 rfl (Nat.le_of_ble_eq_true rfl) rfl rfl ?_
        refine EV.weak (L2 := [some (.inr (.inr (0))), some (.inl (a1)), some (.inl (0)), none, none]) (And.intro rfl (And.intro rfl (And.intro rfl trivial))) ?_
        exact tX10_film_57 hd   _ _  _ hf
      · have hf := pv_gp hf q9
        refine EV.aload_n dX10_film_48 rfl rfl ?_
        refine EV.bipush dX10_film_49 (by decide) (by decide) ?_
        obtain ⟨h11, r12, hc10, hf⟩ := pv_c2o hf
        refine EV.invV (As := [.inl (-6)]) (st := []) (d1 := d - 1) (sh1 := pv_SM) (h1 := MM h11) (r1 := (some (.inl r12))) dX10_film_51 sm_0 (by decide) md_X10_no ml_X10_131 im_X10_no se_X10_no (tX10_no (by omega)  hc10) (by omega) rfl rfl (Nat.le_of_ble_eq_true rfl) ⟨[], (List.append_nil _).symm⟩ ?_
        refine EV.eqS (st2 := [.inl (r12)]) rfl ?_
        exact FV.iret dX10_film_54 hf
    · have hf := pv_gp hf q7
      refine EV.aload_n dX10_film_31 rfl rfl ?_
      refine EV.bipush dX10_film_32 (by decide) (by decide) ?_
      obtain ⟨h14, r15, hc13, hf⟩ := pv_c2o hf
      refine EV.invV (As := [.inl (-5)]) (st := []) (d1 := d - 1) (sh1 := pv_SM) (h1 := MM h14) (r1 := (some (.inl r15))) dX10_film_34 sm_0 (by decide) md_X10_no ml_X10_131 im_X10_no se_X10_no (tX10_no (by omega)  hc13) (by omega) rfl rfl (Nat.le_of_ble_eq_true rfl) ⟨[], (List.append_nil _).symm⟩ ?_
      refine EV.eqS (st2 := [.inl (r15)]) rfl ?_
      exact FV.iret dX10_film_37 hf
  · have hf := pv_gp hf q4
    refine EV.aload_n dX10_film_17 rfl rfl ?_
    refine EV.bipush dX10_film_18 (by decide) (by decide) ?_
    obtain ⟨h17, r18, hc16, hf⟩ := pv_c2o hf
    refine EV.invV (As := [.inl (-2)]) (st := []) (d1 := d - 1) (sh1 := pv_SM) (h1 := MM h17) (r1 := (some (.inl r18))) dX10_film_20 sm_0 (by decide) md_X10_no ml_X10_131 im_X10_no se_X10_no (tX10_no (by omega)  hc16) (by omega) rfl rfl (Nat.le_of_ble_eq_true rfl) ⟨[], (List.append_nil _).symm⟩ ?_
    refine EV.eqS (st2 := [.inl (r18)]) rfl ?_
    exact FV.iret dX10_film_23 hf

noncomputable def fX10_beyond_27 (N : Nat)  (a1 : Int) (a2 : Int) (a3 : Int) (a4 : Int)  (h : pv_H) : Option (pv_H × Int) :=
  pv_c2b (fX10_no N (-2) h) fun h18 r19 => some (h18, r19)

noncomputable def fX10_beyond_105 (N : Nat)  (a1 : Int) (a2 : Int) (a3 : Int) (a4 : Int) (s0 : Int) (h : pv_H) : Option (pv_H × Int) :=
  some (h, s0)

noncomputable def fX10_beyond_75 (N : Nat)  (a1 : Int) (a2 : Int) (a3 : Int) (a4 : Int) (s0 : Int) (h : pv_H) : Option (pv_H × Int) :=
  some (h, s0)

noncomputable def fX10_beyond (N : Nat) (a1 : Int) (a2 : Int) (a3 : Int) (a4 : Int) (h : pv_H) : Option (pv_H × Int) :=
  pv_b (pv_up h 0 0 0) fun h1 => pv_c1 (fX10_isBoth N a1 a2 h1) fun r3 => if r3 = 0 then (fX10_beyond_27 N  a1 a2 a3 a4  h1) else (pv_c1 (fX10_within N a4 0 2 h1) fun r6 => if r6 = 0 then (fX10_beyond_27 N  a1 a2 a3 a4  h1) else (pv_b (pv_up h1 0 43 1) fun h8 => pv_c2b (fX10_piecesOf N a1 a2 a3 1 (-1) h8) fun h10 r11 => pv_b (pv_up h10 0 43 0) fun h12 => if (h12 0 60) = (-1) then (if a4 = 2 then (fX10_beyond_75 N  a1 a2 a3 a4 (-100000) h12) else (fX10_beyond_75 N  a1 a2 a3 a4 (-1) h12)) else (if a4 = 0 then (fX10_beyond_105 N  a1 a2 a3 a4 (h12 0 59) h12) else (if a4 = 1 then (fX10_beyond_105 N  a1 a2 a3 a4 (h12 0 60) h12) else (fX10_beyond_105 N  a1 a2 a3 a4 (h12 0 61) h12)))))

set_option maxHeartbeats 4000000 in
set_option maxRecDepth 20000 in
theorem tX10_beyond_27 {d N : Nat}  {a1 : Int} {a2 : Int} {a3 : Int} {a4 : Int}  {h h' : pv_H} {r : Int} (hd : 6 ≤ d)    (hf : fX10_beyond_27 N  a1 a2 a3 a4  h = some (h', r)) : EV RX10 cX10_beyond 5 (some .int) false d pv_SM (MM h') (some (.inl r)) 27 [some (.inr (.inr (0))), none, none, none, none] [] pv_SM (MM h) := by
  unfold fX10_beyond_27 at hf
  refine EV.aload_n dX10_beyond_27 rfl rfl ?_
  refine EV.bipush dX10_beyond_28 (by decide) (by decide) ?_
  obtain ⟨h18, r19, hc17, hf⟩ := pv_c2o hf
  refine EV.invV (As := [.inl (-2)]) (st := []) (d1 := d - 1) (sh1 := pv_SM) (h1 := MM h18) (r1 := (some (.inl r19))) dX10_beyond_30 sm_0 (by decide) md_X10_no ml_X10_131 im_X10_no se_X10_no (tX10_no (by omega)  hc17) (by omega) rfl rfl (Nat.le_of_ble_eq_true rfl) ⟨[], (List.append_nil _).symm⟩ ?_
  refine EV.eqS (st2 := [.inl (r19)]) rfl ?_
  exact FV.iret dX10_beyond_33 hf

set_option maxHeartbeats 4000000 in
set_option maxRecDepth 20000 in
theorem tX10_beyond_105 {d N : Nat}  {a1 : Int} {a2 : Int} {a3 : Int} {a4 : Int} {s0 : Int} {h h' : pv_H} {r : Int} (hd : 6 ≤ d)    (hf : fX10_beyond_105 N  a1 a2 a3 a4 s0 h = some (h', r)) : EV RX10 cX10_beyond 5 (some .int) false d pv_SM (MM h') (some (.inl r)) 105 [none, none, none, none, none] [.inl (s0)] pv_SM (MM h) := by
  unfold fX10_beyond_105 at hf
  exact FV.iret dX10_beyond_105 hf

set_option maxHeartbeats 4000000 in
set_option maxRecDepth 20000 in
theorem tX10_beyond_75 {d N : Nat}  {a1 : Int} {a2 : Int} {a3 : Int} {a4 : Int} {s0 : Int} {h h' : pv_H} {r : Int} (hd : 6 ≤ d)    (hf : fX10_beyond_75 N  a1 a2 a3 a4 s0 h = some (h', r)) : EV RX10 cX10_beyond 5 (some .int) false d pv_SM (MM h') (some (.inl r)) 75 [none, none, none, none, none] [.inl (s0)] pv_SM (MM h) := by
  unfold fX10_beyond_75 at hf
  exact FV.iret dX10_beyond_75 hf

set_option maxHeartbeats 4000000 in
set_option maxRecDepth 20000 in
theorem tX10_beyond {d N : Nat} {a1 : Int} {a2 : Int} {a3 : Int} {a4 : Int} {h h' : pv_H} {r : Int} (hd : 6 ≤ d)  (hf : fX10_beyond N a1 a2 a3 a4 h = some (h', r)) : CALL yX10_beyond cX10_beyond 5 (some .int) d pv_SM (MM h) [.inr (.inr (0)), .inl (a1), .inl (a2), .inl (a3), .inl (a4)] pv_SM (MM h') (some (.inl r)) := by
  unfold fX10_beyond at hf
  refine EV.call (own := RX10) (ini := false) rfl rfl (fun q => by cases q) ⟨[], (List.append_nil _).symm⟩ (Nat.le_of_ble_eq_true rfl) ?_
  refine EV.eqL (L2 := [some (.inr (.inr (0))), some (.inl (a1)), some (.inl (a2)), some (.inl (a3)), some (.inl (a4))]) rfl ?_
  refine EV.aload_n dX10_beyond_0 rfl rfl ?_
  refine EV.iconst dX10_beyond_1 (by decide) (by decide) ?_
  obtain ⟨h1, eh1, hf⟩ := pv_bo hf
  refine FV.putI dX10_beyond_2 sm_0 fl_10_1 rfl rfl eh1 ?_
  refine EV.aload_n dX10_beyond_5 rfl rfl ?_
  refine EV.iload_n dX10_beyond_6 rfl rfl ?_
  refine EV.iload_n dX10_beyond_7 rfl rfl ?_
  obtain ⟨r3, hc2, hf⟩ := pv_c1o hf
  refine EV.invV (As := [.inl (a1), .inl (a2)]) (st := []) (d1 := d - 1) (sh1 := pv_SM) (h1 := MM h1) (r1 := (some (.inl r3))) dX10_beyond_8 sm_0 (by decide) md_X10_isBoth ml_X10_396 im_X10_isBoth se_X10_isBoth (tX10_isBoth (by omega)  hc2) (by omega) rfl rfl (Nat.le_of_ble_eq_true rfl) ⟨[], (List.append_nil _).symm⟩ ?_
  refine EV.eqS (st2 := [.inl (r3)]) rfl ?_
  refine EV.if_eq (tgt := 27) dX10_beyond_11 (by decide) (fun q4 => ?_) (fun q4 => ?_)
  · have hf := pv_gp hf q4
    refine EV.weak (L2 := [some (.inr (.inr (0))), none, none, none, none]) (And.intro rfl trivial) ?_
    exact tX10_beyond_27 hd    hf
  · have hf := pv_gn hf q4
    refine EV.iload dX10_beyond_14 rfl ?_
    refine EV.i2l dX10_beyond_16 ?_
    refine EV.lconst (x := 0) dX10_beyond_17 (by decide) (by decide) (by decide) ?_
    refine EV.ldc2 (n := 2) dX10_beyond_18 kl_X10_411 (by decide) (by decide) ?_
    obtain ⟨r6, hc5, hf⟩ := pv_c1o hf
    refine EV.invS (As := [.inr (.inl (a4)), .inr (.inl (0)), .inr (.inl (2))]) (st := []) (d1 := d - 1) (sh1 := pv_SM) (h1 := MM h1) (r1 := (some (.inl r6))) dX10_beyond_21 md_X10_within ml_X10_193 st_X10_within (tX10_within (by omega)  hc5) (by omega) rfl rfl (Nat.le_of_ble_eq_true rfl) ⟨[], (List.append_nil _).symm⟩ ?_
    refine EV.eqS (st2 := [.inl (r6)]) rfl ?_
    refine EV.if_ne (tgt := 34) dX10_beyond_24 (by decide) (fun q7 => ?_) (fun q7 => ?_)
    · have hf := pv_gn hf q7
      refine EV.aload_n dX10_beyond_34 rfl rfl ?_
      refine EV.iconst dX10_beyond_35 (by decide) (by decide) ?_
      obtain ⟨h8, eh8, hf⟩ := pv_bo hf
      refine FV.putZ dX10_beyond_36 sm_0 fl_10_346 rfl rfl (by decide) eh8 ?_
      refine EV.aload_n dX10_beyond_39 rfl rfl ?_
      refine EV.iload_n dX10_beyond_40 rfl rfl ?_
      refine EV.iload_n dX10_beyond_41 rfl rfl ?_
      refine EV.iload_n dX10_beyond_42 rfl rfl ?_
      refine EV.iconst dX10_beyond_43 (by decide) (by decide) ?_
      refine EV.iconst dX10_beyond_44 (by decide) (by decide) ?_
      obtain ⟨h10, r11, hc9, hf⟩ := pv_c2o hf
      refine EV.invV (As := [.inl (a1), .inl (a2), .inl (a3), .inl (1), .inl (-1)]) (st := []) (d1 := d - 1) (sh1 := pv_SM) (h1 := MM h10) (r1 := (some (.inl r11))) dX10_beyond_45 sm_0 (by decide) md_X10_piecesOf ml_X10_400 im_X10_piecesOf se_X10_piecesOf (tX10_piecesOf (by omega)  hc9) (by omega) rfl rfl (Nat.le_of_ble_eq_true rfl) ⟨[], (List.append_nil _).symm⟩ ?_
      refine EV.eqS (st2 := [.inl (r11)]) rfl ?_
      refine EV.pop dX10_beyond_48 rfl ?_
      refine EV.aload_n dX10_beyond_49 rfl rfl ?_
      refine EV.iconst dX10_beyond_50 (by decide) (by decide) ?_
      obtain ⟨h12, eh12, hf⟩ := pv_bo hf
      refine FV.putZ dX10_beyond_51 sm_0 fl_10_346 rfl rfl (by decide) eh12 ?_
      refine EV.aload_n dX10_beyond_54 rfl rfl ?_
      refine FV.getI dX10_beyond_55 sm_0 fl_10_359 rfl ?_
      refine EV.iconst dX10_beyond_58 (by decide) (by decide) ?_
      refine EV.icmp_ne (tgt := 76) dX10_beyond_59 (by decide) (fun q13 => ?_) (fun q13 => ?_)
      · have hf := pv_gn hf q13
        refine EV.iload dX10_beyond_76 rfl ?_
        refine EV.if_ne (tgt := 88) dX10_beyond_78 (by decide) (fun q14 => ?_) (fun q14 => ?_)
        · have hf := pv_gn hf q14
          refine EV.iload dX10_beyond_88 rfl ?_
          refine EV.iconst dX10_beyond_90 (by decide) (by decide) ?_
          refine EV.icmp_ne (tgt := 101) dX10_beyond_91 (by decide) (fun q15 => ?_) (fun q15 => ?_)
          · have hf := pv_gn hf q15
            refine EV.aload_n dX10_beyond_101 rfl rfl ?_
            refine FV.getI dX10_beyond_102 sm_0 fl_10_365 rfl ?_
            refine EV.weak (L2 := [none, none, none, none, none]) trivial ?_
            exact tX10_beyond_105 hd    hf
          · have hf := pv_gp hf q15
            refine EV.aload_n dX10_beyond_94 rfl rfl ?_
            refine FV.getI dX10_beyond_95 sm_0 fl_10_359 rfl ?_
            refine EV.goto (tgt := 105) dX10_beyond_98 (by decide) ?_
            refine EV.weak (L2 := [none, none, none, none, none]) trivial ?_
            exact tX10_beyond_105 hd    hf
        · have hf := pv_gp hf q14
          refine EV.aload_n dX10_beyond_81 rfl rfl ?_
          refine FV.getI dX10_beyond_82 sm_0 fl_10_362 rfl ?_
          refine EV.goto (tgt := 105) dX10_beyond_85 (by decide) ?_
          refine EV.weak (L2 := [none, none, none, none, none]) trivial ?_
          exact tX10_beyond_105 hd    hf
      · have hf := pv_gp hf q13
        refine EV.iload dX10_beyond_62 rfl ?_
        refine EV.iconst dX10_beyond_64 (by decide) (by decide) ?_
        refine EV.icmp_ne (tgt := 74) dX10_beyond_65 (by decide) (fun q16 => ?_) (fun q16 => ?_)
        · have hf := pv_gn hf q16
          refine EV.iconst dX10_beyond_74 (by decide) (by decide) ?_
          refine EV.weak (L2 := [none, none, none, none, none]) trivial ?_
          exact tX10_beyond_75 hd    hf
        · have hf := pv_gp hf q16
          refine EV.ldcw (n := -100000) dX10_beyond_68 kc_X10_413 (by decide) (by decide) ?_
          refine EV.goto (tgt := 75) dX10_beyond_71 (by decide) ?_
          refine EV.weak (L2 := [none, none, none, none, none]) trivial ?_
          exact tX10_beyond_75 hd    hf
    · have hf := pv_gp hf q7
      refine EV.weak (L2 := [some (.inr (.inr (0))), none, none, none, none]) (And.intro rfl trivial) ?_
      exact tX10_beyond_27 hd    hf

noncomputable def fX10_odds_46 (N : Nat)  (a1 : Int) (a2 : Int) (a3 : Int) (a4 : Int)  (h : pv_H) : Option (pv_H × Int) :=
  pv_c2b (fX10_no N (-3) h) fun h15 r16 => some (h15, r16)

noncomputable def fX10_odds_102 (N : Nat) (k59 : Int → Int → pv_H → Option (pv_H × Int)) (a1 : Int) (a2 : Int) (a3 : Int) (a4 : Int) (v6 : Int) (s0 : Int) (s1 : Int) (h : pv_H) : Option (pv_H × Int) :=
  pv_b (pv_w (s1 + s0)) fun x24 => pv_b (pv_w (v6 + 1)) fun x25 => k59 (x24) (x25) h

noncomputable def fX10_odds_97 (N : Nat) (k59 : Int → Int → pv_H → Option (pv_H × Int)) (a1 : Int) (a2 : Int) (a3 : Int) (a4 : Int) (v6 : Int) (s0 : Int) (h : pv_H) : Option (pv_H × Int) :=
  fX10_odds_102 N (k59) a1 a2 a3 a4 (v6) (1) (s0) h

noncomputable def fX10_odds_101 (N : Nat) (k59 : Int → Int → pv_H → Option (pv_H × Int)) (a1 : Int) (a2 : Int) (a3 : Int) (a4 : Int) (v6 : Int) (s0 : Int) (h : pv_H) : Option (pv_H × Int) :=
  fX10_odds_102 N (k59) a1 a2 a3 a4 (v6) (0) (s0) h

noncomputable def fX10_odds_59 (N : Nat)  (a1 : Int) (a2 : Int) (a3 : Int) (a4 : Int) : Nat → Int → Int → pv_H → Option (pv_H × Int)
  | 0, _, _, _ => none
  | n + 1, v5, v6, h => if a4 < v6 then (some (h, v5)) else (pv_c2b (fX10_piecesOf N a1 a2 v6 1 (-1) h) fun h19 r20 => if r20 = a3 then (fX10_odds_97 N (fun v5_ v6_ hh => fX10_odds_59 N  a1 a2 a3 a4 n v5_ v6_ hh) a1 a2 a3 a4 (v6) (v5) h19) else (if a3 = 4 then (if r20 ≤ 4 then (fX10_odds_101 N (fun v5_ v6_ hh => fX10_odds_59 N  a1 a2 a3 a4 n v5_ v6_ hh) a1 a2 a3 a4 (v6) (v5) h19) else (fX10_odds_97 N (fun v5_ v6_ hh => fX10_odds_59 N  a1 a2 a3 a4 n v5_ v6_ hh) a1 a2 a3 a4 (v6) (v5) h19)) else (fX10_odds_101 N (fun v5_ v6_ hh => fX10_odds_59 N  a1 a2 a3 a4 n v5_ v6_ hh) a1 a2 a3 a4 (v6) (v5) h19)))

noncomputable def fX10_odds (N : Nat) (a1 : Int) (a2 : Int) (a3 : Int) (a4 : Int) (h : pv_H) : Option (pv_H × Int) :=
  pv_b (pv_up h 0 0 0) fun h1 => pv_c1 (fX10_isBoth N a1 a2 h1) fun r3 => if r3 = 0 then (pv_c2b (fX10_no N (-2) h1) fun h12 r13 => some (h12, r13)) else (pv_c1 (fX10_within N a3 1 4 h1) fun r6 => if r6 = 0 then (fX10_odds_46 N  a1 a2 a3 a4  h1) else (pv_c1 (fX10_within N a4 1 100 h1) fun r9 => if r9 = 0 then (fX10_odds_46 N  a1 a2 a3 a4  h1) else (fX10_odds_59 N  a1 a2 a3 a4 N (0) (1) h1)))

set_option maxHeartbeats 4000000 in
set_option maxRecDepth 20000 in
theorem tX10_odds_46 {d N : Nat}  {a1 : Int} {a2 : Int} {a3 : Int} {a4 : Int}  {h h' : pv_H} {r : Int} (hd : 6 ≤ d)    (hf : fX10_odds_46 N  a1 a2 a3 a4  h = some (h', r)) : EV RX10 cX10_odds 8 (some .int) false d pv_SM (MM h') (some (.inl r)) 46 [some (.inr (.inr (0))), none, none, none, none, none, none, none] [] pv_SM (MM h) := by
  unfold fX10_odds_46 at hf
  refine EV.aload_n dX10_odds_46 rfl rfl ?_
  refine EV.bipush dX10_odds_47 (by decide) (by decide) ?_
  obtain ⟨h15, r16, hc14, hf⟩ := pv_c2o hf
  refine EV.invV (As := [.inl (-3)]) (st := []) (d1 := d - 1) (sh1 := pv_SM) (h1 := MM h15) (r1 := (some (.inl r16))) dX10_odds_49 sm_0 (by decide) md_X10_no ml_X10_131 im_X10_no se_X10_no (tX10_no (by omega)  hc14) (by omega) rfl rfl (Nat.le_of_ble_eq_true rfl) ⟨[], (List.append_nil _).symm⟩ ?_
  refine EV.eqS (st2 := [.inl (r16)]) rfl ?_
  exact FV.iret dX10_odds_52 hf

set_option maxHeartbeats 4000000 in
set_option maxRecDepth 20000 in
theorem tX10_odds_102 {d N : Nat} {k59 : Int → Int → pv_H → Option (pv_H × Int)} {a1 : Int} {a2 : Int} {a3 : Int} {a4 : Int} {v6 : Int} {s0 : Int} {s1 : Int} {h h' : pv_H} {r : Int} (hd : 6 ≤ d) (hk59 : ∀ (v5 : Int) (v6 : Int)  (hh : pv_H), k59 v5 v6 hh = some (h', r) → EV RX10 cX10_odds 8 (some .int) false d pv_SM (MM h') (some (.inl r)) 59 [some (.inr (.inr (0))), some (.inl (a1)), some (.inl (a2)), some (.inl (a3)), some (.inl (a4)), some (.inl (v5)), some (.inl (v6)), none] [] pv_SM (MM hh))   (hf : fX10_odds_102 N k59 a1 a2 a3 a4 v6 s0 s1 h = some (h', r)) : EV RX10 cX10_odds 8 (some .int) false d pv_SM (MM h') (some (.inl r)) 102 [some (.inr (.inr (0))), some (.inl (a1)), some (.inl (a2)), some (.inl (a3)), some (.inl (a4)), none, some (.inl (v6)), none] [.inl (s0), .inl (s1)] pv_SM (MM h) := by
  unfold fX10_odds_102 at hf
  refine EV.iadd dX10_odds_102 ?_
  obtain ⟨x24, ex24, hf⟩ := pv_bo hf
  refine FV.stiw (L2 := [some (.inr (.inr (0))), some (.inl (a1)), some (.inl (a2)), some (.inl (a3)), some (.inl (a4)), some (.inl (x24)), some (.inl (v6)), none]) dX10_odds_103 (Nat.le_of_ble_eq_true rfl) ex24 rfl ?_
  obtain ⟨x25, ex25, hf⟩ := pv_bo hf
  refine FV.inc (L2 := [some (.inr (.inr (0))), some (.inl (a1)), some (.inl (a2)), some (.inl (a3)), some (.inl (a4)), some (.inl (x24)), some (.inl (x25)), none]) dX10_odds_105 rfl (Nat.le_of_ble_eq_true rfl) ex25 rfl ?_
  refine EV.goto (tgt := 59) dX10_odds_108 (by decide) ?_
  refine EV.weak (L2 := [some (.inr (.inr (0))), some (.inl (a1)), some (.inl (a2)), some (.inl (a3)), some (.inl (a4)), some (.inl (x24)), some (.inl (x25)), none]) (And.intro rfl (And.intro rfl (And.intro rfl (And.intro rfl (And.intro rfl (And.intro rfl (And.intro rfl trivial))))))) ?_
  exact hk59 _ _  _ hf

set_option maxHeartbeats 4000000 in
set_option maxRecDepth 20000 in
theorem tX10_odds_97 {d N : Nat} {k59 : Int → Int → pv_H → Option (pv_H × Int)} {a1 : Int} {a2 : Int} {a3 : Int} {a4 : Int} {v6 : Int} {s0 : Int} {h h' : pv_H} {r : Int} (hd : 6 ≤ d) (hk59 : ∀ (v5 : Int) (v6 : Int)  (hh : pv_H), k59 v5 v6 hh = some (h', r) → EV RX10 cX10_odds 8 (some .int) false d pv_SM (MM h') (some (.inl r)) 59 [some (.inr (.inr (0))), some (.inl (a1)), some (.inl (a2)), some (.inl (a3)), some (.inl (a4)), some (.inl (v5)), some (.inl (v6)), none] [] pv_SM (MM hh))   (hf : fX10_odds_97 N k59 a1 a2 a3 a4 v6 s0 h = some (h', r)) : EV RX10 cX10_odds 8 (some .int) false d pv_SM (MM h') (some (.inl r)) 97 [some (.inr (.inr (0))), some (.inl (a1)), some (.inl (a2)), some (.inl (a3)), some (.inl (a4)), none, some (.inl (v6)), none] [.inl (s0)] pv_SM (MM h) := by
  unfold fX10_odds_97 at hf
  refine EV.iconst dX10_odds_97 (by decide) (by decide) ?_
  refine EV.goto (tgt := 102) dX10_odds_98 (by decide) ?_
  refine EV.weak (L2 := [some (.inr (.inr (0))), some (.inl (a1)), some (.inl (a2)), some (.inl (a3)), some (.inl (a4)), none, some (.inl (v6)), none]) (And.intro rfl (And.intro rfl (And.intro rfl (And.intro rfl (And.intro rfl (And.intro rfl trivial)))))) ?_
  exact tX10_odds_102 hd (hk59)   hf

set_option maxHeartbeats 4000000 in
set_option maxRecDepth 20000 in
theorem tX10_odds_101 {d N : Nat} {k59 : Int → Int → pv_H → Option (pv_H × Int)} {a1 : Int} {a2 : Int} {a3 : Int} {a4 : Int} {v6 : Int} {s0 : Int} {h h' : pv_H} {r : Int} (hd : 6 ≤ d) (hk59 : ∀ (v5 : Int) (v6 : Int)  (hh : pv_H), k59 v5 v6 hh = some (h', r) → EV RX10 cX10_odds 8 (some .int) false d pv_SM (MM h') (some (.inl r)) 59 [some (.inr (.inr (0))), some (.inl (a1)), some (.inl (a2)), some (.inl (a3)), some (.inl (a4)), some (.inl (v5)), some (.inl (v6)), none] [] pv_SM (MM hh))   (hf : fX10_odds_101 N k59 a1 a2 a3 a4 v6 s0 h = some (h', r)) : EV RX10 cX10_odds 8 (some .int) false d pv_SM (MM h') (some (.inl r)) 101 [some (.inr (.inr (0))), some (.inl (a1)), some (.inl (a2)), some (.inl (a3)), some (.inl (a4)), none, some (.inl (v6)), none] [.inl (s0)] pv_SM (MM h) := by
  unfold fX10_odds_101 at hf
  refine EV.iconst dX10_odds_101 (by decide) (by decide) ?_
  refine EV.weak (L2 := [some (.inr (.inr (0))), some (.inl (a1)), some (.inl (a2)), some (.inl (a3)), some (.inl (a4)), none, some (.inl (v6)), none]) (And.intro rfl (And.intro rfl (And.intro rfl (And.intro rfl (And.intro rfl (And.intro rfl trivial)))))) ?_
  exact tX10_odds_102 hd (hk59)   hf

set_option maxHeartbeats 4000000 in
set_option maxRecDepth 20000 in
theorem tX10_odds_59 {d N : Nat}  {a1 : Int} {a2 : Int} {a3 : Int} {a4 : Int} {h' : pv_H} {r : Int} (hd : 6 ≤ d)   : ∀ (n : Nat) (v5 : Int) (v6 : Int)  (h : pv_H), fX10_odds_59 N  a1 a2 a3 a4 n v5 v6 h = some (h', r) → EV RX10 cX10_odds 8 (some .int) false d pv_SM (MM h') (some (.inl r)) 59 [some (.inr (.inr (0))), some (.inl (a1)), some (.inl (a2)), some (.inl (a3)), some (.inl (a4)), some (.inl (v5)), some (.inl (v6)), none] [] pv_SM (MM h) := by
  intro n
  induction n with
  | zero =>
    intro v5 v6  h hf
    cases hf
  | succ n ih =>
    intro v5 v6  h hf
    rw [fX10_odds_59] at hf
    refine EV.iload dX10_odds_59 rfl ?_
    refine EV.iload dX10_odds_61 rfl ?_
    refine EV.icmp_gt (tgt := 111) dX10_odds_63 (by decide) (fun q17 => ?_) (fun q17 => ?_)
    · have hf := pv_gp hf q17
      refine EV.iload dX10_odds_111 rfl ?_
      exact FV.iret dX10_odds_113 hf
    · have hf := pv_gn hf q17
      refine EV.aload_n dX10_odds_66 rfl rfl ?_
      refine EV.iload_n dX10_odds_67 rfl rfl ?_
      refine EV.iload_n dX10_odds_68 rfl rfl ?_
      refine EV.iload dX10_odds_69 rfl ?_
      refine EV.iconst dX10_odds_71 (by decide) (by decide) ?_
      refine EV.iconst dX10_odds_72 (by decide) (by decide) ?_
      obtain ⟨h19, r20, hc18, hf⟩ := pv_c2o hf
      refine EV.invV (As := [.inl (a1), .inl (a2), .inl (v6), .inl (1), .inl (-1)]) (st := []) (d1 := d - 1) (sh1 := pv_SM) (h1 := MM h19) (r1 := (some (.inl r20))) dX10_odds_73 sm_0 (by decide) md_X10_piecesOf ml_X10_400 im_X10_piecesOf se_X10_piecesOf (tX10_piecesOf (by omega)  hc18) (by omega) rfl rfl (Nat.le_of_ble_eq_true rfl) ⟨[], (List.append_nil _).symm⟩ ?_
      refine EV.eqS (st2 := [.inl (r20)]) rfl ?_
      refine FV.stiw (L2 := [some (.inr (.inr (0))), some (.inl (a1)), some (.inl (a2)), some (.inl (a3)), some (.inl (a4)), some (.inl (v5)), some (.inl (v6)), some (.inl (r20))]) dX10_odds_76 (Nat.le_of_ble_eq_true rfl) rfl rfl ?_
      refine EV.iload dX10_odds_78 rfl ?_
      refine EV.iload dX10_odds_80 rfl ?_
      refine EV.iload_n dX10_odds_82 rfl rfl ?_
      refine EV.icmp_eq (tgt := 97) dX10_odds_83 (by decide) (fun q21 => ?_) (fun q21 => ?_)
      · have hf := pv_gp hf q21
        refine EV.weak (L2 := [some (.inr (.inr (0))), some (.inl (a1)), some (.inl (a2)), some (.inl (a3)), some (.inl (a4)), none, some (.inl (v6)), none]) (And.intro rfl (And.intro rfl (And.intro rfl (And.intro rfl (And.intro rfl (And.intro rfl trivial)))))) ?_
        exact tX10_odds_97 hd (ih)   hf
      · have hf := pv_gn hf q21
        refine EV.iload_n dX10_odds_86 rfl rfl ?_
        refine EV.iconst dX10_odds_87 (by decide) (by decide) ?_
        refine EV.icmp_ne (tgt := 101) dX10_odds_88 (by decide) (fun q22 => ?_) (fun q22 => ?_)
        · have hf := pv_gn hf q22
          refine EV.weak (L2 := [some (.inr (.inr (0))), some (.inl (a1)), some (.inl (a2)), some (.inl (a3)), some (.inl (a4)), none, some (.inl (v6)), none]) (And.intro rfl (And.intro rfl (And.intro rfl (And.intro rfl (And.intro rfl (And.intro rfl trivial)))))) ?_
          exact tX10_odds_101 hd (ih)   hf
        · have hf := pv_gp hf q22
          refine EV.iload dX10_odds_91 rfl ?_
          refine EV.iconst dX10_odds_93 (by decide) (by decide) ?_
          refine EV.icmp_le (tgt := 101) dX10_odds_94 (by decide) (fun q23 => ?_) (fun q23 => ?_)
          · have hf := pv_gp hf q23
            refine EV.weak (L2 := [some (.inr (.inr (0))), some (.inl (a1)), some (.inl (a2)), some (.inl (a3)), some (.inl (a4)), none, some (.inl (v6)), none]) (And.intro rfl (And.intro rfl (And.intro rfl (And.intro rfl (And.intro rfl (And.intro rfl trivial)))))) ?_
            exact tX10_odds_101 hd (ih)   hf
          · have hf := pv_gn hf q23
            refine EV.weak (L2 := [some (.inr (.inr (0))), some (.inl (a1)), some (.inl (a2)), some (.inl (a3)), some (.inl (a4)), none, some (.inl (v6)), none]) (And.intro rfl (And.intro rfl (And.intro rfl (And.intro rfl (And.intro rfl (And.intro rfl trivial)))))) ?_
            exact tX10_odds_97 hd (ih)   hf

set_option maxHeartbeats 4000000 in
set_option maxRecDepth 20000 in
theorem tX10_odds {d N : Nat} {a1 : Int} {a2 : Int} {a3 : Int} {a4 : Int} {h h' : pv_H} {r : Int} (hd : 6 ≤ d)  (hf : fX10_odds N a1 a2 a3 a4 h = some (h', r)) : CALL yX10_odds cX10_odds 8 (some .int) d pv_SM (MM h) [.inr (.inr (0)), .inl (a1), .inl (a2), .inl (a3), .inl (a4)] pv_SM (MM h') (some (.inl r)) := by
  unfold fX10_odds at hf
  refine EV.call (own := RX10) (ini := false) rfl rfl (fun q => by cases q) ⟨[], (List.append_nil _).symm⟩ (Nat.le_of_ble_eq_true rfl) ?_
  refine EV.eqL (L2 := [some (.inr (.inr (0))), some (.inl (a1)), some (.inl (a2)), some (.inl (a3)), some (.inl (a4)), none, none, none]) rfl ?_
  refine EV.aload_n dX10_odds_0 rfl rfl ?_
  refine EV.iconst dX10_odds_1 (by decide) (by decide) ?_
  obtain ⟨h1, eh1, hf⟩ := pv_bo hf
  refine FV.putI dX10_odds_2 sm_0 fl_10_1 rfl rfl eh1 ?_
  refine EV.aload_n dX10_odds_5 rfl rfl ?_
  refine EV.iload_n dX10_odds_6 rfl rfl ?_
  refine EV.iload_n dX10_odds_7 rfl rfl ?_
  obtain ⟨r3, hc2, hf⟩ := pv_c1o hf
  refine EV.invV (As := [.inl (a1), .inl (a2)]) (st := []) (d1 := d - 1) (sh1 := pv_SM) (h1 := MM h1) (r1 := (some (.inl r3))) dX10_odds_8 sm_0 (by decide) md_X10_isBoth ml_X10_396 im_X10_isBoth se_X10_isBoth (tX10_isBoth (by omega)  hc2) (by omega) rfl rfl (Nat.le_of_ble_eq_true rfl) ⟨[], (List.append_nil _).symm⟩ ?_
  refine EV.eqS (st2 := [.inl (r3)]) rfl ?_
  refine EV.if_ne (tgt := 21) dX10_odds_11 (by decide) (fun q4 => ?_) (fun q4 => ?_)
  · have hf := pv_gn hf q4
    refine EV.iload_n dX10_odds_21 rfl rfl ?_
    refine EV.i2l dX10_odds_22 ?_
    refine EV.lconst (x := 1) dX10_odds_23 (by decide) (by decide) (by decide) ?_
    refine EV.ldc2 (n := 4) dX10_odds_24 kl_X10_280 (by decide) (by decide) ?_
    obtain ⟨r6, hc5, hf⟩ := pv_c1o hf
    refine EV.invS (As := [.inr (.inl (a3)), .inr (.inl (1)), .inr (.inl (4))]) (st := []) (d1 := d - 1) (sh1 := pv_SM) (h1 := MM h1) (r1 := (some (.inl r6))) dX10_odds_27 md_X10_within ml_X10_193 st_X10_within (tX10_within (by omega)  hc5) (by omega) rfl rfl (Nat.le_of_ble_eq_true rfl) ⟨[], (List.append_nil _).symm⟩ ?_
    refine EV.eqS (st2 := [.inl (r6)]) rfl ?_
    refine EV.if_eq (tgt := 46) dX10_odds_30 (by decide) (fun q7 => ?_) (fun q7 => ?_)
    · have hf := pv_gp hf q7
      refine EV.weak (L2 := [some (.inr (.inr (0))), none, none, none, none, none, none, none]) (And.intro rfl trivial) ?_
      exact tX10_odds_46 hd    hf
    · have hf := pv_gn hf q7
      refine EV.iload dX10_odds_33 rfl ?_
      refine EV.i2l dX10_odds_35 ?_
      refine EV.lconst (x := 1) dX10_odds_36 (by decide) (by decide) (by decide) ?_
      refine EV.ldc2 (n := 100) dX10_odds_37 kl_X10_323 (by decide) (by decide) ?_
      obtain ⟨r9, hc8, hf⟩ := pv_c1o hf
      refine EV.invS (As := [.inr (.inl (a4)), .inr (.inl (1)), .inr (.inl (100))]) (st := []) (d1 := d - 1) (sh1 := pv_SM) (h1 := MM h1) (r1 := (some (.inl r9))) dX10_odds_40 md_X10_within ml_X10_193 st_X10_within (tX10_within (by omega)  hc8) (by omega) rfl rfl (Nat.le_of_ble_eq_true rfl) ⟨[], (List.append_nil _).symm⟩ ?_
      refine EV.eqS (st2 := [.inl (r9)]) rfl ?_
      refine EV.if_ne (tgt := 53) dX10_odds_43 (by decide) (fun q10 => ?_) (fun q10 => ?_)
      · have hf := pv_gn hf q10
        refine EV.iconst dX10_odds_53 (by decide) (by decide) ?_
        refine FV.stiw (L2 := [some (.inr (.inr (0))), some (.inl (a1)), some (.inl (a2)), some (.inl (a3)), some (.inl (a4)), some (.inl (0)), none, none]) dX10_odds_54 (Nat.le_of_ble_eq_true rfl) rfl rfl ?_
        refine EV.iconst dX10_odds_56 (by decide) (by decide) ?_
        refine FV.stiw (L2 := [some (.inr (.inr (0))), some (.inl (a1)), some (.inl (a2)), some (.inl (a3)), some (.inl (a4)), some (.inl (0)), some (.inl (1)), none]) dX10_odds_57 (Nat.le_of_ble_eq_true rfl) rfl rfl ?_
        refine EV.weak (L2 := [some (.inr (.inr (0))), some (.inl (a1)), some (.inl (a2)), some (.inl (a3)), some (.inl (a4)), some (.inl (0)), some (.inl (1)), none]) (And.intro rfl (And.intro rfl (And.intro rfl (And.intro rfl (And.intro rfl (And.intro rfl (And.intro rfl trivial))))))) ?_
        exact tX10_odds_59 hd   _ _ _  _ hf
      · have hf := pv_gp hf q10
        refine EV.weak (L2 := [some (.inr (.inr (0))), none, none, none, none, none, none, none]) (And.intro rfl trivial) ?_
        exact tX10_odds_46 hd    hf
  · have hf := pv_gp hf q4
    refine EV.aload_n dX10_odds_14 rfl rfl ?_
    refine EV.bipush dX10_odds_15 (by decide) (by decide) ?_
    obtain ⟨h12, r13, hc11, hf⟩ := pv_c2o hf
    refine EV.invV (As := [.inl (-2)]) (st := []) (d1 := d - 1) (sh1 := pv_SM) (h1 := MM h12) (r1 := (some (.inl r13))) dX10_odds_17 sm_0 (by decide) md_X10_no ml_X10_131 im_X10_no se_X10_no (tX10_no (by omega)  hc11) (by omega) rfl rfl (Nat.le_of_ble_eq_true rfl) ⟨[], (List.append_nil _).symm⟩ ?_
    refine EV.eqS (st2 := [.inl (r13)]) rfl ?_
    exact FV.iret dX10_odds_20 hf

noncomputable def fX10_isCell (N : Nat) (a1 : Int) (a2 : Int) (h : pv_H) : Option (Int) :=
  if 0 ≤ pv_w ((pv_w (242 * a1)) + 0) ∧ pv_w ((pv_w (242 * a1)) + 0) < 9159 then (pv_c1 (fX10_within N a2 0 (pv_w ((h 2 (Int.toNat (pv_w ((pv_w (242 * a1)) + 0)))) - 1)) h) fun r3 => if r3 = 0 ∨ r3 = 1 then (some (r3)) else none) else none

set_option maxHeartbeats 4000000 in
set_option maxRecDepth 20000 in
theorem tX10_isCell {d N : Nat} {a1 : Int} {a2 : Int} {h : pv_H} {r : Int} (hd : 2 ≤ d)  (hf : fX10_isCell N a1 a2 h = some r) : CALL yX10_isCell cX10_isCell 3 (some .boolean) d pv_SM (MM h) [.inr (.inr (0)), .inl (a1), .inl (a2)] pv_SM (MM h) (some (.inl r)) := by
  unfold fX10_isCell at hf
  refine EV.call (own := RX10) (ini := false) rfl rfl (fun q => by cases q) ⟨[], (List.append_nil _).symm⟩ (Nat.le_of_ble_eq_true rfl) ?_
  refine EV.eqL (L2 := [some (.inr (.inr (0))), some (.inl (a1)), some (.inl (a2))]) rfl ?_
  refine EV.iload_n dX10_isCell_0 rfl rfl ?_
  refine EV.i2l dX10_isCell_1 ?_
  refine EV.lconst (x := 0) dX10_isCell_2 (by decide) (by decide) (by decide) ?_
  refine EV.aload_n dX10_isCell_3 rfl rfl ?_
  refine FV.getF (v := 2) dX10_isCell_4 sm_0 fl_10_17 rfl rfl hvm_0_2 ?_
  refine EV.sipush dX10_isCell_7 (by decide) (by decide) ?_
  refine EV.iload_n dX10_isCell_10 rfl rfl ?_
  refine EV.imul dX10_isCell_11 ?_
  refine EV.iconst dX10_isCell_12 (by decide) (by decide) ?_
  refine EV.iadd dX10_isCell_13 ?_
  obtain ⟨g1, hf⟩ := pv_gd hf
  refine FV.iald dX10_isCell_14 sm_2 g1.1 g1.2 (j := (Int.toNat (pv_w ((pv_w (242 * a1)) + 0)))) rfl ?_
  refine EV.iconst dX10_isCell_15 (by decide) (by decide) ?_
  refine EV.isub dX10_isCell_16 ?_
  refine EV.i2l dX10_isCell_17 ?_
  obtain ⟨r3, hc2, hf⟩ := pv_c1o hf
  refine EV.invS (As := [.inr (.inl (a2)), .inr (.inl (0)), .inr (.inl (pv_w ((h 2 (Int.toNat (pv_w ((pv_w (242 * a1)) + 0)))) - 1)))]) (st := []) (d1 := d - 1) (sh1 := pv_SM) (h1 := MM h) (r1 := (some (.inl r3))) dX10_isCell_18 md_X10_within ml_X10_193 st_X10_within (tX10_within (by omega)  hc2) (by omega) rfl rfl (Nat.le_of_ble_eq_true rfl) ⟨[], (List.append_nil _).symm⟩ ?_
  refine EV.eqS (st2 := [.inl (r3)]) rfl ?_
  obtain ⟨g4, hf⟩ := pv_gd hf
  exact FV.zretp dX10_isCell_21 g4 hf

noncomputable def fX10_ends_23 (N : Nat)  (a1 : Int) (a2 : Int) (a3 : Int) (a4 : Int)  (h : pv_H) : Option (pv_H × Int) :=
  pv_c2b (fX10_no N (-2) h) fun h15 r16 => some (h15, r16)

noncomputable def fX10_ends_90 (N : Nat) (k56 : Int → Int → pv_H → Option (pv_H × Int)) (a1 : Int) (a2 : Int) (a3 : Int) (a4 : Int) (v6 : Int) (s0 : Int) (s1 : Int) (h : pv_H) : Option (pv_H × Int) :=
  pv_b (pv_w (s1 + s0)) fun x23 => pv_b (pv_w (v6 + 1)) fun x24 => k56 (x23) (x24) h

noncomputable def fX10_ends_56 (N : Nat)  (a1 : Int) (a2 : Int) (a3 : Int) (a4 : Int) : Nat → Int → Int → pv_H → Option (pv_H × Int)
  | 0, _, _, _ => none
  | n + 1, v5, v6, h => if a4 < v6 then (some (h, v5)) else (pv_c2b (fX10_piecesOf N a1 a2 v6 1 (-1) h) fun h19 r20 => if 0 ≤ a3 ∧ a3 < 60 then (if (h19 17 (Int.toNat (a3))) = 0 then (fX10_ends_90 N (fun v5_ v6_ hh => fX10_ends_56 N  a1 a2 a3 a4 n v5_ v6_ hh) a1 a2 a3 a4 (v6) (0) (v5) h19) else (fX10_ends_90 N (fun v5_ v6_ hh => fX10_ends_56 N  a1 a2 a3 a4 n v5_ v6_ hh) a1 a2 a3 a4 (v6) (1) (v5) h19)) else none)

noncomputable def fX10_ends (N : Nat) (a1 : Int) (a2 : Int) (a3 : Int) (a4 : Int) (h : pv_H) : Option (pv_H × Int) :=
  pv_b (pv_up h 0 0 0) fun h1 => pv_c1 (fX10_isBoth N a1 a2 h1) fun r3 => if r3 = 0 then (fX10_ends_23 N  a1 a2 a3 a4  h1) else (pv_c1 (fX10_isCell N a1 a3 h1) fun r6 => if r6 = 0 then (fX10_ends_23 N  a1 a2 a3 a4  h1) else (pv_c1 (fX10_within N a4 1 100 h1) fun r9 => if r9 = 0 then (pv_c2b (fX10_no N (-3) h1) fun h12 r13 => some (h12, r13)) else (fX10_ends_56 N  a1 a2 a3 a4 N (0) (1) h1)))

set_option maxHeartbeats 4000000 in
set_option maxRecDepth 20000 in
theorem tX10_ends_23 {d N : Nat}  {a1 : Int} {a2 : Int} {a3 : Int} {a4 : Int}  {h h' : pv_H} {r : Int} (hd : 6 ≤ d)    (hf : fX10_ends_23 N  a1 a2 a3 a4  h = some (h', r)) : EV RX10 cX10_ends 7 (some .int) false d pv_SM (MM h') (some (.inl r)) 23 [some (.inr (.inr (0))), none, none, none, none, none, none] [] pv_SM (MM h) := by
  unfold fX10_ends_23 at hf
  refine EV.aload_n dX10_ends_23 rfl rfl ?_
  refine EV.bipush dX10_ends_24 (by decide) (by decide) ?_
  obtain ⟨h15, r16, hc14, hf⟩ := pv_c2o hf
  refine EV.invV (As := [.inl (-2)]) (st := []) (d1 := d - 1) (sh1 := pv_SM) (h1 := MM h15) (r1 := (some (.inl r16))) dX10_ends_26 sm_0 (by decide) md_X10_no ml_X10_131 im_X10_no se_X10_no (tX10_no (by omega)  hc14) (by omega) rfl rfl (Nat.le_of_ble_eq_true rfl) ⟨[], (List.append_nil _).symm⟩ ?_
  refine EV.eqS (st2 := [.inl (r16)]) rfl ?_
  exact FV.iret dX10_ends_29 hf

set_option maxHeartbeats 4000000 in
set_option maxRecDepth 20000 in
theorem tX10_ends_90 {d N : Nat} {k56 : Int → Int → pv_H → Option (pv_H × Int)} {a1 : Int} {a2 : Int} {a3 : Int} {a4 : Int} {v6 : Int} {s0 : Int} {s1 : Int} {h h' : pv_H} {r : Int} (hd : 6 ≤ d) (hk56 : ∀ (v5 : Int) (v6 : Int)  (hh : pv_H), k56 v5 v6 hh = some (h', r) → EV RX10 cX10_ends 7 (some .int) false d pv_SM (MM h') (some (.inl r)) 56 [some (.inr (.inr (0))), some (.inl (a1)), some (.inl (a2)), some (.inl (a3)), some (.inl (a4)), some (.inl (v5)), some (.inl (v6))] [] pv_SM (MM hh))   (hf : fX10_ends_90 N k56 a1 a2 a3 a4 v6 s0 s1 h = some (h', r)) : EV RX10 cX10_ends 7 (some .int) false d pv_SM (MM h') (some (.inl r)) 90 [some (.inr (.inr (0))), some (.inl (a1)), some (.inl (a2)), some (.inl (a3)), some (.inl (a4)), none, some (.inl (v6))] [.inl (s0), .inl (s1)] pv_SM (MM h) := by
  unfold fX10_ends_90 at hf
  refine EV.iadd dX10_ends_90 ?_
  obtain ⟨x23, ex23, hf⟩ := pv_bo hf
  refine FV.stiw (L2 := [some (.inr (.inr (0))), some (.inl (a1)), some (.inl (a2)), some (.inl (a3)), some (.inl (a4)), some (.inl (x23)), some (.inl (v6))]) dX10_ends_91 (Nat.le_of_ble_eq_true rfl) ex23 rfl ?_
  obtain ⟨x24, ex24, hf⟩ := pv_bo hf
  refine FV.inc (L2 := [some (.inr (.inr (0))), some (.inl (a1)), some (.inl (a2)), some (.inl (a3)), some (.inl (a4)), some (.inl (x23)), some (.inl (x24))]) dX10_ends_93 rfl (Nat.le_of_ble_eq_true rfl) ex24 rfl ?_
  refine EV.goto (tgt := 56) dX10_ends_96 (by decide) ?_
  refine EV.weak (L2 := [some (.inr (.inr (0))), some (.inl (a1)), some (.inl (a2)), some (.inl (a3)), some (.inl (a4)), some (.inl (x23)), some (.inl (x24))]) (And.intro rfl (And.intro rfl (And.intro rfl (And.intro rfl (And.intro rfl (And.intro rfl (And.intro rfl trivial))))))) ?_
  exact hk56 _ _  _ hf

set_option maxHeartbeats 4000000 in
set_option maxRecDepth 20000 in
theorem tX10_ends_56 {d N : Nat}  {a1 : Int} {a2 : Int} {a3 : Int} {a4 : Int} {h' : pv_H} {r : Int} (hd : 6 ≤ d)   : ∀ (n : Nat) (v5 : Int) (v6 : Int)  (h : pv_H), fX10_ends_56 N  a1 a2 a3 a4 n v5 v6 h = some (h', r) → EV RX10 cX10_ends 7 (some .int) false d pv_SM (MM h') (some (.inl r)) 56 [some (.inr (.inr (0))), some (.inl (a1)), some (.inl (a2)), some (.inl (a3)), some (.inl (a4)), some (.inl (v5)), some (.inl (v6))] [] pv_SM (MM h) := by
  intro n
  induction n with
  | zero =>
    intro v5 v6  h hf
    cases hf
  | succ n ih =>
    intro v5 v6  h hf
    rw [fX10_ends_56] at hf
    refine EV.iload dX10_ends_56 rfl ?_
    refine EV.iload dX10_ends_58 rfl ?_
    refine EV.icmp_gt (tgt := 99) dX10_ends_60 (by decide) (fun q17 => ?_) (fun q17 => ?_)
    · have hf := pv_gp hf q17
      refine EV.iload dX10_ends_99 rfl ?_
      exact FV.iret dX10_ends_101 hf
    · have hf := pv_gn hf q17
      refine EV.aload_n dX10_ends_63 rfl rfl ?_
      refine EV.iload_n dX10_ends_64 rfl rfl ?_
      refine EV.iload_n dX10_ends_65 rfl rfl ?_
      refine EV.iload dX10_ends_66 rfl ?_
      refine EV.iconst dX10_ends_68 (by decide) (by decide) ?_
      refine EV.iconst dX10_ends_69 (by decide) (by decide) ?_
      obtain ⟨h19, r20, hc18, hf⟩ := pv_c2o hf
      refine EV.invV (As := [.inl (a1), .inl (a2), .inl (v6), .inl (1), .inl (-1)]) (st := []) (d1 := d - 1) (sh1 := pv_SM) (h1 := MM h19) (r1 := (some (.inl r20))) dX10_ends_70 sm_0 (by decide) md_X10_piecesOf ml_X10_400 im_X10_piecesOf se_X10_piecesOf (tX10_piecesOf (by omega)  hc18) (by omega) rfl rfl (Nat.le_of_ble_eq_true rfl) ⟨[], (List.append_nil _).symm⟩ ?_
      refine EV.eqS (st2 := [.inl (r20)]) rfl ?_
      refine EV.pop dX10_ends_73 rfl ?_
      refine EV.iload dX10_ends_74 rfl ?_
      refine EV.aload_n dX10_ends_76 rfl rfl ?_
      refine FV.getF (v := 17) dX10_ends_77 sm_0 fl_10_66 rfl rfl hvm_0_44 ?_
      refine EV.iload_n dX10_ends_80 rfl rfl ?_
      obtain ⟨g21, hf⟩ := pv_gd hf
      refine FV.zald dX10_ends_81 sm_17 g21.1 g21.2 (j := (Int.toNat (a3))) rfl ?_
      refine EV.if_eq (tgt := 89) dX10_ends_82 (by decide) (fun q22 => ?_) (fun q22 => ?_)
      · have hf := pv_gp hf q22
        refine EV.iconst dX10_ends_89 (by decide) (by decide) ?_
        refine EV.weak (L2 := [some (.inr (.inr (0))), some (.inl (a1)), some (.inl (a2)), some (.inl (a3)), some (.inl (a4)), none, some (.inl (v6))]) (And.intro rfl (And.intro rfl (And.intro rfl (And.intro rfl (And.intro rfl (And.intro rfl trivial)))))) ?_
        exact tX10_ends_90 hd (ih)   hf
      · have hf := pv_gn hf q22
        refine EV.iconst dX10_ends_85 (by decide) (by decide) ?_
        refine EV.goto (tgt := 90) dX10_ends_86 (by decide) ?_
        refine EV.weak (L2 := [some (.inr (.inr (0))), some (.inl (a1)), some (.inl (a2)), some (.inl (a3)), some (.inl (a4)), none, some (.inl (v6))]) (And.intro rfl (And.intro rfl (And.intro rfl (And.intro rfl (And.intro rfl (And.intro rfl trivial)))))) ?_
        exact tX10_ends_90 hd (ih)   hf

set_option maxHeartbeats 4000000 in
set_option maxRecDepth 20000 in
theorem tX10_ends {d N : Nat} {a1 : Int} {a2 : Int} {a3 : Int} {a4 : Int} {h h' : pv_H} {r : Int} (hd : 6 ≤ d)  (hf : fX10_ends N a1 a2 a3 a4 h = some (h', r)) : CALL yX10_ends cX10_ends 7 (some .int) d pv_SM (MM h) [.inr (.inr (0)), .inl (a1), .inl (a2), .inl (a3), .inl (a4)] pv_SM (MM h') (some (.inl r)) := by
  unfold fX10_ends at hf
  refine EV.call (own := RX10) (ini := false) rfl rfl (fun q => by cases q) ⟨[], (List.append_nil _).symm⟩ (Nat.le_of_ble_eq_true rfl) ?_
  refine EV.eqL (L2 := [some (.inr (.inr (0))), some (.inl (a1)), some (.inl (a2)), some (.inl (a3)), some (.inl (a4)), none, none]) rfl ?_
  refine EV.aload_n dX10_ends_0 rfl rfl ?_
  refine EV.iconst dX10_ends_1 (by decide) (by decide) ?_
  obtain ⟨h1, eh1, hf⟩ := pv_bo hf
  refine FV.putI dX10_ends_2 sm_0 fl_10_1 rfl rfl eh1 ?_
  refine EV.aload_n dX10_ends_5 rfl rfl ?_
  refine EV.iload_n dX10_ends_6 rfl rfl ?_
  refine EV.iload_n dX10_ends_7 rfl rfl ?_
  obtain ⟨r3, hc2, hf⟩ := pv_c1o hf
  refine EV.invV (As := [.inl (a1), .inl (a2)]) (st := []) (d1 := d - 1) (sh1 := pv_SM) (h1 := MM h1) (r1 := (some (.inl r3))) dX10_ends_8 sm_0 (by decide) md_X10_isBoth ml_X10_396 im_X10_isBoth se_X10_isBoth (tX10_isBoth (by omega)  hc2) (by omega) rfl rfl (Nat.le_of_ble_eq_true rfl) ⟨[], (List.append_nil _).symm⟩ ?_
  refine EV.eqS (st2 := [.inl (r3)]) rfl ?_
  refine EV.if_eq (tgt := 23) dX10_ends_11 (by decide) (fun q4 => ?_) (fun q4 => ?_)
  · have hf := pv_gp hf q4
    refine EV.weak (L2 := [some (.inr (.inr (0))), none, none, none, none, none, none]) (And.intro rfl trivial) ?_
    exact tX10_ends_23 hd    hf
  · have hf := pv_gn hf q4
    refine EV.aload_n dX10_ends_14 rfl rfl ?_
    refine EV.iload_n dX10_ends_15 rfl rfl ?_
    refine EV.iload_n dX10_ends_16 rfl rfl ?_
    obtain ⟨r6, hc5, hf⟩ := pv_c1o hf
    refine EV.invV (As := [.inl (a1), .inl (a3)]) (st := []) (d1 := d - 1) (sh1 := pv_SM) (h1 := MM h1) (r1 := (some (.inl r6))) dX10_ends_17 sm_0 (by decide) md_X10_isCell ml_X10_414 im_X10_isCell se_X10_isCell (tX10_isCell (by omega)  hc5) (by omega) rfl rfl (Nat.le_of_ble_eq_true rfl) ⟨[], (List.append_nil _).symm⟩ ?_
    refine EV.eqS (st2 := [.inl (r6)]) rfl ?_
    refine EV.if_ne (tgt := 30) dX10_ends_20 (by decide) (fun q7 => ?_) (fun q7 => ?_)
    · have hf := pv_gn hf q7
      refine EV.iload dX10_ends_30 rfl ?_
      refine EV.i2l dX10_ends_32 ?_
      refine EV.lconst (x := 1) dX10_ends_33 (by decide) (by decide) (by decide) ?_
      refine EV.ldc2 (n := 100) dX10_ends_34 kl_X10_323 (by decide) (by decide) ?_
      obtain ⟨r9, hc8, hf⟩ := pv_c1o hf
      refine EV.invS (As := [.inr (.inl (a4)), .inr (.inl (1)), .inr (.inl (100))]) (st := []) (d1 := d - 1) (sh1 := pv_SM) (h1 := MM h1) (r1 := (some (.inl r9))) dX10_ends_37 md_X10_within ml_X10_193 st_X10_within (tX10_within (by omega)  hc8) (by omega) rfl rfl (Nat.le_of_ble_eq_true rfl) ⟨[], (List.append_nil _).symm⟩ ?_
      refine EV.eqS (st2 := [.inl (r9)]) rfl ?_
      refine EV.if_ne (tgt := 50) dX10_ends_40 (by decide) (fun q10 => ?_) (fun q10 => ?_)
      · have hf := pv_gn hf q10
        refine EV.iconst dX10_ends_50 (by decide) (by decide) ?_
        refine FV.stiw (L2 := [some (.inr (.inr (0))), some (.inl (a1)), some (.inl (a2)), some (.inl (a3)), some (.inl (a4)), some (.inl (0)), none]) dX10_ends_51 (Nat.le_of_ble_eq_true rfl) rfl rfl ?_
        refine EV.iconst dX10_ends_53 (by decide) (by decide) ?_
        refine FV.stiw (L2 := [some (.inr (.inr (0))), some (.inl (a1)), some (.inl (a2)), some (.inl (a3)), some (.inl (a4)), some (.inl (0)), some (.inl (1))]) dX10_ends_54 (Nat.le_of_ble_eq_true rfl) rfl rfl ?_
        refine EV.weak (L2 := [some (.inr (.inr (0))), some (.inl (a1)), some (.inl (a2)), some (.inl (a3)), some (.inl (a4)), some (.inl (0)), some (.inl (1))]) (And.intro rfl (And.intro rfl (And.intro rfl (And.intro rfl (And.intro rfl (And.intro rfl (And.intro rfl trivial))))))) ?_
        exact tX10_ends_56 hd   _ _ _  _ hf
      · have hf := pv_gp hf q10
        refine EV.aload_n dX10_ends_43 rfl rfl ?_
        refine EV.bipush dX10_ends_44 (by decide) (by decide) ?_
        obtain ⟨h12, r13, hc11, hf⟩ := pv_c2o hf
        refine EV.invV (As := [.inl (-3)]) (st := []) (d1 := d - 1) (sh1 := pv_SM) (h1 := MM h12) (r1 := (some (.inl r13))) dX10_ends_46 sm_0 (by decide) md_X10_no ml_X10_131 im_X10_no se_X10_no (tX10_no (by omega)  hc11) (by omega) rfl rfl (Nat.le_of_ble_eq_true rfl) ⟨[], (List.append_nil _).symm⟩ ?_
        refine EV.eqS (st2 := [.inl (r13)]) rfl ?_
        exact FV.iret dX10_ends_49 hf
    · have hf := pv_gp hf q7
      refine EV.weak (L2 := [some (.inr (.inr (0))), none, none, none, none, none, none]) (And.intro rfl trivial) ?_
      exact tX10_ends_23 hd    hf

noncomputable def fX10_paced (N : Nat) (a1 : Int) (a2 : Int) (a3 : Int) (a4 : Int) (h : pv_H) : Option (pv_H × Int) :=
  pv_b (pv_up h 0 0 0) fun h1 => pv_c1 (fX10_isBoth N a1 a2 h1) fun r3 => if r3 = 0 then (pv_c2b (fX10_no N (-2) h1) fun h15 r16 => some (h15, r16)) else (pv_c1 (fX10_within N a4 1 9 h1) fun r6 => if r6 = 0 then (pv_c2b (fX10_no N (-3) h1) fun h12 r13 => some (h12, r13)) else (pv_c2b (fX10_piecesOf N a1 a2 a3 a4 (-1) h1) fun h9 r10 => some (h9, r10)))

set_option maxHeartbeats 4000000 in
set_option maxRecDepth 20000 in
theorem tX10_paced {d N : Nat} {a1 : Int} {a2 : Int} {a3 : Int} {a4 : Int} {h h' : pv_H} {r : Int} (hd : 6 ≤ d)  (hf : fX10_paced N a1 a2 a3 a4 h = some (h', r)) : CALL yX10_paced cX10_paced 5 (some .int) d pv_SM (MM h) [.inr (.inr (0)), .inl (a1), .inl (a2), .inl (a3), .inl (a4)] pv_SM (MM h') (some (.inl r)) := by
  unfold fX10_paced at hf
  refine EV.call (own := RX10) (ini := false) rfl rfl (fun q => by cases q) ⟨[], (List.append_nil _).symm⟩ (Nat.le_of_ble_eq_true rfl) ?_
  refine EV.eqL (L2 := [some (.inr (.inr (0))), some (.inl (a1)), some (.inl (a2)), some (.inl (a3)), some (.inl (a4))]) rfl ?_
  refine EV.aload_n dX10_paced_0 rfl rfl ?_
  refine EV.iconst dX10_paced_1 (by decide) (by decide) ?_
  obtain ⟨h1, eh1, hf⟩ := pv_bo hf
  refine FV.putI dX10_paced_2 sm_0 fl_10_1 rfl rfl eh1 ?_
  refine EV.aload_n dX10_paced_5 rfl rfl ?_
  refine EV.iload_n dX10_paced_6 rfl rfl ?_
  refine EV.iload_n dX10_paced_7 rfl rfl ?_
  obtain ⟨r3, hc2, hf⟩ := pv_c1o hf
  refine EV.invV (As := [.inl (a1), .inl (a2)]) (st := []) (d1 := d - 1) (sh1 := pv_SM) (h1 := MM h1) (r1 := (some (.inl r3))) dX10_paced_8 sm_0 (by decide) md_X10_isBoth ml_X10_396 im_X10_isBoth se_X10_isBoth (tX10_isBoth (by omega)  hc2) (by omega) rfl rfl (Nat.le_of_ble_eq_true rfl) ⟨[], (List.append_nil _).symm⟩ ?_
  refine EV.eqS (st2 := [.inl (r3)]) rfl ?_
  refine EV.if_ne (tgt := 21) dX10_paced_11 (by decide) (fun q4 => ?_) (fun q4 => ?_)
  · have hf := pv_gn hf q4
    refine EV.iload dX10_paced_21 rfl ?_
    refine EV.i2l dX10_paced_23 ?_
    refine EV.lconst (x := 1) dX10_paced_24 (by decide) (by decide) (by decide) ?_
    refine EV.ldc2 (n := 9) dX10_paced_25 kl_X10_216 (by decide) (by decide) ?_
    obtain ⟨r6, hc5, hf⟩ := pv_c1o hf
    refine EV.invS (As := [.inr (.inl (a4)), .inr (.inl (1)), .inr (.inl (9))]) (st := []) (d1 := d - 1) (sh1 := pv_SM) (h1 := MM h1) (r1 := (some (.inl r6))) dX10_paced_28 md_X10_within ml_X10_193 st_X10_within (tX10_within (by omega)  hc5) (by omega) rfl rfl (Nat.le_of_ble_eq_true rfl) ⟨[], (List.append_nil _).symm⟩ ?_
    refine EV.eqS (st2 := [.inl (r6)]) rfl ?_
    refine EV.if_ne (tgt := 41) dX10_paced_31 (by decide) (fun q7 => ?_) (fun q7 => ?_)
    · have hf := pv_gn hf q7
      refine EV.aload_n dX10_paced_41 rfl rfl ?_
      refine EV.iload_n dX10_paced_42 rfl rfl ?_
      refine EV.iload_n dX10_paced_43 rfl rfl ?_
      refine EV.iload_n dX10_paced_44 rfl rfl ?_
      refine EV.iload dX10_paced_45 rfl ?_
      refine EV.iconst dX10_paced_47 (by decide) (by decide) ?_
      obtain ⟨h9, r10, hc8, hf⟩ := pv_c2o hf
      refine EV.invV (As := [.inl (a1), .inl (a2), .inl (a3), .inl (a4), .inl (-1)]) (st := []) (d1 := d - 1) (sh1 := pv_SM) (h1 := MM h9) (r1 := (some (.inl r10))) dX10_paced_48 sm_0 (by decide) md_X10_piecesOf ml_X10_400 im_X10_piecesOf se_X10_piecesOf (tX10_piecesOf (by omega)  hc8) (by omega) rfl rfl (Nat.le_of_ble_eq_true rfl) ⟨[], (List.append_nil _).symm⟩ ?_
      refine EV.eqS (st2 := [.inl (r10)]) rfl ?_
      exact FV.iret dX10_paced_51 hf
    · have hf := pv_gp hf q7
      refine EV.aload_n dX10_paced_34 rfl rfl ?_
      refine EV.bipush dX10_paced_35 (by decide) (by decide) ?_
      obtain ⟨h12, r13, hc11, hf⟩ := pv_c2o hf
      refine EV.invV (As := [.inl (-3)]) (st := []) (d1 := d - 1) (sh1 := pv_SM) (h1 := MM h12) (r1 := (some (.inl r13))) dX10_paced_37 sm_0 (by decide) md_X10_no ml_X10_131 im_X10_no se_X10_no (tX10_no (by omega)  hc11) (by omega) rfl rfl (Nat.le_of_ble_eq_true rfl) ⟨[], (List.append_nil _).symm⟩ ?_
      refine EV.eqS (st2 := [.inl (r13)]) rfl ?_
      exact FV.iret dX10_paced_40 hf
  · have hf := pv_gp hf q4
    refine EV.aload_n dX10_paced_14 rfl rfl ?_
    refine EV.bipush dX10_paced_15 (by decide) (by decide) ?_
    obtain ⟨h15, r16, hc14, hf⟩ := pv_c2o hf
    refine EV.invV (As := [.inl (-2)]) (st := []) (d1 := d - 1) (sh1 := pv_SM) (h1 := MM h15) (r1 := (some (.inl r16))) dX10_paced_17 sm_0 (by decide) md_X10_no ml_X10_131 im_X10_no se_X10_no (tX10_no (by omega)  hc14) (by omega) rfl rfl (Nat.le_of_ble_eq_true rfl) ⟨[], (List.append_nil _).symm⟩ ?_
    refine EV.eqS (st2 := [.inl (r16)]) rfl ?_
    exact FV.iret dX10_paced_20 hf

noncomputable def fX10_turned (N : Nat) (a1 : Int) (a2 : Int) (a3 : Int) (a4 : Int) (h : pv_H) : Option (pv_H × Int) :=
  pv_b (pv_up h 0 0 0) fun h1 => pv_c1 (fX10_isBoth N a1 a2 h1) fun r3 => if r3 = 0 then (pv_c2b (fX10_no N (-2) h1) fun h15 r16 => some (h15, r16)) else (pv_c1 (fX10_within N a4 0 999 h1) fun r6 => if r6 = 0 then (pv_c2b (fX10_no N (-3) h1) fun h12 r13 => some (h12, r13)) else (pv_c2b (fX10_piecesOf N a1 a2 a3 1 a4 h1) fun h9 r10 => some (h9, r10)))

set_option maxHeartbeats 4000000 in
set_option maxRecDepth 20000 in
theorem tX10_turned {d N : Nat} {a1 : Int} {a2 : Int} {a3 : Int} {a4 : Int} {h h' : pv_H} {r : Int} (hd : 6 ≤ d)  (hf : fX10_turned N a1 a2 a3 a4 h = some (h', r)) : CALL yX10_turned cX10_turned 5 (some .int) d pv_SM (MM h) [.inr (.inr (0)), .inl (a1), .inl (a2), .inl (a3), .inl (a4)] pv_SM (MM h') (some (.inl r)) := by
  unfold fX10_turned at hf
  refine EV.call (own := RX10) (ini := false) rfl rfl (fun q => by cases q) ⟨[], (List.append_nil _).symm⟩ (Nat.le_of_ble_eq_true rfl) ?_
  refine EV.eqL (L2 := [some (.inr (.inr (0))), some (.inl (a1)), some (.inl (a2)), some (.inl (a3)), some (.inl (a4))]) rfl ?_
  refine EV.aload_n dX10_turned_0 rfl rfl ?_
  refine EV.iconst dX10_turned_1 (by decide) (by decide) ?_
  obtain ⟨h1, eh1, hf⟩ := pv_bo hf
  refine FV.putI dX10_turned_2 sm_0 fl_10_1 rfl rfl eh1 ?_
  refine EV.aload_n dX10_turned_5 rfl rfl ?_
  refine EV.iload_n dX10_turned_6 rfl rfl ?_
  refine EV.iload_n dX10_turned_7 rfl rfl ?_
  obtain ⟨r3, hc2, hf⟩ := pv_c1o hf
  refine EV.invV (As := [.inl (a1), .inl (a2)]) (st := []) (d1 := d - 1) (sh1 := pv_SM) (h1 := MM h1) (r1 := (some (.inl r3))) dX10_turned_8 sm_0 (by decide) md_X10_isBoth ml_X10_396 im_X10_isBoth se_X10_isBoth (tX10_isBoth (by omega)  hc2) (by omega) rfl rfl (Nat.le_of_ble_eq_true rfl) ⟨[], (List.append_nil _).symm⟩ ?_
  refine EV.eqS (st2 := [.inl (r3)]) rfl ?_
  refine EV.if_ne (tgt := 21) dX10_turned_11 (by decide) (fun q4 => ?_) (fun q4 => ?_)
  · have hf := pv_gn hf q4
    refine EV.iload dX10_turned_21 rfl ?_
    refine EV.i2l dX10_turned_23 ?_
    refine EV.lconst (x := 0) dX10_turned_24 (by decide) (by decide) (by decide) ?_
    refine EV.ldc2 (n := 999) dX10_turned_25 kl_X10_417 (by decide) (by decide) ?_
    obtain ⟨r6, hc5, hf⟩ := pv_c1o hf
    refine EV.invS (As := [.inr (.inl (a4)), .inr (.inl (0)), .inr (.inl (999))]) (st := []) (d1 := d - 1) (sh1 := pv_SM) (h1 := MM h1) (r1 := (some (.inl r6))) dX10_turned_28 md_X10_within ml_X10_193 st_X10_within (tX10_within (by omega)  hc5) (by omega) rfl rfl (Nat.le_of_ble_eq_true rfl) ⟨[], (List.append_nil _).symm⟩ ?_
    refine EV.eqS (st2 := [.inl (r6)]) rfl ?_
    refine EV.if_ne (tgt := 41) dX10_turned_31 (by decide) (fun q7 => ?_) (fun q7 => ?_)
    · have hf := pv_gn hf q7
      refine EV.aload_n dX10_turned_41 rfl rfl ?_
      refine EV.iload_n dX10_turned_42 rfl rfl ?_
      refine EV.iload_n dX10_turned_43 rfl rfl ?_
      refine EV.iload_n dX10_turned_44 rfl rfl ?_
      refine EV.iconst dX10_turned_45 (by decide) (by decide) ?_
      refine EV.iload dX10_turned_46 rfl ?_
      obtain ⟨h9, r10, hc8, hf⟩ := pv_c2o hf
      refine EV.invV (As := [.inl (a1), .inl (a2), .inl (a3), .inl (1), .inl (a4)]) (st := []) (d1 := d - 1) (sh1 := pv_SM) (h1 := MM h9) (r1 := (some (.inl r10))) dX10_turned_48 sm_0 (by decide) md_X10_piecesOf ml_X10_400 im_X10_piecesOf se_X10_piecesOf (tX10_piecesOf (by omega)  hc8) (by omega) rfl rfl (Nat.le_of_ble_eq_true rfl) ⟨[], (List.append_nil _).symm⟩ ?_
      refine EV.eqS (st2 := [.inl (r10)]) rfl ?_
      exact FV.iret dX10_turned_51 hf
    · have hf := pv_gp hf q7
      refine EV.aload_n dX10_turned_34 rfl rfl ?_
      refine EV.bipush dX10_turned_35 (by decide) (by decide) ?_
      obtain ⟨h12, r13, hc11, hf⟩ := pv_c2o hf
      refine EV.invV (As := [.inl (-3)]) (st := []) (d1 := d - 1) (sh1 := pv_SM) (h1 := MM h12) (r1 := (some (.inl r13))) dX10_turned_37 sm_0 (by decide) md_X10_no ml_X10_131 im_X10_no se_X10_no (tX10_no (by omega)  hc11) (by omega) rfl rfl (Nat.le_of_ble_eq_true rfl) ⟨[], (List.append_nil _).symm⟩ ?_
      refine EV.eqS (st2 := [.inl (r13)]) rfl ?_
      exact FV.iret dX10_turned_40 hf
  · have hf := pv_gp hf q4
    refine EV.aload_n dX10_turned_14 rfl rfl ?_
    refine EV.bipush dX10_turned_15 (by decide) (by decide) ?_
    obtain ⟨h15, r16, hc14, hf⟩ := pv_c2o hf
    refine EV.invV (As := [.inl (-2)]) (st := []) (d1 := d - 1) (sh1 := pv_SM) (h1 := MM h15) (r1 := (some (.inl r16))) dX10_turned_17 sm_0 (by decide) md_X10_no ml_X10_131 im_X10_no se_X10_no (tX10_no (by omega)  hc14) (by omega) rfl rfl (Nat.le_of_ble_eq_true rfl) ⟨[], (List.append_nil _).symm⟩ ?_
    refine EV.eqS (st2 := [.inl (r16)]) rfl ?_
    exact FV.iret dX10_turned_20 hf

noncomputable def fX10_leastTurn_14 (N : Nat)  (a1 : Int) (a2 : Int) (a3 : Int) (a4 : Int) : Nat → Int → pv_H → Option (pv_H × Int)
  | 0, _, _ => none
  | n + 1, v5, h => if 1000 ≤ v5 then (some (h, -1)) else (pv_c1 (fX10_runs N v5 h) fun h6 => if (h6 0 42) = 2 then (some (h6, v5)) else (pv_b (pv_w (v5 + 1)) fun x8 => fX10_leastTurn_14 N  a1 a2 a3 a4 n (x8) h6))

noncomputable def fX10_leastTurn (N : Nat) (a1 : Int) (a2 : Int) (a3 : Int) (a4 : Int) (h : pv_H) : Option (pv_H × Int) :=
  pv_c2b (fX10_piecesOf N a1 a2 a3 a4 0 h) fun h2 r3 => fX10_leastTurn_14 N  a1 a2 a3 a4 N (0) h2

set_option maxHeartbeats 4000000 in
set_option maxRecDepth 20000 in
theorem tX10_leastTurn_14 {d N : Nat}  {a1 : Int} {a2 : Int} {a3 : Int} {a4 : Int} {h' : pv_H} {r : Int} (hd : 6 ≤ d)   : ∀ (n : Nat) (v5 : Int)  (h : pv_H), fX10_leastTurn_14 N  a1 a2 a3 a4 n v5 h = some (h', r) → EV RX10 cX10_leastTurn 6 (some .int) false d pv_SM (MM h') (some (.inl r)) 14 [some (.inr (.inr (0))), none, none, none, none, some (.inl (v5))] [] pv_SM (MM h) := by
  intro n
  induction n with
  | zero =>
    intro v5  h hf
    cases hf
  | succ n ih =>
    intro v5  h hf
    rw [fX10_leastTurn_14] at hf
    refine EV.iload dX10_leastTurn_14 rfl ?_
    refine EV.sipush dX10_leastTurn_16 (by decide) (by decide) ?_
    refine EV.icmp_ge (tgt := 45) dX10_leastTurn_19 (by decide) (fun q4 => ?_) (fun q4 => ?_)
    · have hf := pv_gp hf q4
      refine EV.iconst dX10_leastTurn_45 (by decide) (by decide) ?_
      exact FV.iret dX10_leastTurn_46 hf
    · have hf := pv_gn hf q4
      refine EV.aload_n dX10_leastTurn_22 rfl rfl ?_
      refine EV.iload dX10_leastTurn_23 rfl ?_
      obtain ⟨h6, hc5, hf⟩ := pv_c1o hf
      refine EV.invV (As := [.inl (v5)]) (st := []) (d1 := d - 1) (sh1 := pv_SM) (h1 := MM h6) (r1 := none) dX10_leastTurn_25 sm_0 (by decide) md_X10_runs ml_X10_393 im_X10_runs se_X10_runs (tX10_runs (by omega)  hc5) (by omega) rfl rfl (Nat.le_of_ble_eq_true rfl) ⟨[], (List.append_nil _).symm⟩ ?_
      refine EV.aload_n dX10_leastTurn_28 rfl rfl ?_
      refine FV.getI dX10_leastTurn_29 sm_0 fl_10_390 rfl ?_
      refine EV.iconst dX10_leastTurn_32 (by decide) (by decide) ?_
      refine EV.icmp_ne (tgt := 39) dX10_leastTurn_33 (by decide) (fun q7 => ?_) (fun q7 => ?_)
      · have hf := pv_gn hf q7
        obtain ⟨x8, ex8, hf⟩ := pv_bo hf
        refine FV.inc (L2 := [some (.inr (.inr (0))), none, none, none, none, some (.inl (x8))]) dX10_leastTurn_39 rfl (Nat.le_of_ble_eq_true rfl) ex8 rfl ?_
        refine EV.goto (tgt := 14) dX10_leastTurn_42 (by decide) ?_
        refine EV.weak (L2 := [some (.inr (.inr (0))), none, none, none, none, some (.inl (x8))]) (And.intro rfl (And.intro rfl trivial)) ?_
        exact ih _  _ hf
      · have hf := pv_gp hf q7
        refine EV.iload dX10_leastTurn_36 rfl ?_
        exact FV.iret dX10_leastTurn_38 hf

set_option maxHeartbeats 4000000 in
set_option maxRecDepth 20000 in
theorem tX10_leastTurn {d N : Nat} {a1 : Int} {a2 : Int} {a3 : Int} {a4 : Int} {h h' : pv_H} {r : Int} (hd : 6 ≤ d)  (hf : fX10_leastTurn N a1 a2 a3 a4 h = some (h', r)) : CALL yX10_leastTurn cX10_leastTurn 6 (some .int) d pv_SM (MM h) [.inr (.inr (0)), .inl (a1), .inl (a2), .inl (a3), .inl (a4)] pv_SM (MM h') (some (.inl r)) := by
  unfold fX10_leastTurn at hf
  refine EV.call (own := RX10) (ini := false) rfl rfl (fun q => by cases q) ⟨[], (List.append_nil _).symm⟩ (Nat.le_of_ble_eq_true rfl) ?_
  refine EV.eqL (L2 := [some (.inr (.inr (0))), some (.inl (a1)), some (.inl (a2)), some (.inl (a3)), some (.inl (a4)), none]) rfl ?_
  refine EV.aload_n dX10_leastTurn_0 rfl rfl ?_
  refine EV.iload_n dX10_leastTurn_1 rfl rfl ?_
  refine EV.iload_n dX10_leastTurn_2 rfl rfl ?_
  refine EV.iload_n dX10_leastTurn_3 rfl rfl ?_
  refine EV.iload dX10_leastTurn_4 rfl ?_
  refine EV.iconst dX10_leastTurn_6 (by decide) (by decide) ?_
  obtain ⟨h2, r3, hc1, hf⟩ := pv_c2o hf
  refine EV.invV (As := [.inl (a1), .inl (a2), .inl (a3), .inl (a4), .inl (0)]) (st := []) (d1 := d - 1) (sh1 := pv_SM) (h1 := MM h2) (r1 := (some (.inl r3))) dX10_leastTurn_7 sm_0 (by decide) md_X10_piecesOf ml_X10_400 im_X10_piecesOf se_X10_piecesOf (tX10_piecesOf (by omega)  hc1) (by omega) rfl rfl (Nat.le_of_ble_eq_true rfl) ⟨[], (List.append_nil _).symm⟩ ?_
  refine EV.eqS (st2 := [.inl (r3)]) rfl ?_
  refine EV.pop dX10_leastTurn_10 rfl ?_
  refine EV.iconst dX10_leastTurn_11 (by decide) (by decide) ?_
  refine FV.stiw (L2 := [some (.inr (.inr (0))), some (.inl (a1)), some (.inl (a2)), some (.inl (a3)), some (.inl (a4)), some (.inl (0))]) dX10_leastTurn_12 (Nat.le_of_ble_eq_true rfl) rfl rfl ?_
  refine EV.weak (L2 := [some (.inr (.inr (0))), none, none, none, none, some (.inl (0))]) (And.intro rfl (And.intro rfl trivial)) ?_
  exact tX10_leastTurn_14 hd   _ _  _ hf

noncomputable def fX10_least (N : Nat) (a1 : Int) (a2 : Int) (a3 : Int) (h : pv_H) : Option (pv_H × Int) :=
  pv_b (pv_up h 0 0 0) fun h1 => pv_c1 (fX10_isBoth N a1 a2 h1) fun r3 => if r3 = 0 then (pv_c2b (fX10_no N (-2) h1) fun h9 r10 => some (h9, r10)) else (pv_c2b (fX10_leastTurn N a1 a2 a3 1 h1) fun h6 r7 => some (h6, r7))

set_option maxHeartbeats 4000000 in
set_option maxRecDepth 20000 in
theorem tX10_least {d N : Nat} {a1 : Int} {a2 : Int} {a3 : Int} {h h' : pv_H} {r : Int} (hd : 7 ≤ d)  (hf : fX10_least N a1 a2 a3 h = some (h', r)) : CALL yX10_least cX10_least 4 (some .int) d pv_SM (MM h) [.inr (.inr (0)), .inl (a1), .inl (a2), .inl (a3)] pv_SM (MM h') (some (.inl r)) := by
  unfold fX10_least at hf
  refine EV.call (own := RX10) (ini := false) rfl rfl (fun q => by cases q) ⟨[], (List.append_nil _).symm⟩ (Nat.le_of_ble_eq_true rfl) ?_
  refine EV.eqL (L2 := [some (.inr (.inr (0))), some (.inl (a1)), some (.inl (a2)), some (.inl (a3))]) rfl ?_
  refine EV.aload_n dX10_least_0 rfl rfl ?_
  refine EV.iconst dX10_least_1 (by decide) (by decide) ?_
  obtain ⟨h1, eh1, hf⟩ := pv_bo hf
  refine FV.putI dX10_least_2 sm_0 fl_10_1 rfl rfl eh1 ?_
  refine EV.aload_n dX10_least_5 rfl rfl ?_
  refine EV.iload_n dX10_least_6 rfl rfl ?_
  refine EV.iload_n dX10_least_7 rfl rfl ?_
  obtain ⟨r3, hc2, hf⟩ := pv_c1o hf
  refine EV.invV (As := [.inl (a1), .inl (a2)]) (st := []) (d1 := d - 1) (sh1 := pv_SM) (h1 := MM h1) (r1 := (some (.inl r3))) dX10_least_8 sm_0 (by decide) md_X10_isBoth ml_X10_396 im_X10_isBoth se_X10_isBoth (tX10_isBoth (by omega)  hc2) (by omega) rfl rfl (Nat.le_of_ble_eq_true rfl) ⟨[], (List.append_nil _).symm⟩ ?_
  refine EV.eqS (st2 := [.inl (r3)]) rfl ?_
  refine EV.if_ne (tgt := 21) dX10_least_11 (by decide) (fun q4 => ?_) (fun q4 => ?_)
  · have hf := pv_gn hf q4
    refine EV.aload_n dX10_least_21 rfl rfl ?_
    refine EV.iload_n dX10_least_22 rfl rfl ?_
    refine EV.iload_n dX10_least_23 rfl rfl ?_
    refine EV.iload_n dX10_least_24 rfl rfl ?_
    refine EV.iconst dX10_least_25 (by decide) (by decide) ?_
    obtain ⟨h6, r7, hc5, hf⟩ := pv_c2o hf
    refine EV.invV (As := [.inl (a1), .inl (a2), .inl (a3), .inl (1)]) (st := []) (d1 := d - 1) (sh1 := pv_SM) (h1 := MM h6) (r1 := (some (.inl r7))) dX10_least_26 sm_0 (by decide) md_X10_leastTurn ml_X10_419 im_X10_leastTurn se_X10_leastTurn (tX10_leastTurn (by omega)  hc5) (by omega) rfl rfl (Nat.le_of_ble_eq_true rfl) ⟨[], (List.append_nil _).symm⟩ ?_
    refine EV.eqS (st2 := [.inl (r7)]) rfl ?_
    exact FV.iret dX10_least_29 hf
  · have hf := pv_gp hf q4
    refine EV.aload_n dX10_least_14 rfl rfl ?_
    refine EV.bipush dX10_least_15 (by decide) (by decide) ?_
    obtain ⟨h9, r10, hc8, hf⟩ := pv_c2o hf
    refine EV.invV (As := [.inl (-2)]) (st := []) (d1 := d - 1) (sh1 := pv_SM) (h1 := MM h9) (r1 := (some (.inl r10))) dX10_least_17 sm_0 (by decide) md_X10_no ml_X10_131 im_X10_no se_X10_no (tX10_no (by omega)  hc8) (by omega) rfl rfl (Nat.le_of_ble_eq_true rfl) ⟨[], (List.append_nil _).symm⟩ ?_
    refine EV.eqS (st2 := [.inl (r10)]) rfl ?_
    exact FV.iret dX10_least_20 hf

noncomputable def fX10_line (N : Nat) (a1 : Int) (a2 : Int) (a3 : Int) (a4 : Int) (h : pv_H) : Option (pv_H × Int) :=
  pv_b (pv_up h 0 0 0) fun h1 => pv_c1 (fX10_isBoth N a1 a2 h1) fun r3 => if r3 = 0 then (pv_c2b (fX10_no N (-2) h1) fun h15 r16 => some (h15, r16)) else (pv_c1 (fX10_within N a4 1 9 h1) fun r6 => if r6 = 0 then (pv_c2b (fX10_no N (-3) h1) fun h12 r13 => some (h12, r13)) else (pv_c2b (fX10_leastTurn N a1 a2 a3 a4 h1) fun h9 r10 => some (h9, r10)))

set_option maxHeartbeats 4000000 in
set_option maxRecDepth 20000 in
theorem tX10_line {d N : Nat} {a1 : Int} {a2 : Int} {a3 : Int} {a4 : Int} {h h' : pv_H} {r : Int} (hd : 7 ≤ d)  (hf : fX10_line N a1 a2 a3 a4 h = some (h', r)) : CALL yX10_line cX10_line 5 (some .int) d pv_SM (MM h) [.inr (.inr (0)), .inl (a1), .inl (a2), .inl (a3), .inl (a4)] pv_SM (MM h') (some (.inl r)) := by
  unfold fX10_line at hf
  refine EV.call (own := RX10) (ini := false) rfl rfl (fun q => by cases q) ⟨[], (List.append_nil _).symm⟩ (Nat.le_of_ble_eq_true rfl) ?_
  refine EV.eqL (L2 := [some (.inr (.inr (0))), some (.inl (a1)), some (.inl (a2)), some (.inl (a3)), some (.inl (a4))]) rfl ?_
  refine EV.aload_n dX10_line_0 rfl rfl ?_
  refine EV.iconst dX10_line_1 (by decide) (by decide) ?_
  obtain ⟨h1, eh1, hf⟩ := pv_bo hf
  refine FV.putI dX10_line_2 sm_0 fl_10_1 rfl rfl eh1 ?_
  refine EV.aload_n dX10_line_5 rfl rfl ?_
  refine EV.iload_n dX10_line_6 rfl rfl ?_
  refine EV.iload_n dX10_line_7 rfl rfl ?_
  obtain ⟨r3, hc2, hf⟩ := pv_c1o hf
  refine EV.invV (As := [.inl (a1), .inl (a2)]) (st := []) (d1 := d - 1) (sh1 := pv_SM) (h1 := MM h1) (r1 := (some (.inl r3))) dX10_line_8 sm_0 (by decide) md_X10_isBoth ml_X10_396 im_X10_isBoth se_X10_isBoth (tX10_isBoth (by omega)  hc2) (by omega) rfl rfl (Nat.le_of_ble_eq_true rfl) ⟨[], (List.append_nil _).symm⟩ ?_
  refine EV.eqS (st2 := [.inl (r3)]) rfl ?_
  refine EV.if_ne (tgt := 21) dX10_line_11 (by decide) (fun q4 => ?_) (fun q4 => ?_)
  · have hf := pv_gn hf q4
    refine EV.iload dX10_line_21 rfl ?_
    refine EV.i2l dX10_line_23 ?_
    refine EV.lconst (x := 1) dX10_line_24 (by decide) (by decide) (by decide) ?_
    refine EV.ldc2 (n := 9) dX10_line_25 kl_X10_216 (by decide) (by decide) ?_
    obtain ⟨r6, hc5, hf⟩ := pv_c1o hf
    refine EV.invS (As := [.inr (.inl (a4)), .inr (.inl (1)), .inr (.inl (9))]) (st := []) (d1 := d - 1) (sh1 := pv_SM) (h1 := MM h1) (r1 := (some (.inl r6))) dX10_line_28 md_X10_within ml_X10_193 st_X10_within (tX10_within (by omega)  hc5) (by omega) rfl rfl (Nat.le_of_ble_eq_true rfl) ⟨[], (List.append_nil _).symm⟩ ?_
    refine EV.eqS (st2 := [.inl (r6)]) rfl ?_
    refine EV.if_ne (tgt := 41) dX10_line_31 (by decide) (fun q7 => ?_) (fun q7 => ?_)
    · have hf := pv_gn hf q7
      refine EV.aload_n dX10_line_41 rfl rfl ?_
      refine EV.iload_n dX10_line_42 rfl rfl ?_
      refine EV.iload_n dX10_line_43 rfl rfl ?_
      refine EV.iload_n dX10_line_44 rfl rfl ?_
      refine EV.iload dX10_line_45 rfl ?_
      obtain ⟨h9, r10, hc8, hf⟩ := pv_c2o hf
      refine EV.invV (As := [.inl (a1), .inl (a2), .inl (a3), .inl (a4)]) (st := []) (d1 := d - 1) (sh1 := pv_SM) (h1 := MM h9) (r1 := (some (.inl r10))) dX10_line_47 sm_0 (by decide) md_X10_leastTurn ml_X10_419 im_X10_leastTurn se_X10_leastTurn (tX10_leastTurn (by omega)  hc8) (by omega) rfl rfl (Nat.le_of_ble_eq_true rfl) ⟨[], (List.append_nil _).symm⟩ ?_
      refine EV.eqS (st2 := [.inl (r10)]) rfl ?_
      exact FV.iret dX10_line_50 hf
    · have hf := pv_gp hf q7
      refine EV.aload_n dX10_line_34 rfl rfl ?_
      refine EV.bipush dX10_line_35 (by decide) (by decide) ?_
      obtain ⟨h12, r13, hc11, hf⟩ := pv_c2o hf
      refine EV.invV (As := [.inl (-3)]) (st := []) (d1 := d - 1) (sh1 := pv_SM) (h1 := MM h12) (r1 := (some (.inl r13))) dX10_line_37 sm_0 (by decide) md_X10_no ml_X10_131 im_X10_no se_X10_no (tX10_no (by omega)  hc11) (by omega) rfl rfl (Nat.le_of_ble_eq_true rfl) ⟨[], (List.append_nil _).symm⟩ ?_
      refine EV.eqS (st2 := [.inl (r13)]) rfl ?_
      exact FV.iret dX10_line_40 hf
  · have hf := pv_gp hf q4
    refine EV.aload_n dX10_line_14 rfl rfl ?_
    refine EV.bipush dX10_line_15 (by decide) (by decide) ?_
    obtain ⟨h15, r16, hc14, hf⟩ := pv_c2o hf
    refine EV.invV (As := [.inl (-2)]) (st := []) (d1 := d - 1) (sh1 := pv_SM) (h1 := MM h15) (r1 := (some (.inl r16))) dX10_line_17 sm_0 (by decide) md_X10_no ml_X10_131 im_X10_no se_X10_no (tX10_no (by omega)  hc14) (by omega) rfl rfl (Nat.le_of_ble_eq_true rfl) ⟨[], (List.append_nil _).symm⟩ ?_
    refine EV.eqS (st2 := [.inl (r16)]) rfl ?_
    exact FV.iret dX10_line_20 hf

noncomputable def fX10_notchedTo (N : Nat) (a1 : Int) (a2 : Int) (a3 : Int) (a4 : Int) (a5 : Int) (h : pv_H) : Option (pv_H × Int) :=
  pv_c1 (fX10_takes N a1 h) fun h2 => pv_c1 (fX10_does N a2 1 h2) fun h4 => if 0 ≤ a4 ∧ a4 < 60 then (pv_b (pv_up h4 8 (Int.toNat (a4)) a5) fun h6 => pv_c1 (fX10_draws N a3 h6) fun h8 => pv_c1 (fX10_runs N 0 h8) fun h10 => some (h10, h10 0 42)) else none

set_option maxHeartbeats 4000000 in
set_option maxRecDepth 20000 in
theorem tX10_notchedTo {d N : Nat} {a1 : Int} {a2 : Int} {a3 : Int} {a4 : Int} {a5 : Int} {h h' : pv_H} {r : Int} (hd : 5 ≤ d)  (hf : fX10_notchedTo N a1 a2 a3 a4 a5 h = some (h', r)) : CALL yX10_notchedTo cX10_notchedTo 6 (some .int) d pv_SM (MM h) [.inr (.inr (0)), .inl (a1), .inl (a2), .inl (a3), .inl (a4), .inl (a5)] pv_SM (MM h') (some (.inl r)) := by
  unfold fX10_notchedTo at hf
  refine EV.call (own := RX10) (ini := false) rfl rfl (fun q => by cases q) ⟨[], (List.append_nil _).symm⟩ (Nat.le_of_ble_eq_true rfl) ?_
  refine EV.eqL (L2 := [some (.inr (.inr (0))), some (.inl (a1)), some (.inl (a2)), some (.inl (a3)), some (.inl (a4)), some (.inl (a5))]) rfl ?_
  refine EV.aload_n dX10_notchedTo_0 rfl rfl ?_
  refine EV.iload_n dX10_notchedTo_1 rfl rfl ?_
  obtain ⟨h2, hc1, hf⟩ := pv_c1o hf
  refine EV.invV (As := [.inl (a1)]) (st := []) (d1 := d - 1) (sh1 := pv_SM) (h1 := MM h2) (r1 := none) dX10_notchedTo_2 sm_0 (by decide) md_X10_takes ml_X10_282 im_X10_takes se_X10_takes (tX10_takes (by omega)  hc1) (by omega) rfl rfl (Nat.le_of_ble_eq_true rfl) ⟨[], (List.append_nil _).symm⟩ ?_
  refine EV.aload_n dX10_notchedTo_5 rfl rfl ?_
  refine EV.iload_n dX10_notchedTo_6 rfl rfl ?_
  refine EV.iconst dX10_notchedTo_7 (by decide) (by decide) ?_
  obtain ⟨h4, hc3, hf⟩ := pv_c1o hf
  refine EV.invV (As := [.inl (a2), .inl (1)]) (st := []) (d1 := d - 1) (sh1 := pv_SM) (h1 := MM h4) (r1 := none) dX10_notchedTo_8 sm_0 (by decide) md_X10_does ml_X10_317 im_X10_does se_X10_does (tX10_does (by omega)  hc3) (by omega) rfl rfl (Nat.le_of_ble_eq_true rfl) ⟨[], (List.append_nil _).symm⟩ ?_
  refine EV.aload_n dX10_notchedTo_11 rfl rfl ?_
  refine FV.getF (v := 8) dX10_notchedTo_12 sm_0 fl_10_39 rfl rfl hvm_0_23 ?_
  refine EV.iload dX10_notchedTo_15 rfl ?_
  refine EV.iload dX10_notchedTo_17 rfl ?_
  obtain ⟨g5, hf⟩ := pv_gd hf
  obtain ⟨h6, eh6, hf⟩ := pv_bo hf
  refine FV.iast dX10_notchedTo_19 sm_8 g5.1 g5.2 (j := (Int.toNat (a4))) rfl eh6 ?_
  refine EV.aload_n dX10_notchedTo_20 rfl rfl ?_
  refine EV.iload_n dX10_notchedTo_21 rfl rfl ?_
  obtain ⟨h8, hc7, hf⟩ := pv_c1o hf
  refine EV.invV (As := [.inl (a3)]) (st := []) (d1 := d - 1) (sh1 := pv_SM) (h1 := MM h8) (r1 := none) dX10_notchedTo_22 sm_0 (by decide) md_X10_draws ml_X10_285 im_X10_draws se_X10_draws (tX10_draws (by omega)  hc7) (by omega) rfl rfl (Nat.le_of_ble_eq_true rfl) ⟨[], (List.append_nil _).symm⟩ ?_
  refine EV.aload_n dX10_notchedTo_25 rfl rfl ?_
  refine EV.iconst dX10_notchedTo_26 (by decide) (by decide) ?_
  obtain ⟨h10, hc9, hf⟩ := pv_c1o hf
  refine EV.invV (As := [.inl (0)]) (st := []) (d1 := d - 1) (sh1 := pv_SM) (h1 := MM h10) (r1 := none) dX10_notchedTo_27 sm_0 (by decide) md_X10_runs ml_X10_393 im_X10_runs se_X10_runs (tX10_runs (by omega)  hc9) (by omega) rfl rfl (Nat.le_of_ble_eq_true rfl) ⟨[], (List.append_nil _).symm⟩ ?_
  refine EV.aload_n dX10_notchedTo_30 rfl rfl ?_
  refine FV.getI dX10_notchedTo_31 sm_0 fl_10_390 rfl ?_
  exact FV.iret dX10_notchedTo_34 hf

noncomputable def fX10_notched_24 (N : Nat)  (a1 : Int) (a2 : Int) (a3 : Int) (a4 : Int) (a5 : Int)  (h : pv_H) : Option (pv_H × Int) :=
  pv_c2b (fX10_no N (-2) h) fun h18 r19 => some (h18, r19)

noncomputable def fX10_notched (N : Nat) (a1 : Int) (a2 : Int) (a3 : Int) (a4 : Int) (a5 : Int) (h : pv_H) : Option (pv_H × Int) :=
  pv_b (pv_up h 0 0 0) fun h1 => pv_c1 (fX10_isBoth N a1 a2 h1) fun r3 => if r3 = 0 then (fX10_notched_24 N  a1 a2 a3 a4 a5  h1) else (pv_c1 (fX10_isCell N a1 a4 h1) fun r6 => if r6 = 0 then (fX10_notched_24 N  a1 a2 a3 a4 a5  h1) else (pv_c1 (fX10_within N a5 0 99 h1) fun r9 => if r9 = 0 then (pv_c2b (fX10_no N (-3) h1) fun h15 r16 => some (h15, r16)) else (pv_c2b (fX10_notchedTo N a1 a2 a3 a4 a5 h1) fun h12 r13 => some (h12, r13))))

set_option maxHeartbeats 4000000 in
set_option maxRecDepth 20000 in
theorem tX10_notched_24 {d N : Nat}  {a1 : Int} {a2 : Int} {a3 : Int} {a4 : Int} {a5 : Int}  {h h' : pv_H} {r : Int} (hd : 6 ≤ d)    (hf : fX10_notched_24 N  a1 a2 a3 a4 a5  h = some (h', r)) : EV RX10 cX10_notched 6 (some .int) false d pv_SM (MM h') (some (.inl r)) 24 [some (.inr (.inr (0))), none, none, none, none, none] [] pv_SM (MM h) := by
  unfold fX10_notched_24 at hf
  refine EV.aload_n dX10_notched_24 rfl rfl ?_
  refine EV.bipush dX10_notched_25 (by decide) (by decide) ?_
  obtain ⟨h18, r19, hc17, hf⟩ := pv_c2o hf
  refine EV.invV (As := [.inl (-2)]) (st := []) (d1 := d - 1) (sh1 := pv_SM) (h1 := MM h18) (r1 := (some (.inl r19))) dX10_notched_27 sm_0 (by decide) md_X10_no ml_X10_131 im_X10_no se_X10_no (tX10_no (by omega)  hc17) (by omega) rfl rfl (Nat.le_of_ble_eq_true rfl) ⟨[], (List.append_nil _).symm⟩ ?_
  refine EV.eqS (st2 := [.inl (r19)]) rfl ?_
  exact FV.iret dX10_notched_30 hf

set_option maxHeartbeats 4000000 in
set_option maxRecDepth 20000 in
theorem tX10_notched {d N : Nat} {a1 : Int} {a2 : Int} {a3 : Int} {a4 : Int} {a5 : Int} {h h' : pv_H} {r : Int} (hd : 6 ≤ d)  (hf : fX10_notched N a1 a2 a3 a4 a5 h = some (h', r)) : CALL yX10_notched cX10_notched 6 (some .int) d pv_SM (MM h) [.inr (.inr (0)), .inl (a1), .inl (a2), .inl (a3), .inl (a4), .inl (a5)] pv_SM (MM h') (some (.inl r)) := by
  unfold fX10_notched at hf
  refine EV.call (own := RX10) (ini := false) rfl rfl (fun q => by cases q) ⟨[], (List.append_nil _).symm⟩ (Nat.le_of_ble_eq_true rfl) ?_
  refine EV.eqL (L2 := [some (.inr (.inr (0))), some (.inl (a1)), some (.inl (a2)), some (.inl (a3)), some (.inl (a4)), some (.inl (a5))]) rfl ?_
  refine EV.aload_n dX10_notched_0 rfl rfl ?_
  refine EV.iconst dX10_notched_1 (by decide) (by decide) ?_
  obtain ⟨h1, eh1, hf⟩ := pv_bo hf
  refine FV.putI dX10_notched_2 sm_0 fl_10_1 rfl rfl eh1 ?_
  refine EV.aload_n dX10_notched_5 rfl rfl ?_
  refine EV.iload_n dX10_notched_6 rfl rfl ?_
  refine EV.iload_n dX10_notched_7 rfl rfl ?_
  obtain ⟨r3, hc2, hf⟩ := pv_c1o hf
  refine EV.invV (As := [.inl (a1), .inl (a2)]) (st := []) (d1 := d - 1) (sh1 := pv_SM) (h1 := MM h1) (r1 := (some (.inl r3))) dX10_notched_8 sm_0 (by decide) md_X10_isBoth ml_X10_396 im_X10_isBoth se_X10_isBoth (tX10_isBoth (by omega)  hc2) (by omega) rfl rfl (Nat.le_of_ble_eq_true rfl) ⟨[], (List.append_nil _).symm⟩ ?_
  refine EV.eqS (st2 := [.inl (r3)]) rfl ?_
  refine EV.if_eq (tgt := 24) dX10_notched_11 (by decide) (fun q4 => ?_) (fun q4 => ?_)
  · have hf := pv_gp hf q4
    refine EV.weak (L2 := [some (.inr (.inr (0))), none, none, none, none, none]) (And.intro rfl trivial) ?_
    exact tX10_notched_24 hd    hf
  · have hf := pv_gn hf q4
    refine EV.aload_n dX10_notched_14 rfl rfl ?_
    refine EV.iload_n dX10_notched_15 rfl rfl ?_
    refine EV.iload dX10_notched_16 rfl ?_
    obtain ⟨r6, hc5, hf⟩ := pv_c1o hf
    refine EV.invV (As := [.inl (a1), .inl (a4)]) (st := []) (d1 := d - 1) (sh1 := pv_SM) (h1 := MM h1) (r1 := (some (.inl r6))) dX10_notched_18 sm_0 (by decide) md_X10_isCell ml_X10_414 im_X10_isCell se_X10_isCell (tX10_isCell (by omega)  hc5) (by omega) rfl rfl (Nat.le_of_ble_eq_true rfl) ⟨[], (List.append_nil _).symm⟩ ?_
    refine EV.eqS (st2 := [.inl (r6)]) rfl ?_
    refine EV.if_ne (tgt := 31) dX10_notched_21 (by decide) (fun q7 => ?_) (fun q7 => ?_)
    · have hf := pv_gn hf q7
      refine EV.iload dX10_notched_31 rfl ?_
      refine EV.i2l dX10_notched_33 ?_
      refine EV.lconst (x := 0) dX10_notched_34 (by decide) (by decide) (by decide) ?_
      refine EV.ldc2 (n := 99) dX10_notched_35 kl_X10_423 (by decide) (by decide) ?_
      obtain ⟨r9, hc8, hf⟩ := pv_c1o hf
      refine EV.invS (As := [.inr (.inl (a5)), .inr (.inl (0)), .inr (.inl (99))]) (st := []) (d1 := d - 1) (sh1 := pv_SM) (h1 := MM h1) (r1 := (some (.inl r9))) dX10_notched_38 md_X10_within ml_X10_193 st_X10_within (tX10_within (by omega)  hc8) (by omega) rfl rfl (Nat.le_of_ble_eq_true rfl) ⟨[], (List.append_nil _).symm⟩ ?_
      refine EV.eqS (st2 := [.inl (r9)]) rfl ?_
      refine EV.if_ne (tgt := 51) dX10_notched_41 (by decide) (fun q10 => ?_) (fun q10 => ?_)
      · have hf := pv_gn hf q10
        refine EV.aload_n dX10_notched_51 rfl rfl ?_
        refine EV.iload_n dX10_notched_52 rfl rfl ?_
        refine EV.iload_n dX10_notched_53 rfl rfl ?_
        refine EV.iload_n dX10_notched_54 rfl rfl ?_
        refine EV.iload dX10_notched_55 rfl ?_
        refine EV.iload dX10_notched_57 rfl ?_
        obtain ⟨h12, r13, hc11, hf⟩ := pv_c2o hf
        refine EV.invV (As := [.inl (a1), .inl (a2), .inl (a3), .inl (a4), .inl (a5)]) (st := []) (d1 := d - 1) (sh1 := pv_SM) (h1 := MM h12) (r1 := (some (.inl r13))) dX10_notched_59 sm_0 (by decide) md_X10_notchedTo ml_X10_425 im_X10_notchedTo se_X10_notchedTo (tX10_notchedTo (by omega)  hc11) (by omega) rfl rfl (Nat.le_of_ble_eq_true rfl) ⟨[], (List.append_nil _).symm⟩ ?_
        refine EV.eqS (st2 := [.inl (r13)]) rfl ?_
        exact FV.iret dX10_notched_62 hf
      · have hf := pv_gp hf q10
        refine EV.aload_n dX10_notched_44 rfl rfl ?_
        refine EV.bipush dX10_notched_45 (by decide) (by decide) ?_
        obtain ⟨h15, r16, hc14, hf⟩ := pv_c2o hf
        refine EV.invV (As := [.inl (-3)]) (st := []) (d1 := d - 1) (sh1 := pv_SM) (h1 := MM h15) (r1 := (some (.inl r16))) dX10_notched_47 sm_0 (by decide) md_X10_no ml_X10_131 im_X10_no se_X10_no (tX10_no (by omega)  hc14) (by omega) rfl rfl (Nat.le_of_ble_eq_true rfl) ⟨[], (List.append_nil _).symm⟩ ?_
        refine EV.eqS (st2 := [.inl (r16)]) rfl ?_
        exact FV.iret dX10_notched_50 hf
    · have hf := pv_gp hf q7
      refine EV.weak (L2 := [some (.inr (.inr (0))), none, none, none, none, none]) (And.intro rfl trivial) ?_
      exact tX10_notched_24 hd    hf

noncomputable def fX10_notch_25 (N : Nat)  (a1 : Int) (a2 : Int) (a3 : Int) (a4 : Int)  (h : pv_H) : Option (pv_H × Int) :=
  pv_c2b (fX10_no N (-2) h) fun h13 r14 => some (h13, r14)

noncomputable def fX10_notch_122 (N : Nat)  (a1 : Int) (a2 : Int) (a3 : Int) (a4 : Int) (s0 : Int) (h : pv_H) : Option (pv_H × Int) :=
  some (h, s0)

noncomputable def fX10_notch_56 (N : Nat) (k46 : Int → pv_H → Option (pv_H × Int)) (a1 : Int) (a2 : Int) (a3 : Int) (a4 : Int) : Nat → Int → Int → pv_H → Option (pv_H × Int)
  | 0, _, _, _ => none
  | n + 1, v5, v6, h => if (h 0 19) ≤ v6 then (pv_b (pv_w (v5 + 1)) fun x17 => k46 (x17) h) else (if 0 ≤ v6 ∧ v6 < 60 then (pv_b (h 8 (Int.toNat (v6))) fun x19 => if 0 ≤ v6 ∧ v6 < 60 then (pv_b (pv_up h 8 (Int.toNat (v6)) v5) fun h21 => pv_c1 (fX10_draws N a3 h21) fun h23 => if 0 ≤ v6 ∧ v6 < 60 then (pv_b (pv_up h23 8 (Int.toNat (v6)) x19) fun h25 => pv_c1 (fX10_runs N 0 h25) fun h27 => if (h27 0 42) = 2 then (if a4 = 0 then (fX10_notch_122 N  a1 a2 a3 a4 (v5) h27) else (fX10_notch_122 N  a1 a2 a3 a4 (v6) h27)) else (pv_b (pv_w (v6 + 1)) fun x29 => fX10_notch_56 N k46 a1 a2 a3 a4 n (v5) (x29) h27)) else none) else none) else none)

noncomputable def fX10_notch_46 (N : Nat)  (a1 : Int) (a2 : Int) (a3 : Int) (a4 : Int) : Nat → Int → pv_H → Option (pv_H × Int)
  | 0, _, _ => none
  | n + 1, v5, h => if 100 ≤ v5 then (some (h, -1)) else (fX10_notch_56 N (fun v5_ hh => fX10_notch_46 N  a1 a2 a3 a4 n v5_ hh) a1 a2 a3 a4 N (v5) (0) h)

noncomputable def fX10_notch (N : Nat) (a1 : Int) (a2 : Int) (a3 : Int) (a4 : Int) (h : pv_H) : Option (pv_H × Int) :=
  pv_b (pv_up h 0 0 0) fun h1 => pv_c1 (fX10_isBoth N a1 a2 h1) fun r3 => if r3 = 0 then (fX10_notch_25 N  a1 a2 a3 a4  h1) else (pv_c1 (fX10_within N a4 0 1 h1) fun r6 => if r6 = 0 then (fX10_notch_25 N  a1 a2 a3 a4  h1) else (pv_c1 (fX10_takes N a1 h1) fun h9 => pv_c1 (fX10_does N a2 1 h9) fun h11 => fX10_notch_46 N  a1 a2 a3 a4 N (0) h11))

set_option maxHeartbeats 4000000 in
set_option maxRecDepth 20000 in
theorem tX10_notch_25 {d N : Nat}  {a1 : Int} {a2 : Int} {a3 : Int} {a4 : Int}  {h h' : pv_H} {r : Int} (hd : 5 ≤ d)    (hf : fX10_notch_25 N  a1 a2 a3 a4  h = some (h', r)) : EV RX10 cX10_notch 8 (some .int) false d pv_SM (MM h') (some (.inl r)) 25 [some (.inr (.inr (0))), none, none, none, none, none, none, none] [] pv_SM (MM h) := by
  unfold fX10_notch_25 at hf
  refine EV.aload_n dX10_notch_25 rfl rfl ?_
  refine EV.bipush dX10_notch_26 (by decide) (by decide) ?_
  obtain ⟨h13, r14, hc12, hf⟩ := pv_c2o hf
  refine EV.invV (As := [.inl (-2)]) (st := []) (d1 := d - 1) (sh1 := pv_SM) (h1 := MM h13) (r1 := (some (.inl r14))) dX10_notch_28 sm_0 (by decide) md_X10_no ml_X10_131 im_X10_no se_X10_no (tX10_no (by omega)  hc12) (by omega) rfl rfl (Nat.le_of_ble_eq_true rfl) ⟨[], (List.append_nil _).symm⟩ ?_
  refine EV.eqS (st2 := [.inl (r14)]) rfl ?_
  exact FV.iret dX10_notch_31 hf

set_option maxHeartbeats 4000000 in
set_option maxRecDepth 20000 in
theorem tX10_notch_122 {d N : Nat}  {a1 : Int} {a2 : Int} {a3 : Int} {a4 : Int} {s0 : Int} {h h' : pv_H} {r : Int} (hd : 5 ≤ d)    (hf : fX10_notch_122 N  a1 a2 a3 a4 s0 h = some (h', r)) : EV RX10 cX10_notch 8 (some .int) false d pv_SM (MM h') (some (.inl r)) 122 [none, none, none, none, none, none, none, none] [.inl (s0)] pv_SM (MM h) := by
  unfold fX10_notch_122 at hf
  exact FV.iret dX10_notch_122 hf

set_option maxHeartbeats 4000000 in
set_option maxRecDepth 20000 in
theorem tX10_notch_56 {d N : Nat} {k46 : Int → pv_H → Option (pv_H × Int)} {a1 : Int} {a2 : Int} {a3 : Int} {a4 : Int} {h' : pv_H} {r : Int} (hd : 5 ≤ d) (hk46 : ∀ (v5 : Int)  (hh : pv_H), k46 v5 hh = some (h', r) → EV RX10 cX10_notch 8 (some .int) false d pv_SM (MM h') (some (.inl r)) 46 [some (.inr (.inr (0))), none, none, some (.inl (a3)), some (.inl (a4)), some (.inl (v5)), none, none] [] pv_SM (MM hh))  : ∀ (n : Nat) (v5 : Int) (v6 : Int)  (h : pv_H), fX10_notch_56 N k46 a1 a2 a3 a4 n v5 v6 h = some (h', r) → EV RX10 cX10_notch 8 (some .int) false d pv_SM (MM h') (some (.inl r)) 56 [some (.inr (.inr (0))), none, none, some (.inl (a3)), some (.inl (a4)), some (.inl (v5)), some (.inl (v6)), none] [] pv_SM (MM h) := by
  intro n
  induction n with
  | zero =>
    intro v5 v6  h hf
    cases hf
  | succ n ih =>
    intro v5 v6  h hf
    rw [fX10_notch_56] at hf
    refine EV.iload dX10_notch_56 rfl ?_
    refine EV.aload_n dX10_notch_58 rfl rfl ?_
    refine FV.getI dX10_notch_59 sm_0 fl_10_267 rfl ?_
    refine EV.icmp_ge (tgt := 129) dX10_notch_62 (by decide) (fun q16 => ?_) (fun q16 => ?_)
    · have hf := pv_gp hf q16
      obtain ⟨x17, ex17, hf⟩ := pv_bo hf
      refine FV.inc (L2 := [some (.inr (.inr (0))), none, none, some (.inl (a3)), some (.inl (a4)), some (.inl (x17)), some (.inl (v6)), none]) dX10_notch_129 rfl (Nat.le_of_ble_eq_true rfl) ex17 rfl ?_
      refine EV.goto (tgt := 46) dX10_notch_132 (by decide) ?_
      refine EV.weak (L2 := [some (.inr (.inr (0))), none, none, some (.inl (a3)), some (.inl (a4)), some (.inl (x17)), none, none]) (And.intro rfl (And.intro rfl (And.intro rfl (And.intro rfl trivial)))) ?_
      exact hk46 _  _ hf
    · have hf := pv_gn hf q16
      refine EV.aload_n dX10_notch_65 rfl rfl ?_
      refine FV.getF (v := 8) dX10_notch_66 sm_0 fl_10_39 rfl rfl hvm_0_23 ?_
      refine EV.iload dX10_notch_69 rfl ?_
      obtain ⟨g18, hf⟩ := pv_gd hf
      refine FV.iald dX10_notch_71 sm_8 g18.1 g18.2 (j := (Int.toNat (v6))) rfl ?_
      obtain ⟨x19, ex19, hf⟩ := pv_bo hf
      refine FV.stiw (L2 := [some (.inr (.inr (0))), none, none, some (.inl (a3)), some (.inl (a4)), some (.inl (v5)), some (.inl (v6)), some (.inl (x19))]) dX10_notch_72 (Nat.le_of_ble_eq_true rfl) ex19 rfl ?_
      refine EV.aload_n dX10_notch_74 rfl rfl ?_
      refine FV.getF (v := 8) dX10_notch_75 sm_0 fl_10_39 rfl rfl hvm_0_23 ?_
      refine EV.iload dX10_notch_78 rfl ?_
      refine EV.iload dX10_notch_80 rfl ?_
      obtain ⟨g20, hf⟩ := pv_gd hf
      obtain ⟨h21, eh21, hf⟩ := pv_bo hf
      refine FV.iast dX10_notch_82 sm_8 g20.1 g20.2 (j := (Int.toNat (v6))) rfl eh21 ?_
      refine EV.aload_n dX10_notch_83 rfl rfl ?_
      refine EV.iload_n dX10_notch_84 rfl rfl ?_
      obtain ⟨h23, hc22, hf⟩ := pv_c1o hf
      refine EV.invV (As := [.inl (a3)]) (st := []) (d1 := d - 1) (sh1 := pv_SM) (h1 := MM h23) (r1 := none) dX10_notch_85 sm_0 (by decide) md_X10_draws ml_X10_285 im_X10_draws se_X10_draws (tX10_draws (by omega)  hc22) (by omega) rfl rfl (Nat.le_of_ble_eq_true rfl) ⟨[], (List.append_nil _).symm⟩ ?_
      refine EV.aload_n dX10_notch_88 rfl rfl ?_
      refine FV.getF (v := 8) dX10_notch_89 sm_0 fl_10_39 rfl rfl hvm_0_23 ?_
      refine EV.iload dX10_notch_92 rfl ?_
      refine EV.iload dX10_notch_94 rfl ?_
      obtain ⟨g24, hf⟩ := pv_gd hf
      obtain ⟨h25, eh25, hf⟩ := pv_bo hf
      refine FV.iast dX10_notch_96 sm_8 g24.1 g24.2 (j := (Int.toNat (v6))) rfl eh25 ?_
      refine EV.aload_n dX10_notch_97 rfl rfl ?_
      refine EV.iconst dX10_notch_98 (by decide) (by decide) ?_
      obtain ⟨h27, hc26, hf⟩ := pv_c1o hf
      refine EV.invV (As := [.inl (0)]) (st := []) (d1 := d - 1) (sh1 := pv_SM) (h1 := MM h27) (r1 := none) dX10_notch_99 sm_0 (by decide) md_X10_runs ml_X10_393 im_X10_runs se_X10_runs (tX10_runs (by omega)  hc26) (by omega) rfl rfl (Nat.le_of_ble_eq_true rfl) ⟨[], (List.append_nil _).symm⟩ ?_
      refine EV.aload_n dX10_notch_102 rfl rfl ?_
      refine FV.getI dX10_notch_103 sm_0 fl_10_390 rfl ?_
      refine EV.iconst dX10_notch_106 (by decide) (by decide) ?_
      refine EV.icmp_ne (tgt := 123) dX10_notch_107 (by decide) (fun q28 => ?_) (fun q28 => ?_)
      · have hf := pv_gn hf q28
        obtain ⟨x29, ex29, hf⟩ := pv_bo hf
        refine FV.inc (L2 := [some (.inr (.inr (0))), none, none, some (.inl (a3)), some (.inl (a4)), some (.inl (v5)), some (.inl (x29)), some (.inl (x19))]) dX10_notch_123 rfl (Nat.le_of_ble_eq_true rfl) ex29 rfl ?_
        refine EV.goto (tgt := 56) dX10_notch_126 (by decide) ?_
        refine EV.weak (L2 := [some (.inr (.inr (0))), none, none, some (.inl (a3)), some (.inl (a4)), some (.inl (v5)), some (.inl (x29)), none]) (And.intro rfl (And.intro rfl (And.intro rfl (And.intro rfl (And.intro rfl trivial))))) ?_
        exact ih _ _  _ hf
      · have hf := pv_gp hf q28
        refine EV.iload dX10_notch_110 rfl ?_
        refine EV.if_ne (tgt := 120) dX10_notch_112 (by decide) (fun q30 => ?_) (fun q30 => ?_)
        · have hf := pv_gn hf q30
          refine EV.iload dX10_notch_120 rfl ?_
          refine EV.weak (L2 := [none, none, none, none, none, none, none, none]) trivial ?_
          exact tX10_notch_122 hd    hf
        · have hf := pv_gp hf q30
          refine EV.iload dX10_notch_115 rfl ?_
          refine EV.goto (tgt := 122) dX10_notch_117 (by decide) ?_
          refine EV.weak (L2 := [none, none, none, none, none, none, none, none]) trivial ?_
          exact tX10_notch_122 hd    hf

set_option maxHeartbeats 4000000 in
set_option maxRecDepth 20000 in
theorem tX10_notch_46 {d N : Nat}  {a1 : Int} {a2 : Int} {a3 : Int} {a4 : Int} {h' : pv_H} {r : Int} (hd : 5 ≤ d)   : ∀ (n : Nat) (v5 : Int)  (h : pv_H), fX10_notch_46 N  a1 a2 a3 a4 n v5 h = some (h', r) → EV RX10 cX10_notch 8 (some .int) false d pv_SM (MM h') (some (.inl r)) 46 [some (.inr (.inr (0))), none, none, some (.inl (a3)), some (.inl (a4)), some (.inl (v5)), none, none] [] pv_SM (MM h) := by
  intro n
  induction n with
  | zero =>
    intro v5  h hf
    cases hf
  | succ n ih =>
    intro v5  h hf
    rw [fX10_notch_46] at hf
    refine EV.iload dX10_notch_46 rfl ?_
    refine EV.bipush dX10_notch_48 (by decide) (by decide) ?_
    refine EV.icmp_ge (tgt := 135) dX10_notch_50 (by decide) (fun q15 => ?_) (fun q15 => ?_)
    · have hf := pv_gp hf q15
      refine EV.iconst dX10_notch_135 (by decide) (by decide) ?_
      exact FV.iret dX10_notch_136 hf
    · have hf := pv_gn hf q15
      refine EV.iconst dX10_notch_53 (by decide) (by decide) ?_
      refine FV.stiw (L2 := [some (.inr (.inr (0))), none, none, some (.inl (a3)), some (.inl (a4)), some (.inl (v5)), some (.inl (0)), none]) dX10_notch_54 (Nat.le_of_ble_eq_true rfl) rfl rfl ?_
      refine EV.weak (L2 := [some (.inr (.inr (0))), none, none, some (.inl (a3)), some (.inl (a4)), some (.inl (v5)), some (.inl (0)), none]) (And.intro rfl (And.intro rfl (And.intro rfl (And.intro rfl (And.intro rfl trivial))))) ?_
      exact tX10_notch_56 hd (ih)  _ _ _  _ hf

set_option maxHeartbeats 4000000 in
set_option maxRecDepth 20000 in
theorem tX10_notch {d N : Nat} {a1 : Int} {a2 : Int} {a3 : Int} {a4 : Int} {h h' : pv_H} {r : Int} (hd : 5 ≤ d)  (hf : fX10_notch N a1 a2 a3 a4 h = some (h', r)) : CALL yX10_notch cX10_notch 8 (some .int) d pv_SM (MM h) [.inr (.inr (0)), .inl (a1), .inl (a2), .inl (a3), .inl (a4)] pv_SM (MM h') (some (.inl r)) := by
  unfold fX10_notch at hf
  refine EV.call (own := RX10) (ini := false) rfl rfl (fun q => by cases q) ⟨[], (List.append_nil _).symm⟩ (Nat.le_of_ble_eq_true rfl) ?_
  refine EV.eqL (L2 := [some (.inr (.inr (0))), some (.inl (a1)), some (.inl (a2)), some (.inl (a3)), some (.inl (a4)), none, none, none]) rfl ?_
  refine EV.aload_n dX10_notch_0 rfl rfl ?_
  refine EV.iconst dX10_notch_1 (by decide) (by decide) ?_
  obtain ⟨h1, eh1, hf⟩ := pv_bo hf
  refine FV.putI dX10_notch_2 sm_0 fl_10_1 rfl rfl eh1 ?_
  refine EV.aload_n dX10_notch_5 rfl rfl ?_
  refine EV.iload_n dX10_notch_6 rfl rfl ?_
  refine EV.iload_n dX10_notch_7 rfl rfl ?_
  obtain ⟨r3, hc2, hf⟩ := pv_c1o hf
  refine EV.invV (As := [.inl (a1), .inl (a2)]) (st := []) (d1 := d - 1) (sh1 := pv_SM) (h1 := MM h1) (r1 := (some (.inl r3))) dX10_notch_8 sm_0 (by decide) md_X10_isBoth ml_X10_396 im_X10_isBoth se_X10_isBoth (tX10_isBoth (by omega)  hc2) (by omega) rfl rfl (Nat.le_of_ble_eq_true rfl) ⟨[], (List.append_nil _).symm⟩ ?_
  refine EV.eqS (st2 := [.inl (r3)]) rfl ?_
  refine EV.if_eq (tgt := 25) dX10_notch_11 (by decide) (fun q4 => ?_) (fun q4 => ?_)
  · have hf := pv_gp hf q4
    refine EV.weak (L2 := [some (.inr (.inr (0))), none, none, none, none, none, none, none]) (And.intro rfl trivial) ?_
    exact tX10_notch_25 hd    hf
  · have hf := pv_gn hf q4
    refine EV.iload dX10_notch_14 rfl ?_
    refine EV.i2l dX10_notch_16 ?_
    refine EV.lconst (x := 0) dX10_notch_17 (by decide) (by decide) (by decide) ?_
    refine EV.lconst (x := 1) dX10_notch_18 (by decide) (by decide) (by decide) ?_
    obtain ⟨r6, hc5, hf⟩ := pv_c1o hf
    refine EV.invS (As := [.inr (.inl (a4)), .inr (.inl (0)), .inr (.inl (1))]) (st := []) (d1 := d - 1) (sh1 := pv_SM) (h1 := MM h1) (r1 := (some (.inl r6))) dX10_notch_19 md_X10_within ml_X10_193 st_X10_within (tX10_within (by omega)  hc5) (by omega) rfl rfl (Nat.le_of_ble_eq_true rfl) ⟨[], (List.append_nil _).symm⟩ ?_
    refine EV.eqS (st2 := [.inl (r6)]) rfl ?_
    refine EV.if_ne (tgt := 32) dX10_notch_22 (by decide) (fun q7 => ?_) (fun q7 => ?_)
    · have hf := pv_gn hf q7
      refine EV.aload_n dX10_notch_32 rfl rfl ?_
      refine EV.iload_n dX10_notch_33 rfl rfl ?_
      obtain ⟨h9, hc8, hf⟩ := pv_c1o hf
      refine EV.invV (As := [.inl (a1)]) (st := []) (d1 := d - 1) (sh1 := pv_SM) (h1 := MM h9) (r1 := none) dX10_notch_34 sm_0 (by decide) md_X10_takes ml_X10_282 im_X10_takes se_X10_takes (tX10_takes (by omega)  hc8) (by omega) rfl rfl (Nat.le_of_ble_eq_true rfl) ⟨[], (List.append_nil _).symm⟩ ?_
      refine EV.aload_n dX10_notch_37 rfl rfl ?_
      refine EV.iload_n dX10_notch_38 rfl rfl ?_
      refine EV.iconst dX10_notch_39 (by decide) (by decide) ?_
      obtain ⟨h11, hc10, hf⟩ := pv_c1o hf
      refine EV.invV (As := [.inl (a2), .inl (1)]) (st := []) (d1 := d - 1) (sh1 := pv_SM) (h1 := MM h11) (r1 := none) dX10_notch_40 sm_0 (by decide) md_X10_does ml_X10_317 im_X10_does se_X10_does (tX10_does (by omega)  hc10) (by omega) rfl rfl (Nat.le_of_ble_eq_true rfl) ⟨[], (List.append_nil _).symm⟩ ?_
      refine EV.iconst dX10_notch_43 (by decide) (by decide) ?_
      refine FV.stiw (L2 := [some (.inr (.inr (0))), some (.inl (a1)), some (.inl (a2)), some (.inl (a3)), some (.inl (a4)), some (.inl (0)), none, none]) dX10_notch_44 (Nat.le_of_ble_eq_true rfl) rfl rfl ?_
      refine EV.weak (L2 := [some (.inr (.inr (0))), none, none, some (.inl (a3)), some (.inl (a4)), some (.inl (0)), none, none]) (And.intro rfl (And.intro rfl (And.intro rfl (And.intro rfl trivial)))) ?_
      exact tX10_notch_46 hd   _ _  _ hf
    · have hf := pv_gp hf q7
      refine EV.weak (L2 := [some (.inr (.inr (0))), none, none, none, none, none, none, none]) (And.intro rfl trivial) ?_
      exact tX10_notch_25 hd    hf

noncomputable def fX10_longer_57 (N : Nat)  (a1 : Int) (a2 : Int) (a3 : Int) (a4 : Int) : Nat → Int → pv_H → Option (pv_H × Int)
  | 0, _, _ => none
  | n + 1, v5, h => if a4 ≤ v5 then (pv_c1 (fX10_shapes N  h) fun h19 => pv_c1 (fX10_does N a2 1 h19) fun h21 => pv_c1 (fX10_draws N a3 h21) fun h23 => pv_c1 (fX10_runs N (-1) h23) fun h25 => some (h25, h25 0 42)) else (if 0 ≤ v5 ∧ v5 < 60 then (pv_b (pv_up h 6 (Int.toNat (v5)) (h 6 0)) fun h27 => if 0 ≤ v5 ∧ v5 < 60 then (pv_b (pv_up h27 7 (Int.toNat (v5)) (h27 7 0)) fun h29 => if 0 ≤ v5 ∧ v5 < 60 then (pv_b (pv_up h29 8 (Int.toNat (v5)) (h29 8 0)) fun h31 => if 0 ≤ v5 ∧ v5 < 60 then (pv_b (pv_up h31 9 (Int.toNat (v5)) (h31 9 0)) fun h33 => pv_b (pv_w (v5 + 1)) fun x34 => fX10_longer_57 N  a1 a2 a3 a4 n (x34) h33) else none) else none) else none) else none)

noncomputable def fX10_longer (N : Nat) (a1 : Int) (a2 : Int) (a3 : Int) (a4 : Int) (h : pv_H) : Option (pv_H × Int) :=
  pv_b (pv_up h 0 0 0) fun h1 => pv_c1 (fX10_isBoth N a1 a2 h1) fun r3 => if r3 = 0 then (pv_c2b (fX10_no N (-2) h1) fun h15 r16 => some (h15, r16)) else (pv_c1 (fX10_within N a4 3 60 h1) fun r6 => if r6 = 0 then (pv_c2b (fX10_no N (-3) h1) fun h12 r13 => some (h12, r13)) else (pv_c1 (fX10_takes N a1 h1) fun h9 => pv_b (pv_up h9 0 19 a4) fun h10 => fX10_longer_57 N  a1 a2 a3 a4 N (1) h10))

set_option maxHeartbeats 4000000 in
set_option maxRecDepth 20000 in
theorem tX10_longer_57 {d N : Nat}  {a1 : Int} {a2 : Int} {a3 : Int} {a4 : Int} {h' : pv_H} {r : Int} (hd : 5 ≤ d)   : ∀ (n : Nat) (v5 : Int)  (h : pv_H), fX10_longer_57 N  a1 a2 a3 a4 n v5 h = some (h', r) → EV RX10 cX10_longer 6 (some .int) false d pv_SM (MM h') (some (.inl r)) 57 [some (.inr (.inr (0))), none, some (.inl (a2)), some (.inl (a3)), some (.inl (a4)), some (.inl (v5))] [] pv_SM (MM h) := by
  intro n
  induction n with
  | zero =>
    intro v5  h hf
    cases hf
  | succ n ih =>
    intro v5  h hf
    rw [fX10_longer_57] at hf
    refine EV.iload dX10_longer_57 rfl ?_
    refine EV.iload dX10_longer_59 rfl ?_
    refine EV.icmp_ge (tgt := 122) dX10_longer_61 (by decide) (fun q17 => ?_) (fun q17 => ?_)
    · have hf := pv_gp hf q17
      refine EV.aload_n dX10_longer_122 rfl rfl ?_
      obtain ⟨h19, hc18, hf⟩ := pv_c1o hf
      refine EV.invV (As := []) (st := []) (d1 := d - 1) (sh1 := pv_SM) (h1 := MM h19) (r1 := none) dX10_longer_123 sm_0 (by decide) md_X10_shapes ml_X10_273 im_X10_shapes se_X10_shapes (tX10_shapes (by omega)  hc18) (by omega) rfl rfl (Nat.le_of_ble_eq_true rfl) ⟨[], (List.append_nil _).symm⟩ ?_
      refine EV.aload_n dX10_longer_126 rfl rfl ?_
      refine EV.iload_n dX10_longer_127 rfl rfl ?_
      refine EV.iconst dX10_longer_128 (by decide) (by decide) ?_
      obtain ⟨h21, hc20, hf⟩ := pv_c1o hf
      refine EV.invV (As := [.inl (a2), .inl (1)]) (st := []) (d1 := d - 1) (sh1 := pv_SM) (h1 := MM h21) (r1 := none) dX10_longer_129 sm_0 (by decide) md_X10_does ml_X10_317 im_X10_does se_X10_does (tX10_does (by omega)  hc20) (by omega) rfl rfl (Nat.le_of_ble_eq_true rfl) ⟨[], (List.append_nil _).symm⟩ ?_
      refine EV.aload_n dX10_longer_132 rfl rfl ?_
      refine EV.iload_n dX10_longer_133 rfl rfl ?_
      obtain ⟨h23, hc22, hf⟩ := pv_c1o hf
      refine EV.invV (As := [.inl (a3)]) (st := []) (d1 := d - 1) (sh1 := pv_SM) (h1 := MM h23) (r1 := none) dX10_longer_134 sm_0 (by decide) md_X10_draws ml_X10_285 im_X10_draws se_X10_draws (tX10_draws (by omega)  hc22) (by omega) rfl rfl (Nat.le_of_ble_eq_true rfl) ⟨[], (List.append_nil _).symm⟩ ?_
      refine EV.aload_n dX10_longer_137 rfl rfl ?_
      refine EV.iconst dX10_longer_138 (by decide) (by decide) ?_
      obtain ⟨h25, hc24, hf⟩ := pv_c1o hf
      refine EV.invV (As := [.inl (-1)]) (st := []) (d1 := d - 1) (sh1 := pv_SM) (h1 := MM h25) (r1 := none) dX10_longer_139 sm_0 (by decide) md_X10_runs ml_X10_393 im_X10_runs se_X10_runs (tX10_runs (by omega)  hc24) (by omega) rfl rfl (Nat.le_of_ble_eq_true rfl) ⟨[], (List.append_nil _).symm⟩ ?_
      refine EV.aload_n dX10_longer_142 rfl rfl ?_
      refine FV.getI dX10_longer_143 sm_0 fl_10_390 rfl ?_
      exact FV.iret dX10_longer_146 hf
    · have hf := pv_gn hf q17
      refine EV.aload_n dX10_longer_64 rfl rfl ?_
      refine FV.getF (v := 6) dX10_longer_65 sm_0 fl_10_33 rfl rfl hvm_0_21 ?_
      refine EV.iload dX10_longer_68 rfl ?_
      refine EV.aload_n dX10_longer_70 rfl rfl ?_
      refine FV.getF (v := 6) dX10_longer_71 sm_0 fl_10_33 rfl rfl hvm_0_21 ?_
      refine EV.iconst dX10_longer_74 (by decide) (by decide) ?_
      refine FV.iald dX10_longer_75 sm_6 (by decide) (by decide) (j := 0) rfl ?_
      obtain ⟨g26, hf⟩ := pv_gd hf
      obtain ⟨h27, eh27, hf⟩ := pv_bo hf
      refine FV.iast dX10_longer_76 sm_6 g26.1 g26.2 (j := (Int.toNat (v5))) rfl eh27 ?_
      refine EV.aload_n dX10_longer_77 rfl rfl ?_
      refine FV.getF (v := 7) dX10_longer_78 sm_0 fl_10_36 rfl rfl hvm_0_22 ?_
      refine EV.iload dX10_longer_81 rfl ?_
      refine EV.aload_n dX10_longer_83 rfl rfl ?_
      refine FV.getF (v := 7) dX10_longer_84 sm_0 fl_10_36 rfl rfl hvm_0_22 ?_
      refine EV.iconst dX10_longer_87 (by decide) (by decide) ?_
      refine FV.iald dX10_longer_88 sm_7 (by decide) (by decide) (j := 0) rfl ?_
      obtain ⟨g28, hf⟩ := pv_gd hf
      obtain ⟨h29, eh29, hf⟩ := pv_bo hf
      refine FV.iast dX10_longer_89 sm_7 g28.1 g28.2 (j := (Int.toNat (v5))) rfl eh29 ?_
      refine EV.aload_n dX10_longer_90 rfl rfl ?_
      refine FV.getF (v := 8) dX10_longer_91 sm_0 fl_10_39 rfl rfl hvm_0_23 ?_
      refine EV.iload dX10_longer_94 rfl ?_
      refine EV.aload_n dX10_longer_96 rfl rfl ?_
      refine FV.getF (v := 8) dX10_longer_97 sm_0 fl_10_39 rfl rfl hvm_0_23 ?_
      refine EV.iconst dX10_longer_100 (by decide) (by decide) ?_
      refine FV.iald dX10_longer_101 sm_8 (by decide) (by decide) (j := 0) rfl ?_
      obtain ⟨g30, hf⟩ := pv_gd hf
      obtain ⟨h31, eh31, hf⟩ := pv_bo hf
      refine FV.iast dX10_longer_102 sm_8 g30.1 g30.2 (j := (Int.toNat (v5))) rfl eh31 ?_
      refine EV.aload_n dX10_longer_103 rfl rfl ?_
      refine FV.getF (v := 9) dX10_longer_104 sm_0 fl_10_42 rfl rfl hvm_0_24 ?_
      refine EV.iload dX10_longer_107 rfl ?_
      refine EV.aload_n dX10_longer_109 rfl rfl ?_
      refine FV.getF (v := 9) dX10_longer_110 sm_0 fl_10_42 rfl rfl hvm_0_24 ?_
      refine EV.iconst dX10_longer_113 (by decide) (by decide) ?_
      refine FV.iald dX10_longer_114 sm_9 (by decide) (by decide) (j := 0) rfl ?_
      obtain ⟨g32, hf⟩ := pv_gd hf
      obtain ⟨h33, eh33, hf⟩ := pv_bo hf
      refine FV.iast dX10_longer_115 sm_9 g32.1 g32.2 (j := (Int.toNat (v5))) rfl eh33 ?_
      obtain ⟨x34, ex34, hf⟩ := pv_bo hf
      refine FV.inc (L2 := [some (.inr (.inr (0))), none, some (.inl (a2)), some (.inl (a3)), some (.inl (a4)), some (.inl (x34))]) dX10_longer_116 rfl (Nat.le_of_ble_eq_true rfl) ex34 rfl ?_
      refine EV.goto (tgt := 57) dX10_longer_119 (by decide) ?_
      refine EV.weak (L2 := [some (.inr (.inr (0))), none, some (.inl (a2)), some (.inl (a3)), some (.inl (a4)), some (.inl (x34))]) (And.intro rfl (And.intro rfl (And.intro rfl (And.intro rfl (And.intro rfl trivial))))) ?_
      exact ih _  _ hf

set_option maxHeartbeats 4000000 in
set_option maxRecDepth 20000 in
theorem tX10_longer {d N : Nat} {a1 : Int} {a2 : Int} {a3 : Int} {a4 : Int} {h h' : pv_H} {r : Int} (hd : 5 ≤ d)  (hf : fX10_longer N a1 a2 a3 a4 h = some (h', r)) : CALL yX10_longer cX10_longer 6 (some .int) d pv_SM (MM h) [.inr (.inr (0)), .inl (a1), .inl (a2), .inl (a3), .inl (a4)] pv_SM (MM h') (some (.inl r)) := by
  unfold fX10_longer at hf
  refine EV.call (own := RX10) (ini := false) rfl rfl (fun q => by cases q) ⟨[], (List.append_nil _).symm⟩ (Nat.le_of_ble_eq_true rfl) ?_
  refine EV.eqL (L2 := [some (.inr (.inr (0))), some (.inl (a1)), some (.inl (a2)), some (.inl (a3)), some (.inl (a4)), none]) rfl ?_
  refine EV.aload_n dX10_longer_0 rfl rfl ?_
  refine EV.iconst dX10_longer_1 (by decide) (by decide) ?_
  obtain ⟨h1, eh1, hf⟩ := pv_bo hf
  refine FV.putI dX10_longer_2 sm_0 fl_10_1 rfl rfl eh1 ?_
  refine EV.aload_n dX10_longer_5 rfl rfl ?_
  refine EV.iload_n dX10_longer_6 rfl rfl ?_
  refine EV.iload_n dX10_longer_7 rfl rfl ?_
  obtain ⟨r3, hc2, hf⟩ := pv_c1o hf
  refine EV.invV (As := [.inl (a1), .inl (a2)]) (st := []) (d1 := d - 1) (sh1 := pv_SM) (h1 := MM h1) (r1 := (some (.inl r3))) dX10_longer_8 sm_0 (by decide) md_X10_isBoth ml_X10_396 im_X10_isBoth se_X10_isBoth (tX10_isBoth (by omega)  hc2) (by omega) rfl rfl (Nat.le_of_ble_eq_true rfl) ⟨[], (List.append_nil _).symm⟩ ?_
  refine EV.eqS (st2 := [.inl (r3)]) rfl ?_
  refine EV.if_ne (tgt := 21) dX10_longer_11 (by decide) (fun q4 => ?_) (fun q4 => ?_)
  · have hf := pv_gn hf q4
    refine EV.iload dX10_longer_21 rfl ?_
    refine EV.i2l dX10_longer_23 ?_
    refine EV.ldc2 (n := 3) dX10_longer_24 kl_X10_250 (by decide) (by decide) ?_
    refine EV.ldc2 (n := 60) dX10_longer_27 kl_X10_428 (by decide) (by decide) ?_
    obtain ⟨r6, hc5, hf⟩ := pv_c1o hf
    refine EV.invS (As := [.inr (.inl (a4)), .inr (.inl (3)), .inr (.inl (60))]) (st := []) (d1 := d - 1) (sh1 := pv_SM) (h1 := MM h1) (r1 := (some (.inl r6))) dX10_longer_30 md_X10_within ml_X10_193 st_X10_within (tX10_within (by omega)  hc5) (by omega) rfl rfl (Nat.le_of_ble_eq_true rfl) ⟨[], (List.append_nil _).symm⟩ ?_
    refine EV.eqS (st2 := [.inl (r6)]) rfl ?_
    refine EV.if_ne (tgt := 43) dX10_longer_33 (by decide) (fun q7 => ?_) (fun q7 => ?_)
    · have hf := pv_gn hf q7
      refine EV.aload_n dX10_longer_43 rfl rfl ?_
      refine EV.iload_n dX10_longer_44 rfl rfl ?_
      obtain ⟨h9, hc8, hf⟩ := pv_c1o hf
      refine EV.invV (As := [.inl (a1)]) (st := []) (d1 := d - 1) (sh1 := pv_SM) (h1 := MM h9) (r1 := none) dX10_longer_45 sm_0 (by decide) md_X10_takes ml_X10_282 im_X10_takes se_X10_takes (tX10_takes (by omega)  hc8) (by omega) rfl rfl (Nat.le_of_ble_eq_true rfl) ⟨[], (List.append_nil _).symm⟩ ?_
      refine EV.aload_n dX10_longer_48 rfl rfl ?_
      refine EV.iload dX10_longer_49 rfl ?_
      obtain ⟨h10, eh10, hf⟩ := pv_bo hf
      refine FV.putI dX10_longer_51 sm_0 fl_10_267 rfl rfl eh10 ?_
      refine EV.iconst dX10_longer_54 (by decide) (by decide) ?_
      refine FV.stiw (L2 := [some (.inr (.inr (0))), some (.inl (a1)), some (.inl (a2)), some (.inl (a3)), some (.inl (a4)), some (.inl (1))]) dX10_longer_55 (Nat.le_of_ble_eq_true rfl) rfl rfl ?_
      refine EV.weak (L2 := [some (.inr (.inr (0))), none, some (.inl (a2)), some (.inl (a3)), some (.inl (a4)), some (.inl (1))]) (And.intro rfl (And.intro rfl (And.intro rfl (And.intro rfl (And.intro rfl trivial))))) ?_
      exact tX10_longer_57 hd   _ _  _ hf
    · have hf := pv_gp hf q7
      refine EV.aload_n dX10_longer_36 rfl rfl ?_
      refine EV.bipush dX10_longer_37 (by decide) (by decide) ?_
      obtain ⟨h12, r13, hc11, hf⟩ := pv_c2o hf
      refine EV.invV (As := [.inl (-3)]) (st := []) (d1 := d - 1) (sh1 := pv_SM) (h1 := MM h12) (r1 := (some (.inl r13))) dX10_longer_39 sm_0 (by decide) md_X10_no ml_X10_131 im_X10_no se_X10_no (tX10_no (by omega)  hc11) (by omega) rfl rfl (Nat.le_of_ble_eq_true rfl) ⟨[], (List.append_nil _).symm⟩ ?_
      refine EV.eqS (st2 := [.inl (r13)]) rfl ?_
      exact FV.iret dX10_longer_42 hf
  · have hf := pv_gp hf q4
    refine EV.aload_n dX10_longer_14 rfl rfl ?_
    refine EV.bipush dX10_longer_15 (by decide) (by decide) ?_
    obtain ⟨h15, r16, hc14, hf⟩ := pv_c2o hf
    refine EV.invV (As := [.inl (-2)]) (st := []) (d1 := d - 1) (sh1 := pv_SM) (h1 := MM h15) (r1 := (some (.inl r16))) dX10_longer_17 sm_0 (by decide) md_X10_no ml_X10_131 im_X10_no se_X10_no (tX10_no (by omega)  hc14) (by omega) rfl rfl (Nat.le_of_ble_eq_true rfl) ⟨[], (List.append_nil _).symm⟩ ?_
    refine EV.eqS (st2 := [.inl (r16)]) rfl ?_
    exact FV.iret dX10_longer_20 hf

noncomputable def fX10_thinner_139 (N : Nat) (k49 : Int → pv_H → Option (pv_H × Int)) (a1 : Int) (a2 : Int) (a3 : Int) (a4 : Int) (v5 : Int) (s0 : Int) (s1 : Int) (h : pv_H) : Option (pv_H × Int) :=
  if 0 ≤ s1 ∧ s1 < 60 then (pv_b (pv_up h 7 (Int.toNat (s1)) s0) fun h32 => pv_b (pv_w (v5 + 1)) fun x33 => k49 (x33) h32) else none

noncomputable def fX10_thinner_98 (N : Nat) (k49 : Int → pv_H → Option (pv_H × Int)) (a1 : Int) (a2 : Int) (a3 : Int) (a4 : Int) (v5 : Int) (s0 : Int) (s1 : Int) (h : pv_H) : Option (pv_H × Int) :=
  if 0 ≤ s1 ∧ s1 < 60 then (pv_b (pv_up h 6 (Int.toNat (s1)) s0) fun h27 => if 0 ≤ v5 ∧ v5 < 60 then (if 1 ≤ (pv_w (Int.tdiv (pv_w ((h27 7 (Int.toNat (v5))) * a4)) 100)) then (if 0 ≤ v5 ∧ v5 < 60 then (fX10_thinner_139 N (k49) a1 a2 a3 a4 (v5) (pv_w (Int.tdiv (pv_w ((h27 7 (Int.toNat (v5))) * a4)) 100)) (v5) h27) else none) else (fX10_thinner_139 N (k49) a1 a2 a3 a4 (v5) (1) (v5) h27)) else none) else none

noncomputable def fX10_thinner_49 (N : Nat)  (a1 : Int) (a2 : Int) (a3 : Int) (a4 : Int) : Nat → Int → pv_H → Option (pv_H × Int)
  | 0, _, _ => none
  | n + 1, v5, h => if (h 0 19) ≤ v5 then (pv_c1 (fX10_does N a2 1 h) fun h18 => pv_c1 (fX10_draws N a3 h18) fun h20 => pv_c1 (fX10_runs N (-1) h20) fun h22 => some (h22, h22 0 42)) else (if 0 ≤ v5 ∧ v5 < 60 then (if 1 ≤ (pv_w (Int.tdiv (pv_w ((h 6 (Int.toNat (v5))) * a4)) 100)) then (if 0 ≤ v5 ∧ v5 < 60 then (fX10_thinner_98 N (fun v5_ hh => fX10_thinner_49 N  a1 a2 a3 a4 n v5_ hh) a1 a2 a3 a4 (v5) (pv_w (Int.tdiv (pv_w ((h 6 (Int.toNat (v5))) * a4)) 100)) (v5) h) else none) else (fX10_thinner_98 N (fun v5_ hh => fX10_thinner_49 N  a1 a2 a3 a4 n v5_ hh) a1 a2 a3 a4 (v5) (1) (v5) h)) else none)

noncomputable def fX10_thinner (N : Nat) (a1 : Int) (a2 : Int) (a3 : Int) (a4 : Int) (h : pv_H) : Option (pv_H × Int) :=
  pv_b (pv_up h 0 0 0) fun h1 => pv_c1 (fX10_isBoth N a1 a2 h1) fun r3 => if r3 = 0 then (pv_c2b (fX10_no N (-2) h1) fun h14 r15 => some (h14, r15)) else (pv_c1 (fX10_within N a4 1 100 h1) fun r6 => if r6 = 0 then (pv_c2b (fX10_no N (-3) h1) fun h11 r12 => some (h11, r12)) else (pv_c1 (fX10_takes N a1 h1) fun h9 => fX10_thinner_49 N  a1 a2 a3 a4 N (0) h9))

set_option maxHeartbeats 4000000 in
set_option maxRecDepth 20000 in
theorem tX10_thinner_139 {d N : Nat} {k49 : Int → pv_H → Option (pv_H × Int)} {a1 : Int} {a2 : Int} {a3 : Int} {a4 : Int} {v5 : Int} {s0 : Int} {s1 : Int} {h h' : pv_H} {r : Int} (hd : 5 ≤ d) (hk49 : ∀ (v5 : Int)  (hh : pv_H), k49 v5 hh = some (h', r) → EV RX10 cX10_thinner 6 (some .int) false d pv_SM (MM h') (some (.inl r)) 49 [some (.inr (.inr (0))), none, some (.inl (a2)), some (.inl (a3)), some (.inl (a4)), some (.inl (v5))] [] pv_SM (MM hh))   (hf : fX10_thinner_139 N k49 a1 a2 a3 a4 v5 s0 s1 h = some (h', r)) : EV RX10 cX10_thinner 6 (some .int) false d pv_SM (MM h') (some (.inl r)) 139 [some (.inr (.inr (0))), none, some (.inl (a2)), some (.inl (a3)), some (.inl (a4)), some (.inl (v5))] [.inl (s0), .inl (s1), .inr (.inr (7))] pv_SM (MM h) := by
  unfold fX10_thinner_139 at hf
  obtain ⟨g31, hf⟩ := pv_gd hf
  obtain ⟨h32, eh32, hf⟩ := pv_bo hf
  refine FV.iast dX10_thinner_139 sm_7 g31.1 g31.2 (j := (Int.toNat (s1))) rfl eh32 ?_
  obtain ⟨x33, ex33, hf⟩ := pv_bo hf
  refine FV.inc (L2 := [some (.inr (.inr (0))), none, some (.inl (a2)), some (.inl (a3)), some (.inl (a4)), some (.inl (x33))]) dX10_thinner_140 rfl (Nat.le_of_ble_eq_true rfl) ex33 rfl ?_
  refine EV.goto (tgt := 49) dX10_thinner_143 (by decide) ?_
  refine EV.weak (L2 := [some (.inr (.inr (0))), none, some (.inl (a2)), some (.inl (a3)), some (.inl (a4)), some (.inl (x33))]) (And.intro rfl (And.intro rfl (And.intro rfl (And.intro rfl (And.intro rfl trivial))))) ?_
  exact hk49 _  _ hf

set_option maxHeartbeats 4000000 in
set_option maxRecDepth 20000 in
theorem tX10_thinner_98 {d N : Nat} {k49 : Int → pv_H → Option (pv_H × Int)} {a1 : Int} {a2 : Int} {a3 : Int} {a4 : Int} {v5 : Int} {s0 : Int} {s1 : Int} {h h' : pv_H} {r : Int} (hd : 5 ≤ d) (hk49 : ∀ (v5 : Int)  (hh : pv_H), k49 v5 hh = some (h', r) → EV RX10 cX10_thinner 6 (some .int) false d pv_SM (MM h') (some (.inl r)) 49 [some (.inr (.inr (0))), none, some (.inl (a2)), some (.inl (a3)), some (.inl (a4)), some (.inl (v5))] [] pv_SM (MM hh))   (hf : fX10_thinner_98 N k49 a1 a2 a3 a4 v5 s0 s1 h = some (h', r)) : EV RX10 cX10_thinner 6 (some .int) false d pv_SM (MM h') (some (.inl r)) 98 [some (.inr (.inr (0))), none, some (.inl (a2)), some (.inl (a3)), some (.inl (a4)), some (.inl (v5))] [.inl (s0), .inl (s1), .inr (.inr (6))] pv_SM (MM h) := by
  unfold fX10_thinner_98 at hf
  obtain ⟨g26, hf⟩ := pv_gd hf
  obtain ⟨h27, eh27, hf⟩ := pv_bo hf
  refine FV.iast dX10_thinner_98 sm_6 g26.1 g26.2 (j := (Int.toNat (s1))) rfl eh27 ?_
  refine EV.aload_n dX10_thinner_99 rfl rfl ?_
  refine FV.getF (v := 7) dX10_thinner_100 sm_0 fl_10_36 rfl rfl hvm_0_22 ?_
  refine EV.iload dX10_thinner_103 rfl ?_
  refine EV.aload_n dX10_thinner_105 rfl rfl ?_
  refine FV.getF (v := 7) dX10_thinner_106 sm_0 fl_10_36 rfl rfl hvm_0_22 ?_
  refine EV.iload dX10_thinner_109 rfl ?_
  obtain ⟨g28, hf⟩ := pv_gd hf
  refine FV.iald dX10_thinner_111 sm_7 g28.1 g28.2 (j := (Int.toNat (v5))) rfl ?_
  refine EV.iload dX10_thinner_112 rfl ?_
  refine EV.imul dX10_thinner_114 ?_
  refine EV.bipush dX10_thinner_115 (by decide) (by decide) ?_
  refine EV.idiv dX10_thinner_117 (by decide) ?_
  refine EV.iconst dX10_thinner_118 (by decide) (by decide) ?_
  refine EV.icmp_ge (tgt := 126) dX10_thinner_119 (by decide) (fun q29 => ?_) (fun q29 => ?_)
  · have hf := pv_gp hf q29
    refine EV.aload_n dX10_thinner_126 rfl rfl ?_
    refine FV.getF (v := 7) dX10_thinner_127 sm_0 fl_10_36 rfl rfl hvm_0_22 ?_
    refine EV.iload dX10_thinner_130 rfl ?_
    obtain ⟨g30, hf⟩ := pv_gd hf
    refine FV.iald dX10_thinner_132 sm_7 g30.1 g30.2 (j := (Int.toNat (v5))) rfl ?_
    refine EV.iload dX10_thinner_133 rfl ?_
    refine EV.imul dX10_thinner_135 ?_
    refine EV.bipush dX10_thinner_136 (by decide) (by decide) ?_
    refine EV.idiv dX10_thinner_138 (by decide) ?_
    refine EV.weak (L2 := [some (.inr (.inr (0))), none, some (.inl (a2)), some (.inl (a3)), some (.inl (a4)), some (.inl (v5))]) (And.intro rfl (And.intro rfl (And.intro rfl (And.intro rfl (And.intro rfl trivial))))) ?_
    exact tX10_thinner_139 hd (hk49)   hf
  · have hf := pv_gn hf q29
    refine EV.iconst dX10_thinner_122 (by decide) (by decide) ?_
    refine EV.goto (tgt := 139) dX10_thinner_123 (by decide) ?_
    refine EV.weak (L2 := [some (.inr (.inr (0))), none, some (.inl (a2)), some (.inl (a3)), some (.inl (a4)), some (.inl (v5))]) (And.intro rfl (And.intro rfl (And.intro rfl (And.intro rfl (And.intro rfl trivial))))) ?_
    exact tX10_thinner_139 hd (hk49)   hf

set_option maxHeartbeats 4000000 in
set_option maxRecDepth 20000 in
theorem tX10_thinner_49 {d N : Nat}  {a1 : Int} {a2 : Int} {a3 : Int} {a4 : Int} {h' : pv_H} {r : Int} (hd : 5 ≤ d)   : ∀ (n : Nat) (v5 : Int)  (h : pv_H), fX10_thinner_49 N  a1 a2 a3 a4 n v5 h = some (h', r) → EV RX10 cX10_thinner 6 (some .int) false d pv_SM (MM h') (some (.inl r)) 49 [some (.inr (.inr (0))), none, some (.inl (a2)), some (.inl (a3)), some (.inl (a4)), some (.inl (v5))] [] pv_SM (MM h) := by
  intro n
  induction n with
  | zero =>
    intro v5  h hf
    cases hf
  | succ n ih =>
    intro v5  h hf
    rw [fX10_thinner_49] at hf
    refine EV.iload dX10_thinner_49 rfl ?_
    refine EV.aload_n dX10_thinner_51 rfl rfl ?_
    refine FV.getI dX10_thinner_52 sm_0 fl_10_267 rfl ?_
    refine EV.icmp_ge (tgt := 146) dX10_thinner_55 (by decide) (fun q16 => ?_) (fun q16 => ?_)
    · have hf := pv_gp hf q16
      refine EV.aload_n dX10_thinner_146 rfl rfl ?_
      refine EV.iload_n dX10_thinner_147 rfl rfl ?_
      refine EV.iconst dX10_thinner_148 (by decide) (by decide) ?_
      obtain ⟨h18, hc17, hf⟩ := pv_c1o hf
      refine EV.invV (As := [.inl (a2), .inl (1)]) (st := []) (d1 := d - 1) (sh1 := pv_SM) (h1 := MM h18) (r1 := none) dX10_thinner_149 sm_0 (by decide) md_X10_does ml_X10_317 im_X10_does se_X10_does (tX10_does (by omega)  hc17) (by omega) rfl rfl (Nat.le_of_ble_eq_true rfl) ⟨[], (List.append_nil _).symm⟩ ?_
      refine EV.aload_n dX10_thinner_152 rfl rfl ?_
      refine EV.iload_n dX10_thinner_153 rfl rfl ?_
      obtain ⟨h20, hc19, hf⟩ := pv_c1o hf
      refine EV.invV (As := [.inl (a3)]) (st := []) (d1 := d - 1) (sh1 := pv_SM) (h1 := MM h20) (r1 := none) dX10_thinner_154 sm_0 (by decide) md_X10_draws ml_X10_285 im_X10_draws se_X10_draws (tX10_draws (by omega)  hc19) (by omega) rfl rfl (Nat.le_of_ble_eq_true rfl) ⟨[], (List.append_nil _).symm⟩ ?_
      refine EV.aload_n dX10_thinner_157 rfl rfl ?_
      refine EV.iconst dX10_thinner_158 (by decide) (by decide) ?_
      obtain ⟨h22, hc21, hf⟩ := pv_c1o hf
      refine EV.invV (As := [.inl (-1)]) (st := []) (d1 := d - 1) (sh1 := pv_SM) (h1 := MM h22) (r1 := none) dX10_thinner_159 sm_0 (by decide) md_X10_runs ml_X10_393 im_X10_runs se_X10_runs (tX10_runs (by omega)  hc21) (by omega) rfl rfl (Nat.le_of_ble_eq_true rfl) ⟨[], (List.append_nil _).symm⟩ ?_
      refine EV.aload_n dX10_thinner_162 rfl rfl ?_
      refine FV.getI dX10_thinner_163 sm_0 fl_10_390 rfl ?_
      exact FV.iret dX10_thinner_166 hf
    · have hf := pv_gn hf q16
      refine EV.aload_n dX10_thinner_58 rfl rfl ?_
      refine FV.getF (v := 6) dX10_thinner_59 sm_0 fl_10_33 rfl rfl hvm_0_21 ?_
      refine EV.iload dX10_thinner_62 rfl ?_
      refine EV.aload_n dX10_thinner_64 rfl rfl ?_
      refine FV.getF (v := 6) dX10_thinner_65 sm_0 fl_10_33 rfl rfl hvm_0_21 ?_
      refine EV.iload dX10_thinner_68 rfl ?_
      obtain ⟨g23, hf⟩ := pv_gd hf
      refine FV.iald dX10_thinner_70 sm_6 g23.1 g23.2 (j := (Int.toNat (v5))) rfl ?_
      refine EV.iload dX10_thinner_71 rfl ?_
      refine EV.imul dX10_thinner_73 ?_
      refine EV.bipush dX10_thinner_74 (by decide) (by decide) ?_
      refine EV.idiv dX10_thinner_76 (by decide) ?_
      refine EV.iconst dX10_thinner_77 (by decide) (by decide) ?_
      refine EV.icmp_ge (tgt := 85) dX10_thinner_78 (by decide) (fun q24 => ?_) (fun q24 => ?_)
      · have hf := pv_gp hf q24
        refine EV.aload_n dX10_thinner_85 rfl rfl ?_
        refine FV.getF (v := 6) dX10_thinner_86 sm_0 fl_10_33 rfl rfl hvm_0_21 ?_
        refine EV.iload dX10_thinner_89 rfl ?_
        obtain ⟨g25, hf⟩ := pv_gd hf
        refine FV.iald dX10_thinner_91 sm_6 g25.1 g25.2 (j := (Int.toNat (v5))) rfl ?_
        refine EV.iload dX10_thinner_92 rfl ?_
        refine EV.imul dX10_thinner_94 ?_
        refine EV.bipush dX10_thinner_95 (by decide) (by decide) ?_
        refine EV.idiv dX10_thinner_97 (by decide) ?_
        refine EV.weak (L2 := [some (.inr (.inr (0))), none, some (.inl (a2)), some (.inl (a3)), some (.inl (a4)), some (.inl (v5))]) (And.intro rfl (And.intro rfl (And.intro rfl (And.intro rfl (And.intro rfl trivial))))) ?_
        exact tX10_thinner_98 hd (ih)   hf
      · have hf := pv_gn hf q24
        refine EV.iconst dX10_thinner_81 (by decide) (by decide) ?_
        refine EV.goto (tgt := 98) dX10_thinner_82 (by decide) ?_
        refine EV.weak (L2 := [some (.inr (.inr (0))), none, some (.inl (a2)), some (.inl (a3)), some (.inl (a4)), some (.inl (v5))]) (And.intro rfl (And.intro rfl (And.intro rfl (And.intro rfl (And.intro rfl trivial))))) ?_
        exact tX10_thinner_98 hd (ih)   hf

set_option maxHeartbeats 4000000 in
set_option maxRecDepth 20000 in
theorem tX10_thinner {d N : Nat} {a1 : Int} {a2 : Int} {a3 : Int} {a4 : Int} {h h' : pv_H} {r : Int} (hd : 5 ≤ d)  (hf : fX10_thinner N a1 a2 a3 a4 h = some (h', r)) : CALL yX10_thinner cX10_thinner 6 (some .int) d pv_SM (MM h) [.inr (.inr (0)), .inl (a1), .inl (a2), .inl (a3), .inl (a4)] pv_SM (MM h') (some (.inl r)) := by
  unfold fX10_thinner at hf
  refine EV.call (own := RX10) (ini := false) rfl rfl (fun q => by cases q) ⟨[], (List.append_nil _).symm⟩ (Nat.le_of_ble_eq_true rfl) ?_
  refine EV.eqL (L2 := [some (.inr (.inr (0))), some (.inl (a1)), some (.inl (a2)), some (.inl (a3)), some (.inl (a4)), none]) rfl ?_
  refine EV.aload_n dX10_thinner_0 rfl rfl ?_
  refine EV.iconst dX10_thinner_1 (by decide) (by decide) ?_
  obtain ⟨h1, eh1, hf⟩ := pv_bo hf
  refine FV.putI dX10_thinner_2 sm_0 fl_10_1 rfl rfl eh1 ?_
  refine EV.aload_n dX10_thinner_5 rfl rfl ?_
  refine EV.iload_n dX10_thinner_6 rfl rfl ?_
  refine EV.iload_n dX10_thinner_7 rfl rfl ?_
  obtain ⟨r3, hc2, hf⟩ := pv_c1o hf
  refine EV.invV (As := [.inl (a1), .inl (a2)]) (st := []) (d1 := d - 1) (sh1 := pv_SM) (h1 := MM h1) (r1 := (some (.inl r3))) dX10_thinner_8 sm_0 (by decide) md_X10_isBoth ml_X10_396 im_X10_isBoth se_X10_isBoth (tX10_isBoth (by omega)  hc2) (by omega) rfl rfl (Nat.le_of_ble_eq_true rfl) ⟨[], (List.append_nil _).symm⟩ ?_
  refine EV.eqS (st2 := [.inl (r3)]) rfl ?_
  refine EV.if_ne (tgt := 21) dX10_thinner_11 (by decide) (fun q4 => ?_) (fun q4 => ?_)
  · have hf := pv_gn hf q4
    refine EV.iload dX10_thinner_21 rfl ?_
    refine EV.i2l dX10_thinner_23 ?_
    refine EV.lconst (x := 1) dX10_thinner_24 (by decide) (by decide) (by decide) ?_
    refine EV.ldc2 (n := 100) dX10_thinner_25 kl_X10_323 (by decide) (by decide) ?_
    obtain ⟨r6, hc5, hf⟩ := pv_c1o hf
    refine EV.invS (As := [.inr (.inl (a4)), .inr (.inl (1)), .inr (.inl (100))]) (st := []) (d1 := d - 1) (sh1 := pv_SM) (h1 := MM h1) (r1 := (some (.inl r6))) dX10_thinner_28 md_X10_within ml_X10_193 st_X10_within (tX10_within (by omega)  hc5) (by omega) rfl rfl (Nat.le_of_ble_eq_true rfl) ⟨[], (List.append_nil _).symm⟩ ?_
    refine EV.eqS (st2 := [.inl (r6)]) rfl ?_
    refine EV.if_ne (tgt := 41) dX10_thinner_31 (by decide) (fun q7 => ?_) (fun q7 => ?_)
    · have hf := pv_gn hf q7
      refine EV.aload_n dX10_thinner_41 rfl rfl ?_
      refine EV.iload_n dX10_thinner_42 rfl rfl ?_
      obtain ⟨h9, hc8, hf⟩ := pv_c1o hf
      refine EV.invV (As := [.inl (a1)]) (st := []) (d1 := d - 1) (sh1 := pv_SM) (h1 := MM h9) (r1 := none) dX10_thinner_43 sm_0 (by decide) md_X10_takes ml_X10_282 im_X10_takes se_X10_takes (tX10_takes (by omega)  hc8) (by omega) rfl rfl (Nat.le_of_ble_eq_true rfl) ⟨[], (List.append_nil _).symm⟩ ?_
      refine EV.iconst dX10_thinner_46 (by decide) (by decide) ?_
      refine FV.stiw (L2 := [some (.inr (.inr (0))), some (.inl (a1)), some (.inl (a2)), some (.inl (a3)), some (.inl (a4)), some (.inl (0))]) dX10_thinner_47 (Nat.le_of_ble_eq_true rfl) rfl rfl ?_
      refine EV.weak (L2 := [some (.inr (.inr (0))), none, some (.inl (a2)), some (.inl (a3)), some (.inl (a4)), some (.inl (0))]) (And.intro rfl (And.intro rfl (And.intro rfl (And.intro rfl (And.intro rfl trivial))))) ?_
      exact tX10_thinner_49 hd   _ _  _ hf
    · have hf := pv_gp hf q7
      refine EV.aload_n dX10_thinner_34 rfl rfl ?_
      refine EV.bipush dX10_thinner_35 (by decide) (by decide) ?_
      obtain ⟨h11, r12, hc10, hf⟩ := pv_c2o hf
      refine EV.invV (As := [.inl (-3)]) (st := []) (d1 := d - 1) (sh1 := pv_SM) (h1 := MM h11) (r1 := (some (.inl r12))) dX10_thinner_37 sm_0 (by decide) md_X10_no ml_X10_131 im_X10_no se_X10_no (tX10_no (by omega)  hc10) (by omega) rfl rfl (Nat.le_of_ble_eq_true rfl) ⟨[], (List.append_nil _).symm⟩ ?_
      refine EV.eqS (st2 := [.inl (r12)]) rfl ?_
      exact FV.iret dX10_thinner_40 hf
  · have hf := pv_gp hf q4
    refine EV.aload_n dX10_thinner_14 rfl rfl ?_
    refine EV.bipush dX10_thinner_15 (by decide) (by decide) ?_
    obtain ⟨h14, r15, hc13, hf⟩ := pv_c2o hf
    refine EV.invV (As := [.inl (-2)]) (st := []) (d1 := d - 1) (sh1 := pv_SM) (h1 := MM h14) (r1 := (some (.inl r15))) dX10_thinner_17 sm_0 (by decide) md_X10_no ml_X10_131 im_X10_no se_X10_no (tX10_no (by omega)  hc13) (by omega) rfl rfl (Nat.le_of_ble_eq_true rfl) ⟨[], (List.append_nil _).symm⟩ ?_
    refine EV.eqS (st2 := [.inl (r15)]) rfl ?_
    exact FV.iret dX10_thinner_20 hf

noncomputable def fX10_besideOf_8 (N : Nat)  (a1 : Int) (a2 : Int) (a3 : Int) (a4 : Int) : Nat → Int → pv_H → Option (pv_H × Int)
  | 0, _, _ => none
  | n + 1, v5, h => if (h 0 19) ≤ v5 then (pv_c1 (fX10_does N a3 1 h) fun h5 => pv_c1 (fX10_draws N a4 h5) fun h7 => pv_c1 (fX10_runs N (-1) h7) fun h9 => some (h9, h9 0 42)) else (if 0 ≤ v5 ∧ v5 < 60 then (if 0 ≤ pv_w ((pv_w ((pv_w (242 * a2)) + 2)) + v5) ∧ pv_w ((pv_w ((pv_w (242 * a2)) + 2)) + v5) < 9159 then (if 0 ≤ v5 ∧ v5 < 60 then (pv_b (pv_up h 6 (Int.toNat (v5)) (pv_w ((h 6 (Int.toNat (v5))) + (h 2 (Int.toNat (pv_w ((pv_w ((pv_w (242 * a2)) + 2)) + v5))))))) fun h13 => pv_b (pv_w (v5 + 1)) fun x14 => fX10_besideOf_8 N  a1 a2 a3 a4 n (x14) h13) else none) else none) else none)

noncomputable def fX10_besideOf (N : Nat) (a1 : Int) (a2 : Int) (a3 : Int) (a4 : Int) (h : pv_H) : Option (pv_H × Int) :=
  pv_c1 (fX10_takes N a1 h) fun h2 => fX10_besideOf_8 N  a1 a2 a3 a4 N (0) h2

set_option maxHeartbeats 4000000 in
set_option maxRecDepth 20000 in
theorem tX10_besideOf_8 {d N : Nat}  {a1 : Int} {a2 : Int} {a3 : Int} {a4 : Int} {h' : pv_H} {r : Int} (hd : 5 ≤ d)   : ∀ (n : Nat) (v5 : Int)  (h : pv_H), fX10_besideOf_8 N  a1 a2 a3 a4 n v5 h = some (h', r) → EV RX10 cX10_besideOf 6 (some .int) false d pv_SM (MM h') (some (.inl r)) 8 [some (.inr (.inr (0))), none, some (.inl (a2)), some (.inl (a3)), some (.inl (a4)), some (.inl (v5))] [] pv_SM (MM h) := by
  intro n
  induction n with
  | zero =>
    intro v5  h hf
    cases hf
  | succ n ih =>
    intro v5  h hf
    rw [fX10_besideOf_8] at hf
    refine EV.iload dX10_besideOf_8 rfl ?_
    refine EV.aload_n dX10_besideOf_10 rfl rfl ?_
    refine FV.getI dX10_besideOf_11 sm_0 fl_10_267 rfl ?_
    refine EV.icmp_ge (tgt := 48) dX10_besideOf_14 (by decide) (fun q3 => ?_) (fun q3 => ?_)
    · have hf := pv_gp hf q3
      refine EV.aload_n dX10_besideOf_48 rfl rfl ?_
      refine EV.iload_n dX10_besideOf_49 rfl rfl ?_
      refine EV.iconst dX10_besideOf_50 (by decide) (by decide) ?_
      obtain ⟨h5, hc4, hf⟩ := pv_c1o hf
      refine EV.invV (As := [.inl (a3), .inl (1)]) (st := []) (d1 := d - 1) (sh1 := pv_SM) (h1 := MM h5) (r1 := none) dX10_besideOf_51 sm_0 (by decide) md_X10_does ml_X10_317 im_X10_does se_X10_does (tX10_does (by omega)  hc4) (by omega) rfl rfl (Nat.le_of_ble_eq_true rfl) ⟨[], (List.append_nil _).symm⟩ ?_
      refine EV.aload_n dX10_besideOf_54 rfl rfl ?_
      refine EV.iload dX10_besideOf_55 rfl ?_
      obtain ⟨h7, hc6, hf⟩ := pv_c1o hf
      refine EV.invV (As := [.inl (a4)]) (st := []) (d1 := d - 1) (sh1 := pv_SM) (h1 := MM h7) (r1 := none) dX10_besideOf_57 sm_0 (by decide) md_X10_draws ml_X10_285 im_X10_draws se_X10_draws (tX10_draws (by omega)  hc6) (by omega) rfl rfl (Nat.le_of_ble_eq_true rfl) ⟨[], (List.append_nil _).symm⟩ ?_
      refine EV.aload_n dX10_besideOf_60 rfl rfl ?_
      refine EV.iconst dX10_besideOf_61 (by decide) (by decide) ?_
      obtain ⟨h9, hc8, hf⟩ := pv_c1o hf
      refine EV.invV (As := [.inl (-1)]) (st := []) (d1 := d - 1) (sh1 := pv_SM) (h1 := MM h9) (r1 := none) dX10_besideOf_62 sm_0 (by decide) md_X10_runs ml_X10_393 im_X10_runs se_X10_runs (tX10_runs (by omega)  hc8) (by omega) rfl rfl (Nat.le_of_ble_eq_true rfl) ⟨[], (List.append_nil _).symm⟩ ?_
      refine EV.aload_n dX10_besideOf_65 rfl rfl ?_
      refine FV.getI dX10_besideOf_66 sm_0 fl_10_390 rfl ?_
      exact FV.iret dX10_besideOf_69 hf
    · have hf := pv_gn hf q3
      refine EV.aload_n dX10_besideOf_17 rfl rfl ?_
      refine FV.getF (v := 6) dX10_besideOf_18 sm_0 fl_10_33 rfl rfl hvm_0_21 ?_
      refine EV.iload dX10_besideOf_21 rfl ?_
      refine EV.dup2 dX10_besideOf_23 rfl rfl ?_
      obtain ⟨g10, hf⟩ := pv_gd hf
      refine FV.iald dX10_besideOf_24 sm_6 g10.1 g10.2 (j := (Int.toNat (v5))) rfl ?_
      refine EV.aload_n dX10_besideOf_25 rfl rfl ?_
      refine FV.getF (v := 2) dX10_besideOf_26 sm_0 fl_10_17 rfl rfl hvm_0_2 ?_
      refine EV.sipush dX10_besideOf_29 (by decide) (by decide) ?_
      refine EV.iload_n dX10_besideOf_32 rfl rfl ?_
      refine EV.imul dX10_besideOf_33 ?_
      refine EV.iconst dX10_besideOf_34 (by decide) (by decide) ?_
      refine EV.iadd dX10_besideOf_35 ?_
      refine EV.iload dX10_besideOf_36 rfl ?_
      refine EV.iadd dX10_besideOf_38 ?_
      obtain ⟨g11, hf⟩ := pv_gd hf
      refine FV.iald dX10_besideOf_39 sm_2 g11.1 g11.2 (j := (Int.toNat (pv_w ((pv_w ((pv_w (242 * a2)) + 2)) + v5)))) rfl ?_
      refine EV.iadd dX10_besideOf_40 ?_
      obtain ⟨g12, hf⟩ := pv_gd hf
      obtain ⟨h13, eh13, hf⟩ := pv_bo hf
      refine FV.iast dX10_besideOf_41 sm_6 g12.1 g12.2 (j := (Int.toNat (v5))) rfl eh13 ?_
      obtain ⟨x14, ex14, hf⟩ := pv_bo hf
      refine FV.inc (L2 := [some (.inr (.inr (0))), none, some (.inl (a2)), some (.inl (a3)), some (.inl (a4)), some (.inl (x14))]) dX10_besideOf_42 rfl (Nat.le_of_ble_eq_true rfl) ex14 rfl ?_
      refine EV.goto (tgt := 8) dX10_besideOf_45 (by decide) ?_
      refine EV.weak (L2 := [some (.inr (.inr (0))), none, some (.inl (a2)), some (.inl (a3)), some (.inl (a4)), some (.inl (x14))]) (And.intro rfl (And.intro rfl (And.intro rfl (And.intro rfl (And.intro rfl trivial))))) ?_
      exact ih _  _ hf

set_option maxHeartbeats 4000000 in
set_option maxRecDepth 20000 in
theorem tX10_besideOf {d N : Nat} {a1 : Int} {a2 : Int} {a3 : Int} {a4 : Int} {h h' : pv_H} {r : Int} (hd : 5 ≤ d)  (hf : fX10_besideOf N a1 a2 a3 a4 h = some (h', r)) : CALL yX10_besideOf cX10_besideOf 6 (some .int) d pv_SM (MM h) [.inr (.inr (0)), .inl (a1), .inl (a2), .inl (a3), .inl (a4)] pv_SM (MM h') (some (.inl r)) := by
  unfold fX10_besideOf at hf
  refine EV.call (own := RX10) (ini := false) rfl rfl (fun q => by cases q) ⟨[], (List.append_nil _).symm⟩ (Nat.le_of_ble_eq_true rfl) ?_
  refine EV.eqL (L2 := [some (.inr (.inr (0))), some (.inl (a1)), some (.inl (a2)), some (.inl (a3)), some (.inl (a4)), none]) rfl ?_
  refine EV.aload_n dX10_besideOf_0 rfl rfl ?_
  refine EV.iload_n dX10_besideOf_1 rfl rfl ?_
  obtain ⟨h2, hc1, hf⟩ := pv_c1o hf
  refine EV.invV (As := [.inl (a1)]) (st := []) (d1 := d - 1) (sh1 := pv_SM) (h1 := MM h2) (r1 := none) dX10_besideOf_2 sm_0 (by decide) md_X10_takes ml_X10_282 im_X10_takes se_X10_takes (tX10_takes (by omega)  hc1) (by omega) rfl rfl (Nat.le_of_ble_eq_true rfl) ⟨[], (List.append_nil _).symm⟩ ?_
  refine EV.iconst dX10_besideOf_5 (by decide) (by decide) ?_
  refine FV.stiw (L2 := [some (.inr (.inr (0))), some (.inl (a1)), some (.inl (a2)), some (.inl (a3)), some (.inl (a4)), some (.inl (0))]) dX10_besideOf_6 (Nat.le_of_ble_eq_true rfl) rfl rfl ?_
  refine EV.weak (L2 := [some (.inr (.inr (0))), none, some (.inl (a2)), some (.inl (a3)), some (.inl (a4)), some (.inl (0))]) (And.intro rfl (And.intro rfl (And.intro rfl (And.intro rfl (And.intro rfl trivial))))) ?_
  exact tX10_besideOf_8 hd   _ _  _ hf

noncomputable def fX10_beside_28 (N : Nat)  (a1 : Int) (a2 : Int) (a3 : Int) (a4 : Int)  (h : pv_H) : Option (pv_H × Int) :=
  pv_c2b (fX10_no N (-2) h) fun h22 r23 => some (h22, r23)

noncomputable def fX10_beside_67 (N : Nat)  (a1 : Int) (a2 : Int) (a3 : Int) (a4 : Int)  (h : pv_H) : Option (pv_H × Int) :=
  pv_c2b (fX10_no N (-3) h) fun h25 r26 => some (h25, r26)

noncomputable def fX10_beside (N : Nat) (a1 : Int) (a2 : Int) (a3 : Int) (a4 : Int) (h : pv_H) : Option (pv_H × Int) :=
  pv_b (pv_up h 0 0 0) fun h1 => pv_c1 (fX10_isRod N a1 h1) fun r3 => if r3 = 0 then (fX10_beside_28 N  a1 a2 a3 a4  h1) else (pv_c1 (fX10_isRod N a2 h1) fun r6 => if r6 = 0 then (fX10_beside_28 N  a1 a2 a3 a4  h1) else (pv_c1 (fX10_isDoing N a3 h1) fun r9 => if r9 = 0 then (fX10_beside_28 N  a1 a2 a3 a4  h1) else (if a1 = a2 then (fX10_beside_67 N  a1 a2 a3 a4  h1) else (if 0 ≤ pv_w ((pv_w (242 * a1)) + 0) ∧ pv_w ((pv_w (242 * a1)) + 0) < 9159 then (if 0 ≤ pv_w ((pv_w (242 * a2)) + 0) ∧ pv_w ((pv_w (242 * a2)) + 0) < 9159 then (if (h1 2 (Int.toNat (pv_w ((pv_w (242 * a1)) + 0)))) = (h1 2 (Int.toNat (pv_w ((pv_w (242 * a2)) + 0)))) then (pv_c2b (fX10_besideOf N a1 a2 a3 a4 h1) fun h16 r17 => pv_c2b (fX10_besideOf N a2 a1 a3 a4 h16) fun h19 r20 => some (h19, pv_w (r17 + r20))) else (fX10_beside_67 N  a1 a2 a3 a4  h1)) else none) else none))))

set_option maxHeartbeats 4000000 in
set_option maxRecDepth 20000 in
theorem tX10_beside_28 {d N : Nat}  {a1 : Int} {a2 : Int} {a3 : Int} {a4 : Int}  {h h' : pv_H} {r : Int} (hd : 6 ≤ d)    (hf : fX10_beside_28 N  a1 a2 a3 a4  h = some (h', r)) : EV RX10 cX10_beside 5 (some .int) false d pv_SM (MM h') (some (.inl r)) 28 [some (.inr (.inr (0))), none, none, none, none] [] pv_SM (MM h) := by
  unfold fX10_beside_28 at hf
  refine EV.aload_n dX10_beside_28 rfl rfl ?_
  refine EV.bipush dX10_beside_29 (by decide) (by decide) ?_
  obtain ⟨h22, r23, hc21, hf⟩ := pv_c2o hf
  refine EV.invV (As := [.inl (-2)]) (st := []) (d1 := d - 1) (sh1 := pv_SM) (h1 := MM h22) (r1 := (some (.inl r23))) dX10_beside_31 sm_0 (by decide) md_X10_no ml_X10_131 im_X10_no se_X10_no (tX10_no (by omega)  hc21) (by omega) rfl rfl (Nat.le_of_ble_eq_true rfl) ⟨[], (List.append_nil _).symm⟩ ?_
  refine EV.eqS (st2 := [.inl (r23)]) rfl ?_
  exact FV.iret dX10_beside_34 hf

set_option maxHeartbeats 4000000 in
set_option maxRecDepth 20000 in
theorem tX10_beside_67 {d N : Nat}  {a1 : Int} {a2 : Int} {a3 : Int} {a4 : Int}  {h h' : pv_H} {r : Int} (hd : 6 ≤ d)    (hf : fX10_beside_67 N  a1 a2 a3 a4  h = some (h', r)) : EV RX10 cX10_beside 5 (some .int) false d pv_SM (MM h') (some (.inl r)) 67 [some (.inr (.inr (0))), none, none, none, none] [] pv_SM (MM h) := by
  unfold fX10_beside_67 at hf
  refine EV.aload_n dX10_beside_67 rfl rfl ?_
  refine EV.bipush dX10_beside_68 (by decide) (by decide) ?_
  obtain ⟨h25, r26, hc24, hf⟩ := pv_c2o hf
  refine EV.invV (As := [.inl (-3)]) (st := []) (d1 := d - 1) (sh1 := pv_SM) (h1 := MM h25) (r1 := (some (.inl r26))) dX10_beside_70 sm_0 (by decide) md_X10_no ml_X10_131 im_X10_no se_X10_no (tX10_no (by omega)  hc24) (by omega) rfl rfl (Nat.le_of_ble_eq_true rfl) ⟨[], (List.append_nil _).symm⟩ ?_
  refine EV.eqS (st2 := [.inl (r26)]) rfl ?_
  exact FV.iret dX10_beside_73 hf

set_option maxHeartbeats 4000000 in
set_option maxRecDepth 20000 in
theorem tX10_beside {d N : Nat} {a1 : Int} {a2 : Int} {a3 : Int} {a4 : Int} {h h' : pv_H} {r : Int} (hd : 6 ≤ d)  (hf : fX10_beside N a1 a2 a3 a4 h = some (h', r)) : CALL yX10_beside cX10_beside 5 (some .int) d pv_SM (MM h) [.inr (.inr (0)), .inl (a1), .inl (a2), .inl (a3), .inl (a4)] pv_SM (MM h') (some (.inl r)) := by
  unfold fX10_beside at hf
  refine EV.call (own := RX10) (ini := false) rfl rfl (fun q => by cases q) ⟨[], (List.append_nil _).symm⟩ (Nat.le_of_ble_eq_true rfl) ?_
  refine EV.eqL (L2 := [some (.inr (.inr (0))), some (.inl (a1)), some (.inl (a2)), some (.inl (a3)), some (.inl (a4))]) rfl ?_
  refine EV.aload_n dX10_beside_0 rfl rfl ?_
  refine EV.iconst dX10_beside_1 (by decide) (by decide) ?_
  obtain ⟨h1, eh1, hf⟩ := pv_bo hf
  refine FV.putI dX10_beside_2 sm_0 fl_10_1 rfl rfl eh1 ?_
  refine EV.aload_n dX10_beside_5 rfl rfl ?_
  refine EV.iload_n dX10_beside_6 rfl rfl ?_
  obtain ⟨r3, hc2, hf⟩ := pv_c1o hf
  refine EV.invV (As := [.inl (a1)]) (st := []) (d1 := d - 1) (sh1 := pv_SM) (h1 := MM h1) (r1 := (some (.inl r3))) dX10_beside_7 sm_0 (by decide) md_X10_isRod ml_X10_277 im_X10_isRod se_X10_isRod (tX10_isRod (by omega)  hc2) (by omega) rfl rfl (Nat.le_of_ble_eq_true rfl) ⟨[], (List.append_nil _).symm⟩ ?_
  refine EV.eqS (st2 := [.inl (r3)]) rfl ?_
  refine EV.if_eq (tgt := 28) dX10_beside_10 (by decide) (fun q4 => ?_) (fun q4 => ?_)
  · have hf := pv_gp hf q4
    refine EV.weak (L2 := [some (.inr (.inr (0))), none, none, none, none]) (And.intro rfl trivial) ?_
    exact tX10_beside_28 hd    hf
  · have hf := pv_gn hf q4
    refine EV.aload_n dX10_beside_13 rfl rfl ?_
    refine EV.iload_n dX10_beside_14 rfl rfl ?_
    obtain ⟨r6, hc5, hf⟩ := pv_c1o hf
    refine EV.invV (As := [.inl (a2)]) (st := []) (d1 := d - 1) (sh1 := pv_SM) (h1 := MM h1) (r1 := (some (.inl r6))) dX10_beside_15 sm_0 (by decide) md_X10_isRod ml_X10_277 im_X10_isRod se_X10_isRod (tX10_isRod (by omega)  hc5) (by omega) rfl rfl (Nat.le_of_ble_eq_true rfl) ⟨[], (List.append_nil _).symm⟩ ?_
    refine EV.eqS (st2 := [.inl (r6)]) rfl ?_
    refine EV.if_eq (tgt := 28) dX10_beside_18 (by decide) (fun q7 => ?_) (fun q7 => ?_)
    · have hf := pv_gp hf q7
      refine EV.weak (L2 := [some (.inr (.inr (0))), none, none, none, none]) (And.intro rfl trivial) ?_
      exact tX10_beside_28 hd    hf
    · have hf := pv_gn hf q7
      refine EV.iload_n dX10_beside_21 rfl rfl ?_
      obtain ⟨r9, hc8, hf⟩ := pv_c1o hf
      refine EV.invS (As := [.inl (a3)]) (st := []) (d1 := d - 1) (sh1 := pv_SM) (h1 := MM h1) (r1 := (some (.inl r9))) dX10_beside_22 md_X10_isDoing ml_X10_312 st_X10_isDoing (tX10_isDoing (by omega)  hc8) (by omega) rfl rfl (Nat.le_of_ble_eq_true rfl) ⟨[], (List.append_nil _).symm⟩ ?_
      refine EV.eqS (st2 := [.inl (r9)]) rfl ?_
      refine EV.if_ne (tgt := 35) dX10_beside_25 (by decide) (fun q10 => ?_) (fun q10 => ?_)
      · have hf := pv_gn hf q10
        refine EV.iload_n dX10_beside_35 rfl rfl ?_
        refine EV.iload_n dX10_beside_36 rfl rfl ?_
        refine EV.icmp_eq (tgt := 67) dX10_beside_37 (by decide) (fun q11 => ?_) (fun q11 => ?_)
        · have hf := pv_gp hf q11
          refine EV.weak (L2 := [some (.inr (.inr (0))), none, none, none, none]) (And.intro rfl trivial) ?_
          exact tX10_beside_67 hd    hf
        · have hf := pv_gn hf q11
          refine EV.aload_n dX10_beside_40 rfl rfl ?_
          refine FV.getF (v := 2) dX10_beside_41 sm_0 fl_10_17 rfl rfl hvm_0_2 ?_
          refine EV.sipush dX10_beside_44 (by decide) (by decide) ?_
          refine EV.iload_n dX10_beside_47 rfl rfl ?_
          refine EV.imul dX10_beside_48 ?_
          refine EV.iconst dX10_beside_49 (by decide) (by decide) ?_
          refine EV.iadd dX10_beside_50 ?_
          obtain ⟨g12, hf⟩ := pv_gd hf
          refine FV.iald dX10_beside_51 sm_2 g12.1 g12.2 (j := (Int.toNat (pv_w ((pv_w (242 * a1)) + 0)))) rfl ?_
          refine EV.aload_n dX10_beside_52 rfl rfl ?_
          refine FV.getF (v := 2) dX10_beside_53 sm_0 fl_10_17 rfl rfl hvm_0_2 ?_
          refine EV.sipush dX10_beside_56 (by decide) (by decide) ?_
          refine EV.iload_n dX10_beside_59 rfl rfl ?_
          refine EV.imul dX10_beside_60 ?_
          refine EV.iconst dX10_beside_61 (by decide) (by decide) ?_
          refine EV.iadd dX10_beside_62 ?_
          obtain ⟨g13, hf⟩ := pv_gd hf
          refine FV.iald dX10_beside_63 sm_2 g13.1 g13.2 (j := (Int.toNat (pv_w ((pv_w (242 * a2)) + 0)))) rfl ?_
          refine EV.icmp_eq (tgt := 74) dX10_beside_64 (by decide) (fun q14 => ?_) (fun q14 => ?_)
          · have hf := pv_gp hf q14
            refine EV.aload_n dX10_beside_74 rfl rfl ?_
            refine EV.iload_n dX10_beside_75 rfl rfl ?_
            refine EV.iload_n dX10_beside_76 rfl rfl ?_
            refine EV.iload_n dX10_beside_77 rfl rfl ?_
            refine EV.iload dX10_beside_78 rfl ?_
            obtain ⟨h16, r17, hc15, hf⟩ := pv_c2o hf
            refine EV.invV (As := [.inl (a1), .inl (a2), .inl (a3), .inl (a4)]) (st := []) (d1 := d - 1) (sh1 := pv_SM) (h1 := MM h16) (r1 := (some (.inl r17))) dX10_beside_80 sm_0 (by decide) md_X10_besideOf ml_X10_430 im_X10_besideOf se_X10_besideOf (tX10_besideOf (by omega)  hc15) (by omega) rfl rfl (Nat.le_of_ble_eq_true rfl) ⟨[], (List.append_nil _).symm⟩ ?_
            refine EV.eqS (st2 := [.inl (r17)]) rfl ?_
            refine EV.aload_n dX10_beside_83 rfl rfl ?_
            refine EV.iload_n dX10_beside_84 rfl rfl ?_
            refine EV.iload_n dX10_beside_85 rfl rfl ?_
            refine EV.iload_n dX10_beside_86 rfl rfl ?_
            refine EV.iload dX10_beside_87 rfl ?_
            obtain ⟨h19, r20, hc18, hf⟩ := pv_c2o hf
            refine EV.invV (As := [.inl (a2), .inl (a1), .inl (a3), .inl (a4)]) (st := [.inl (r17)]) (d1 := d - 1) (sh1 := pv_SM) (h1 := MM h19) (r1 := (some (.inl r20))) dX10_beside_89 sm_0 (by decide) md_X10_besideOf ml_X10_430 im_X10_besideOf se_X10_besideOf (tX10_besideOf (by omega)  hc18) (by omega) rfl rfl (Nat.le_of_ble_eq_true rfl) ⟨[], (List.append_nil _).symm⟩ ?_
            refine EV.eqS (st2 := [.inl (r20), .inl (r17)]) rfl ?_
            refine EV.iadd dX10_beside_92 ?_
            exact FV.iret dX10_beside_93 hf
          · have hf := pv_gn hf q14
            refine EV.weak (L2 := [some (.inr (.inr (0))), none, none, none, none]) (And.intro rfl trivial) ?_
            exact tX10_beside_67 hd    hf
      · have hf := pv_gp hf q10
        refine EV.weak (L2 := [some (.inr (.inr (0))), none, none, none, none]) (And.intro rfl trivial) ?_
        exact tX10_beside_28 hd    hf

noncomputable def fX10_never_113 (N : Nat) (k43 : Int → Int → pv_H → Option (pv_H × Int)) (a1 : Int) (a2 : Int) (v4 : Int) (s0 : Int) (s1 : Int) (h : pv_H) : Option (pv_H × Int) :=
  pv_b (pv_or s1 s0) fun x25 => pv_b (pv_w (v4 + 1)) fun x26 => k43 (x25) (x26) h

noncomputable def fX10_never_99 (N : Nat) (k43 : Int → Int → pv_H → Option (pv_H × Int)) (a1 : Int) (a2 : Int) (v3 : Int) (v4 : Int) (v5 : Int) (h : pv_H) : Option (pv_H × Int) :=
  if v5 = 0 then (fX10_never_113 N (k43) a1 a2 (v4) (0) (v3) h) else (fX10_never_113 N (k43) a1 a2 (v4) (pv_shl 1 v4) (v3) h)

noncomputable def fX10_never_91 (N : Nat) (k43 : Int → Int → pv_H → Option (pv_H × Int)) (k60 : Int → Int → Int → Int → pv_H → Option (pv_H × Int)) (a1 : Int) (a2 : Int) (v3 : Int) (v4 : Int) (v6 : Int) (s0 : Int) (h : pv_H) : Option (pv_H × Int) :=
  pv_b (pv_w (v6 + 1)) fun x24 => k60 (v3) (v4) (s0) (x24) h

noncomputable def fX10_never_60 (N : Nat) (k43 : Int → Int → pv_H → Option (pv_H × Int)) (a1 : Int) (a2 : Int) : Nat → Int → Int → Int → Int → pv_H → Option (pv_H × Int)
  | 0, _, _, _, _, _ => none
  | n + 1, v3, v4, v5, v6, h => if a2 < v6 then (fX10_never_99 N (k43) a1 a2 (v3) (v4) (v5) h) else (if v5 = 0 then (fX10_never_99 N (k43) a1 a2 (v3) (v4) (v5) h) else (pv_c2b (fX10_piecesOf N v4 a1 v6 1 (-1) h) fun h20 r21 => if 3 ≤ r21 then (fX10_never_91 N (k43) (fun v3_ v4_ v5_ v6_ hh => fX10_never_60 N k43 a1 a2 n v3_ v4_ v5_ v6_ hh) a1 a2 (v3) (v4) (v6) (0) h20) else (fX10_never_91 N (k43) (fun v3_ v4_ v5_ v6_ hh => fX10_never_60 N k43 a1 a2 n v3_ v4_ v5_ v6_ hh) a1 a2 (v3) (v4) (v6) (1) h20)))

noncomputable def fX10_never_43 (N : Nat)  (a1 : Int) (a2 : Int) : Nat → Int → Int → pv_H → Option (pv_H × Int)
  | 0, _, _, _ => none
  | n + 1, v3, v4, h => if 4 ≤ v4 then (some (h, v3)) else (pv_c1 (fX10_isRod N v4 h) fun r16 => fX10_never_60 N (fun v3_ v4_ hh => fX10_never_43 N  a1 a2 n v3_ v4_ hh) a1 a2 N (v3) (v4) (r16) (1) h)

noncomputable def fX10_never (N : Nat) (a1 : Int) (a2 : Int) (h : pv_H) : Option (pv_H × Int) :=
  pv_b (pv_up h 0 0 0) fun h1 => pv_c1 (fX10_isDoing N a1 h1) fun r3 => if r3 = 0 then (pv_c2b (fX10_no N (-2) h1) fun h12 r13 => some (h12, r13)) else (pv_c1 (fX10_within N a2 1 100 h1) fun r6 => if r6 = 0 then (pv_c2b (fX10_no N (-3) h1) fun h9 r10 => some (h9, r10)) else (fX10_never_43 N  a1 a2 N (0) (0) h1))

set_option maxHeartbeats 4000000 in
set_option maxRecDepth 20000 in
theorem tX10_never_113 {d N : Nat} {k43 : Int → Int → pv_H → Option (pv_H × Int)} {a1 : Int} {a2 : Int} {v4 : Int} {s0 : Int} {s1 : Int} {h h' : pv_H} {r : Int} (hd : 6 ≤ d) (hk43 : ∀ (v3 : Int) (v4 : Int)  (hh : pv_H), k43 v3 v4 hh = some (h', r) → EV RX10 cX10_never 7 (some .int) false d pv_SM (MM h') (some (.inl r)) 43 [some (.inr (.inr (0))), some (.inl (a1)), some (.inl (a2)), some (.inl (v3)), some (.inl (v4)), none, none] [] pv_SM (MM hh))   (hf : fX10_never_113 N k43 a1 a2 v4 s0 s1 h = some (h', r)) : EV RX10 cX10_never 7 (some .int) false d pv_SM (MM h') (some (.inl r)) 113 [some (.inr (.inr (0))), some (.inl (a1)), some (.inl (a2)), none, some (.inl (v4)), none, none] [.inl (s0), .inl (s1)] pv_SM (MM h) := by
  unfold fX10_never_113 at hf
  refine EV.ior dX10_never_113 ?_
  obtain ⟨x25, ex25, hf⟩ := pv_bo hf
  refine FV.sti (L2 := [some (.inr (.inr (0))), some (.inl (a1)), some (.inl (a2)), some (.inl (x25)), some (.inl (v4)), none, none]) dX10_never_114 rfl (Nat.le_of_ble_eq_true rfl) ex25 rfl ?_
  obtain ⟨x26, ex26, hf⟩ := pv_bo hf
  refine FV.inc (L2 := [some (.inr (.inr (0))), some (.inl (a1)), some (.inl (a2)), some (.inl (x25)), some (.inl (x26)), none, none]) dX10_never_115 rfl (Nat.le_of_ble_eq_true rfl) ex26 rfl ?_
  refine EV.goto (tgt := 43) dX10_never_118 (by decide) ?_
  refine EV.weak (L2 := [some (.inr (.inr (0))), some (.inl (a1)), some (.inl (a2)), some (.inl (x25)), some (.inl (x26)), none, none]) (And.intro rfl (And.intro rfl (And.intro rfl (And.intro rfl (And.intro rfl trivial))))) ?_
  exact hk43 _ _  _ hf

set_option maxHeartbeats 4000000 in
set_option maxRecDepth 20000 in
theorem tX10_never_99 {d N : Nat} {k43 : Int → Int → pv_H → Option (pv_H × Int)} {a1 : Int} {a2 : Int} {v3 : Int} {v4 : Int} {v5 : Int} {h h' : pv_H} {r : Int} (hd : 6 ≤ d) (hk43 : ∀ (v3 : Int) (v4 : Int)  (hh : pv_H), k43 v3 v4 hh = some (h', r) → EV RX10 cX10_never 7 (some .int) false d pv_SM (MM h') (some (.inl r)) 43 [some (.inr (.inr (0))), some (.inl (a1)), some (.inl (a2)), some (.inl (v3)), some (.inl (v4)), none, none] [] pv_SM (MM hh))   (hf : fX10_never_99 N k43 a1 a2 v3 v4 v5 h = some (h', r)) : EV RX10 cX10_never 7 (some .int) false d pv_SM (MM h') (some (.inl r)) 99 [some (.inr (.inr (0))), some (.inl (a1)), some (.inl (a2)), some (.inl (v3)), some (.inl (v4)), some (.inl (v5)), none] [] pv_SM (MM h) := by
  unfold fX10_never_99 at hf
  refine EV.iload_n dX10_never_99 rfl rfl ?_
  refine EV.iload dX10_never_100 rfl ?_
  refine EV.if_eq (tgt := 112) dX10_never_102 (by decide) (fun q23 => ?_) (fun q23 => ?_)
  · have hf := pv_gp hf q23
    refine EV.iconst dX10_never_112 (by decide) (by decide) ?_
    refine EV.weak (L2 := [some (.inr (.inr (0))), some (.inl (a1)), some (.inl (a2)), none, some (.inl (v4)), none, none]) (And.intro rfl (And.intro rfl (And.intro rfl (And.intro rfl trivial)))) ?_
    exact tX10_never_113 hd (hk43)   hf
  · have hf := pv_gn hf q23
    refine EV.iconst dX10_never_105 (by decide) (by decide) ?_
    refine EV.iload dX10_never_106 rfl ?_
    refine EV.ishl dX10_never_108 ?_
    refine EV.goto (tgt := 113) dX10_never_109 (by decide) ?_
    refine EV.weak (L2 := [some (.inr (.inr (0))), some (.inl (a1)), some (.inl (a2)), none, some (.inl (v4)), none, none]) (And.intro rfl (And.intro rfl (And.intro rfl (And.intro rfl trivial)))) ?_
    exact tX10_never_113 hd (hk43)   hf

set_option maxHeartbeats 4000000 in
set_option maxRecDepth 20000 in
theorem tX10_never_91 {d N : Nat} {k43 : Int → Int → pv_H → Option (pv_H × Int)} {k60 : Int → Int → Int → Int → pv_H → Option (pv_H × Int)} {a1 : Int} {a2 : Int} {v3 : Int} {v4 : Int} {v6 : Int} {s0 : Int} {h h' : pv_H} {r : Int} (hd : 6 ≤ d) (hk43 : ∀ (v3 : Int) (v4 : Int)  (hh : pv_H), k43 v3 v4 hh = some (h', r) → EV RX10 cX10_never 7 (some .int) false d pv_SM (MM h') (some (.inl r)) 43 [some (.inr (.inr (0))), some (.inl (a1)), some (.inl (a2)), some (.inl (v3)), some (.inl (v4)), none, none] [] pv_SM (MM hh)) (hk60 : ∀ (v3 : Int) (v4 : Int) (v5 : Int) (v6 : Int)  (hh : pv_H), k60 v3 v4 v5 v6 hh = some (h', r) → EV RX10 cX10_never 7 (some .int) false d pv_SM (MM h') (some (.inl r)) 60 [some (.inr (.inr (0))), some (.inl (a1)), some (.inl (a2)), some (.inl (v3)), some (.inl (v4)), some (.inl (v5)), some (.inl (v6))] [] pv_SM (MM hh))   (hf : fX10_never_91 N k43 k60 a1 a2 v3 v4 v6 s0 h = some (h', r)) : EV RX10 cX10_never 7 (some .int) false d pv_SM (MM h') (some (.inl r)) 91 [some (.inr (.inr (0))), some (.inl (a1)), some (.inl (a2)), some (.inl (v3)), some (.inl (v4)), none, some (.inl (v6))] [.inl (s0)] pv_SM (MM h) := by
  unfold fX10_never_91 at hf
  refine FV.stiw (L2 := [some (.inr (.inr (0))), some (.inl (a1)), some (.inl (a2)), some (.inl (v3)), some (.inl (v4)), some (.inl (s0)), some (.inl (v6))]) dX10_never_91 (Nat.le_of_ble_eq_true rfl) rfl rfl ?_
  obtain ⟨x24, ex24, hf⟩ := pv_bo hf
  refine FV.inc (L2 := [some (.inr (.inr (0))), some (.inl (a1)), some (.inl (a2)), some (.inl (v3)), some (.inl (v4)), some (.inl (s0)), some (.inl (x24))]) dX10_never_93 rfl (Nat.le_of_ble_eq_true rfl) ex24 rfl ?_
  refine EV.goto (tgt := 60) dX10_never_96 (by decide) ?_
  refine EV.weak (L2 := [some (.inr (.inr (0))), some (.inl (a1)), some (.inl (a2)), some (.inl (v3)), some (.inl (v4)), some (.inl (s0)), some (.inl (x24))]) (And.intro rfl (And.intro rfl (And.intro rfl (And.intro rfl (And.intro rfl (And.intro rfl (And.intro rfl trivial))))))) ?_
  exact hk60 _ _ _ _  _ hf

set_option maxHeartbeats 4000000 in
set_option maxRecDepth 20000 in
theorem tX10_never_60 {d N : Nat} {k43 : Int → Int → pv_H → Option (pv_H × Int)} {a1 : Int} {a2 : Int} {h' : pv_H} {r : Int} (hd : 6 ≤ d) (hk43 : ∀ (v3 : Int) (v4 : Int)  (hh : pv_H), k43 v3 v4 hh = some (h', r) → EV RX10 cX10_never 7 (some .int) false d pv_SM (MM h') (some (.inl r)) 43 [some (.inr (.inr (0))), some (.inl (a1)), some (.inl (a2)), some (.inl (v3)), some (.inl (v4)), none, none] [] pv_SM (MM hh))  : ∀ (n : Nat) (v3 : Int) (v4 : Int) (v5 : Int) (v6 : Int)  (h : pv_H), fX10_never_60 N k43 a1 a2 n v3 v4 v5 v6 h = some (h', r) → EV RX10 cX10_never 7 (some .int) false d pv_SM (MM h') (some (.inl r)) 60 [some (.inr (.inr (0))), some (.inl (a1)), some (.inl (a2)), some (.inl (v3)), some (.inl (v4)), some (.inl (v5)), some (.inl (v6))] [] pv_SM (MM h) := by
  intro n
  induction n with
  | zero =>
    intro v3 v4 v5 v6  h hf
    cases hf
  | succ n ih =>
    intro v3 v4 v5 v6  h hf
    rw [fX10_never_60] at hf
    refine EV.iload dX10_never_60 rfl ?_
    refine EV.iload_n dX10_never_62 rfl rfl ?_
    refine EV.icmp_gt (tgt := 99) dX10_never_63 (by decide) (fun q17 => ?_) (fun q17 => ?_)
    · have hf := pv_gp hf q17
      refine EV.weak (L2 := [some (.inr (.inr (0))), some (.inl (a1)), some (.inl (a2)), some (.inl (v3)), some (.inl (v4)), some (.inl (v5)), none]) (And.intro rfl (And.intro rfl (And.intro rfl (And.intro rfl (And.intro rfl (And.intro rfl trivial)))))) ?_
      exact tX10_never_99 hd (hk43)   hf
    · have hf := pv_gn hf q17
      refine EV.iload dX10_never_66 rfl ?_
      refine EV.if_eq (tgt := 99) dX10_never_68 (by decide) (fun q18 => ?_) (fun q18 => ?_)
      · have hf := pv_gp hf q18
        refine EV.weak (L2 := [some (.inr (.inr (0))), some (.inl (a1)), some (.inl (a2)), some (.inl (v3)), some (.inl (v4)), some (.inl (v5)), none]) (And.intro rfl (And.intro rfl (And.intro rfl (And.intro rfl (And.intro rfl (And.intro rfl trivial)))))) ?_
        exact tX10_never_99 hd (hk43)   hf
      · have hf := pv_gn hf q18
        refine EV.aload_n dX10_never_71 rfl rfl ?_
        refine EV.iload dX10_never_72 rfl ?_
        refine EV.iload_n dX10_never_74 rfl rfl ?_
        refine EV.iload dX10_never_75 rfl ?_
        refine EV.iconst dX10_never_77 (by decide) (by decide) ?_
        refine EV.iconst dX10_never_78 (by decide) (by decide) ?_
        obtain ⟨h20, r21, hc19, hf⟩ := pv_c2o hf
        refine EV.invV (As := [.inl (v4), .inl (a1), .inl (v6), .inl (1), .inl (-1)]) (st := []) (d1 := d - 1) (sh1 := pv_SM) (h1 := MM h20) (r1 := (some (.inl r21))) dX10_never_79 sm_0 (by decide) md_X10_piecesOf ml_X10_400 im_X10_piecesOf se_X10_piecesOf (tX10_piecesOf (by omega)  hc19) (by omega) rfl rfl (Nat.le_of_ble_eq_true rfl) ⟨[], (List.append_nil _).symm⟩ ?_
        refine EV.eqS (st2 := [.inl (r21)]) rfl ?_
        refine EV.iconst dX10_never_82 (by decide) (by decide) ?_
        refine EV.icmp_ge (tgt := 90) dX10_never_83 (by decide) (fun q22 => ?_) (fun q22 => ?_)
        · have hf := pv_gp hf q22
          refine EV.iconst dX10_never_90 (by decide) (by decide) ?_
          refine EV.weak (L2 := [some (.inr (.inr (0))), some (.inl (a1)), some (.inl (a2)), some (.inl (v3)), some (.inl (v4)), none, some (.inl (v6))]) (And.intro rfl (And.intro rfl (And.intro rfl (And.intro rfl (And.intro rfl (And.intro rfl trivial)))))) ?_
          exact tX10_never_91 hd (hk43) (ih)   hf
        · have hf := pv_gn hf q22
          refine EV.iconst dX10_never_86 (by decide) (by decide) ?_
          refine EV.goto (tgt := 91) dX10_never_87 (by decide) ?_
          refine EV.weak (L2 := [some (.inr (.inr (0))), some (.inl (a1)), some (.inl (a2)), some (.inl (v3)), some (.inl (v4)), none, some (.inl (v6))]) (And.intro rfl (And.intro rfl (And.intro rfl (And.intro rfl (And.intro rfl (And.intro rfl trivial)))))) ?_
          exact tX10_never_91 hd (hk43) (ih)   hf

set_option maxHeartbeats 4000000 in
set_option maxRecDepth 20000 in
theorem tX10_never_43 {d N : Nat}  {a1 : Int} {a2 : Int} {h' : pv_H} {r : Int} (hd : 6 ≤ d)   : ∀ (n : Nat) (v3 : Int) (v4 : Int)  (h : pv_H), fX10_never_43 N  a1 a2 n v3 v4 h = some (h', r) → EV RX10 cX10_never 7 (some .int) false d pv_SM (MM h') (some (.inl r)) 43 [some (.inr (.inr (0))), some (.inl (a1)), some (.inl (a2)), some (.inl (v3)), some (.inl (v4)), none, none] [] pv_SM (MM h) := by
  intro n
  induction n with
  | zero =>
    intro v3 v4  h hf
    cases hf
  | succ n ih =>
    intro v3 v4  h hf
    rw [fX10_never_43] at hf
    refine EV.iload dX10_never_43 rfl ?_
    refine EV.iconst dX10_never_45 (by decide) (by decide) ?_
    refine EV.icmp_ge (tgt := 121) dX10_never_46 (by decide) (fun q14 => ?_) (fun q14 => ?_)
    · have hf := pv_gp hf q14
      refine EV.iload_n dX10_never_121 rfl rfl ?_
      exact FV.iret dX10_never_122 hf
    · have hf := pv_gn hf q14
      refine EV.aload_n dX10_never_49 rfl rfl ?_
      refine EV.iload dX10_never_50 rfl ?_
      obtain ⟨r16, hc15, hf⟩ := pv_c1o hf
      refine EV.invV (As := [.inl (v4)]) (st := []) (d1 := d - 1) (sh1 := pv_SM) (h1 := MM h) (r1 := (some (.inl r16))) dX10_never_52 sm_0 (by decide) md_X10_isRod ml_X10_277 im_X10_isRod se_X10_isRod (tX10_isRod (by omega)  hc15) (by omega) rfl rfl (Nat.le_of_ble_eq_true rfl) ⟨[], (List.append_nil _).symm⟩ ?_
      refine EV.eqS (st2 := [.inl (r16)]) rfl ?_
      refine FV.stiw (L2 := [some (.inr (.inr (0))), some (.inl (a1)), some (.inl (a2)), some (.inl (v3)), some (.inl (v4)), some (.inl (r16)), none]) dX10_never_55 (Nat.le_of_ble_eq_true rfl) rfl rfl ?_
      refine EV.iconst dX10_never_57 (by decide) (by decide) ?_
      refine FV.stiw (L2 := [some (.inr (.inr (0))), some (.inl (a1)), some (.inl (a2)), some (.inl (v3)), some (.inl (v4)), some (.inl (r16)), some (.inl (1))]) dX10_never_58 (Nat.le_of_ble_eq_true rfl) rfl rfl ?_
      refine EV.weak (L2 := [some (.inr (.inr (0))), some (.inl (a1)), some (.inl (a2)), some (.inl (v3)), some (.inl (v4)), some (.inl (r16)), some (.inl (1))]) (And.intro rfl (And.intro rfl (And.intro rfl (And.intro rfl (And.intro rfl (And.intro rfl (And.intro rfl trivial))))))) ?_
      exact tX10_never_60 hd (ih)  _ _ _ _ _  _ hf

set_option maxHeartbeats 4000000 in
set_option maxRecDepth 20000 in
theorem tX10_never {d N : Nat} {a1 : Int} {a2 : Int} {h h' : pv_H} {r : Int} (hd : 6 ≤ d)  (hf : fX10_never N a1 a2 h = some (h', r)) : CALL yX10_never cX10_never 7 (some .int) d pv_SM (MM h) [.inr (.inr (0)), .inl (a1), .inl (a2)] pv_SM (MM h') (some (.inl r)) := by
  unfold fX10_never at hf
  refine EV.call (own := RX10) (ini := false) rfl rfl (fun q => by cases q) ⟨[], (List.append_nil _).symm⟩ (Nat.le_of_ble_eq_true rfl) ?_
  refine EV.eqL (L2 := [some (.inr (.inr (0))), some (.inl (a1)), some (.inl (a2)), none, none, none, none]) rfl ?_
  refine EV.aload_n dX10_never_0 rfl rfl ?_
  refine EV.iconst dX10_never_1 (by decide) (by decide) ?_
  obtain ⟨h1, eh1, hf⟩ := pv_bo hf
  refine FV.putI dX10_never_2 sm_0 fl_10_1 rfl rfl eh1 ?_
  refine EV.iload_n dX10_never_5 rfl rfl ?_
  obtain ⟨r3, hc2, hf⟩ := pv_c1o hf
  refine EV.invS (As := [.inl (a1)]) (st := []) (d1 := d - 1) (sh1 := pv_SM) (h1 := MM h1) (r1 := (some (.inl r3))) dX10_never_6 md_X10_isDoing ml_X10_312 st_X10_isDoing (tX10_isDoing (by omega)  hc2) (by omega) rfl rfl (Nat.le_of_ble_eq_true rfl) ⟨[], (List.append_nil _).symm⟩ ?_
  refine EV.eqS (st2 := [.inl (r3)]) rfl ?_
  refine EV.if_ne (tgt := 19) dX10_never_9 (by decide) (fun q4 => ?_) (fun q4 => ?_)
  · have hf := pv_gn hf q4
    refine EV.iload_n dX10_never_19 rfl rfl ?_
    refine EV.i2l dX10_never_20 ?_
    refine EV.lconst (x := 1) dX10_never_21 (by decide) (by decide) (by decide) ?_
    refine EV.ldc2 (n := 100) dX10_never_22 kl_X10_323 (by decide) (by decide) ?_
    obtain ⟨r6, hc5, hf⟩ := pv_c1o hf
    refine EV.invS (As := [.inr (.inl (a2)), .inr (.inl (1)), .inr (.inl (100))]) (st := []) (d1 := d - 1) (sh1 := pv_SM) (h1 := MM h1) (r1 := (some (.inl r6))) dX10_never_25 md_X10_within ml_X10_193 st_X10_within (tX10_within (by omega)  hc5) (by omega) rfl rfl (Nat.le_of_ble_eq_true rfl) ⟨[], (List.append_nil _).symm⟩ ?_
    refine EV.eqS (st2 := [.inl (r6)]) rfl ?_
    refine EV.if_ne (tgt := 38) dX10_never_28 (by decide) (fun q7 => ?_) (fun q7 => ?_)
    · have hf := pv_gn hf q7
      refine EV.iconst dX10_never_38 (by decide) (by decide) ?_
      refine FV.sti (L2 := [some (.inr (.inr (0))), some (.inl (a1)), some (.inl (a2)), some (.inl (0)), none, none, none]) dX10_never_39 rfl (Nat.le_of_ble_eq_true rfl) rfl rfl ?_
      refine EV.iconst dX10_never_40 (by decide) (by decide) ?_
      refine FV.stiw (L2 := [some (.inr (.inr (0))), some (.inl (a1)), some (.inl (a2)), some (.inl (0)), some (.inl (0)), none, none]) dX10_never_41 (Nat.le_of_ble_eq_true rfl) rfl rfl ?_
      refine EV.weak (L2 := [some (.inr (.inr (0))), some (.inl (a1)), some (.inl (a2)), some (.inl (0)), some (.inl (0)), none, none]) (And.intro rfl (And.intro rfl (And.intro rfl (And.intro rfl (And.intro rfl trivial))))) ?_
      exact tX10_never_43 hd   _ _ _  _ hf
    · have hf := pv_gp hf q7
      refine EV.aload_n dX10_never_31 rfl rfl ?_
      refine EV.bipush dX10_never_32 (by decide) (by decide) ?_
      obtain ⟨h9, r10, hc8, hf⟩ := pv_c2o hf
      refine EV.invV (As := [.inl (-3)]) (st := []) (d1 := d - 1) (sh1 := pv_SM) (h1 := MM h9) (r1 := (some (.inl r10))) dX10_never_34 sm_0 (by decide) md_X10_no ml_X10_131 im_X10_no se_X10_no (tX10_no (by omega)  hc8) (by omega) rfl rfl (Nat.le_of_ble_eq_true rfl) ⟨[], (List.append_nil _).symm⟩ ?_
      refine EV.eqS (st2 := [.inl (r10)]) rfl ?_
      exact FV.iret dX10_never_37 hf
  · have hf := pv_gp hf q4
    refine EV.aload_n dX10_never_12 rfl rfl ?_
    refine EV.bipush dX10_never_13 (by decide) (by decide) ?_
    obtain ⟨h12, r13, hc11, hf⟩ := pv_c2o hf
    refine EV.invV (As := [.inl (-2)]) (st := []) (d1 := d - 1) (sh1 := pv_SM) (h1 := MM h12) (r1 := (some (.inl r13))) dX10_never_15 sm_0 (by decide) md_X10_no ml_X10_131 im_X10_no se_X10_no (tX10_no (by omega)  hc11) (by omega) rfl rfl (Nat.le_of_ble_eq_true rfl) ⟨[], (List.append_nil _).symm⟩ ?_
    refine EV.eqS (st2 := [.inl (r13)]) rfl ?_
    exact FV.iret dX10_never_18 hf

noncomputable def fX10_isRead_46 (N : Nat)  (a1 : Int) : Nat → Int → Int → pv_H → Option (Int)
  | 0, _, _, _ => none
  | n + 1, v2, v3, h => if v2 ≤ v3 then (some (1)) else (if 0 ≤ pv_w ((pv_w (60 * a1)) + v3) ∧ pv_w ((pv_w (60 * a1)) + v3) < 240 then (if 0 ≤ v3 ∧ v3 < 61 then (if (pv_cmp (h 35 (Int.toNat (pv_w ((pv_w (60 * a1)) + v3)))) (h 24 (Int.toNat (v3)))) = 0 then (pv_b (pv_w (v3 + 1)) fun x11 => fX10_isRead_46 N  a1 n (v2) (x11) h) else (some (0))) else none) else none)

noncomputable def fX10_isRead_34 (N : Nat)  (a1 : Int) (v2 : Int) (h : pv_H) : Option (Int) :=
  if v2 = (h 0 42) then (fX10_isRead_46 N  a1 N (v2) (0) h) else (some (0))

noncomputable def fX10_isRead_2 (N : Nat)  (a1 : Int) : Nat → Int → pv_H → Option (Int)
  | 0, _, _ => none
  | n + 1, v2, h => if 0 ≤ a1 ∧ a1 < 4 then (if (h 34 (Int.toNat (a1))) ≤ v2 then (fX10_isRead_34 N  a1 (v2) h) else (if 0 ≤ pv_w ((pv_w (60 * a1)) + v2) ∧ pv_w ((pv_w (60 * a1)) + v2) < 240 then (if (pv_cmp (h 35 (Int.toNat (pv_w ((pv_w (60 * a1)) + v2)))) 0) = 0 then (fX10_isRead_34 N  a1 (v2) h) else (pv_b (pv_w (v2 + 1)) fun x5 => fX10_isRead_2 N  a1 n (x5) h)) else none)) else none

noncomputable def fX10_isRead (N : Nat) (a1 : Int) (h : pv_H) : Option (Int) :=
  fX10_isRead_2 N  a1 N (0) h

set_option maxHeartbeats 4000000 in
set_option maxRecDepth 20000 in
theorem tX10_isRead_46 {d N : Nat}  {a1 : Int} {h : pv_H} {r : Int} (hd : 1 ≤ d)   : ∀ (n : Nat) (v2 : Int) (v3 : Int) , fX10_isRead_46 N  a1 n v2 v3 h = some r → EV RX10 cX10_isRead 4 (some .boolean) false d pv_SM (MM h) (some (.inl r)) 46 [some (.inr (.inr (0))), some (.inl (a1)), some (.inl (v2)), some (.inl (v3))] [] pv_SM (MM h) := by
  intro n
  induction n with
  | zero =>
    intro v2 v3   hf
    cases hf
  | succ n ih =>
    intro v2 v3   hf
    rw [fX10_isRead_46] at hf
    refine EV.iload_n dX10_isRead_46 rfl rfl ?_
    refine EV.iload_n dX10_isRead_47 rfl rfl ?_
    refine EV.icmp_ge (tgt := 81) dX10_isRead_48 (by decide) (fun q7 => ?_) (fun q7 => ?_)
    · have hf := pv_gp hf q7
      refine EV.iconst dX10_isRead_81 (by decide) (by decide) ?_
      exact FV.zretp dX10_isRead_82 (by decide) hf
    · have hf := pv_gn hf q7
      refine EV.aload_n dX10_isRead_51 rfl rfl ?_
      refine FV.getF (v := 35) dX10_isRead_52 sm_0 fl_10_120 rfl rfl hvm_0_65 ?_
      refine EV.bipush dX10_isRead_55 (by decide) (by decide) ?_
      refine EV.iload_n dX10_isRead_57 rfl rfl ?_
      refine EV.imul dX10_isRead_58 ?_
      refine EV.iload_n dX10_isRead_59 rfl rfl ?_
      refine EV.iadd dX10_isRead_60 ?_
      obtain ⟨g8, hf⟩ := pv_gd hf
      refine FV.lald dX10_isRead_61 sm_35 g8.1 g8.2 (j := (Int.toNat (pv_w ((pv_w (60 * a1)) + v3)))) rfl ?_
      refine EV.aload_n dX10_isRead_62 rfl rfl ?_
      refine FV.getF (v := 24) dX10_isRead_63 sm_0 fl_10_87 rfl rfl hvm_0_51 ?_
      refine EV.iload_n dX10_isRead_66 rfl rfl ?_
      obtain ⟨g9, hf⟩ := pv_gd hf
      refine FV.iald dX10_isRead_67 sm_24 g9.1 g9.2 (j := (Int.toNat (v3))) rfl ?_
      refine EV.i2l dX10_isRead_68 ?_
      refine EV.lcmp dX10_isRead_69 ?_
      refine EV.if_eq (tgt := 75) dX10_isRead_70 (by decide) (fun q10 => ?_) (fun q10 => ?_)
      · have hf := pv_gp hf q10
        obtain ⟨x11, ex11, hf⟩ := pv_bo hf
        refine FV.inc (L2 := [some (.inr (.inr (0))), some (.inl (a1)), some (.inl (v2)), some (.inl (x11))]) dX10_isRead_75 rfl (Nat.le_of_ble_eq_true rfl) ex11 rfl ?_
        refine EV.goto (tgt := 46) dX10_isRead_78 (by decide) ?_
        refine EV.weak (L2 := [some (.inr (.inr (0))), some (.inl (a1)), some (.inl (v2)), some (.inl (x11))]) (And.intro rfl (And.intro rfl (And.intro rfl (And.intro rfl trivial)))) ?_
        exact ih _ _   hf
      · have hf := pv_gn hf q10
        refine EV.iconst dX10_isRead_73 (by decide) (by decide) ?_
        exact FV.zretp dX10_isRead_74 (by decide) hf

set_option maxHeartbeats 4000000 in
set_option maxRecDepth 20000 in
theorem tX10_isRead_34 {d N : Nat}  {a1 : Int} {v2 : Int} {h : pv_H} {r : Int} (hd : 1 ≤ d)    (hf : fX10_isRead_34 N  a1 v2 h = some r) : EV RX10 cX10_isRead 4 (some .boolean) false d pv_SM (MM h) (some (.inl r)) 34 [some (.inr (.inr (0))), some (.inl (a1)), some (.inl (v2)), none] [] pv_SM (MM h) := by
  unfold fX10_isRead_34 at hf
  refine EV.iload_n dX10_isRead_34 rfl rfl ?_
  refine EV.aload_n dX10_isRead_35 rfl rfl ?_
  refine FV.getI dX10_isRead_36 sm_0 fl_10_390 rfl ?_
  refine EV.icmp_eq (tgt := 44) dX10_isRead_39 (by decide) (fun q6 => ?_) (fun q6 => ?_)
  · have hf := pv_gp hf q6
    refine EV.iconst dX10_isRead_44 (by decide) (by decide) ?_
    refine FV.sti (L2 := [some (.inr (.inr (0))), some (.inl (a1)), some (.inl (v2)), some (.inl (0))]) dX10_isRead_45 rfl (Nat.le_of_ble_eq_true rfl) rfl rfl ?_
    refine EV.weak (L2 := [some (.inr (.inr (0))), some (.inl (a1)), some (.inl (v2)), some (.inl (0))]) (And.intro rfl (And.intro rfl (And.intro rfl (And.intro rfl trivial)))) ?_
    exact tX10_isRead_46 hd   _ _ _   hf
  · have hf := pv_gn hf q6
    refine EV.iconst dX10_isRead_42 (by decide) (by decide) ?_
    exact FV.zretp dX10_isRead_43 (by decide) hf

set_option maxHeartbeats 4000000 in
set_option maxRecDepth 20000 in
theorem tX10_isRead_2 {d N : Nat}  {a1 : Int} {h : pv_H} {r : Int} (hd : 1 ≤ d)   : ∀ (n : Nat) (v2 : Int) , fX10_isRead_2 N  a1 n v2 h = some r → EV RX10 cX10_isRead 4 (some .boolean) false d pv_SM (MM h) (some (.inl r)) 2 [some (.inr (.inr (0))), some (.inl (a1)), some (.inl (v2)), none] [] pv_SM (MM h) := by
  intro n
  induction n with
  | zero =>
    intro v2   hf
    cases hf
  | succ n ih =>
    intro v2   hf
    rw [fX10_isRead_2] at hf
    refine EV.iload_n dX10_isRead_2 rfl rfl ?_
    refine EV.aload_n dX10_isRead_3 rfl rfl ?_
    refine FV.getF (v := 34) dX10_isRead_4 sm_0 fl_10_117 rfl rfl hvm_0_64 ?_
    refine EV.iload_n dX10_isRead_7 rfl rfl ?_
    obtain ⟨g1, hf⟩ := pv_gd hf
    refine FV.iald dX10_isRead_8 sm_34 g1.1 g1.2 (j := (Int.toNat (a1))) rfl ?_
    refine EV.icmp_ge (tgt := 34) dX10_isRead_9 (by decide) (fun q2 => ?_) (fun q2 => ?_)
    · have hf := pv_gp hf q2
      refine EV.weak (L2 := [some (.inr (.inr (0))), some (.inl (a1)), some (.inl (v2)), none]) (And.intro rfl (And.intro rfl (And.intro rfl trivial))) ?_
      exact tX10_isRead_34 hd    hf
    · have hf := pv_gn hf q2
      refine EV.aload_n dX10_isRead_12 rfl rfl ?_
      refine FV.getF (v := 35) dX10_isRead_13 sm_0 fl_10_120 rfl rfl hvm_0_65 ?_
      refine EV.bipush dX10_isRead_16 (by decide) (by decide) ?_
      refine EV.iload_n dX10_isRead_18 rfl rfl ?_
      refine EV.imul dX10_isRead_19 ?_
      refine EV.iload_n dX10_isRead_20 rfl rfl ?_
      refine EV.iadd dX10_isRead_21 ?_
      obtain ⟨g3, hf⟩ := pv_gd hf
      refine FV.lald dX10_isRead_22 sm_35 g3.1 g3.2 (j := (Int.toNat (pv_w ((pv_w (60 * a1)) + v2)))) rfl ?_
      refine EV.lconst (x := 0) dX10_isRead_23 (by decide) (by decide) (by decide) ?_
      refine EV.lcmp dX10_isRead_24 ?_
      refine EV.if_eq (tgt := 34) dX10_isRead_25 (by decide) (fun q4 => ?_) (fun q4 => ?_)
      · have hf := pv_gp hf q4
        refine EV.weak (L2 := [some (.inr (.inr (0))), some (.inl (a1)), some (.inl (v2)), none]) (And.intro rfl (And.intro rfl (And.intro rfl trivial))) ?_
        exact tX10_isRead_34 hd    hf
      · have hf := pv_gn hf q4
        obtain ⟨x5, ex5, hf⟩ := pv_bo hf
        refine FV.inc (L2 := [some (.inr (.inr (0))), some (.inl (a1)), some (.inl (x5)), none]) dX10_isRead_28 rfl (Nat.le_of_ble_eq_true rfl) ex5 rfl ?_
        refine EV.goto (tgt := 2) dX10_isRead_31 (by decide) ?_
        refine EV.weak (L2 := [some (.inr (.inr (0))), some (.inl (a1)), some (.inl (x5)), none]) (And.intro rfl (And.intro rfl (And.intro rfl trivial))) ?_
        exact ih _   hf

set_option maxHeartbeats 4000000 in
set_option maxRecDepth 20000 in
theorem tX10_isRead {d N : Nat} {a1 : Int} {h : pv_H} {r : Int} (hd : 1 ≤ d)  (hf : fX10_isRead N a1 h = some r) : CALL yX10_isRead cX10_isRead 4 (some .boolean) d pv_SM (MM h) [.inr (.inr (0)), .inl (a1)] pv_SM (MM h) (some (.inl r)) := by
  unfold fX10_isRead at hf
  refine EV.call (own := RX10) (ini := false) rfl rfl (fun q => by cases q) ⟨[], (List.append_nil _).symm⟩ (Nat.le_of_ble_eq_true rfl) ?_
  refine EV.eqL (L2 := [some (.inr (.inr (0))), some (.inl (a1)), none, none]) rfl ?_
  refine EV.iconst dX10_isRead_0 (by decide) (by decide) ?_
  refine FV.sti (L2 := [some (.inr (.inr (0))), some (.inl (a1)), some (.inl (0)), none]) dX10_isRead_1 rfl (Nat.le_of_ble_eq_true rfl) rfl rfl ?_
  refine EV.weak (L2 := [some (.inr (.inr (0))), some (.inl (a1)), some (.inl (0)), none]) (And.intro rfl (And.intro rfl (And.intro rfl trivial))) ?_
  exact tX10_isRead_2 hd   _ _   hf

noncomputable def fX10_readsOf_63 (N : Nat) (k6 : Int → Int → pv_H → Option (pv_H × Int)) (a1 : Int) (a2 : Int) (a3 : Int) (a4 : Int) (a5 : Int) (v7 : Int) (s0 : Int) (s1 : Int) (h : pv_H) : Option (pv_H × Int) :=
  pv_b (pv_w (s1 + s0)) fun x11 => pv_b (pv_w (v7 + 1)) fun x12 => k6 (x11) (x12) h

noncomputable def fX10_readsOf_62 (N : Nat) (k6 : Int → Int → pv_H → Option (pv_H × Int)) (a1 : Int) (a2 : Int) (a3 : Int) (a4 : Int) (a5 : Int) (v7 : Int) (s0 : Int) (h : pv_H) : Option (pv_H × Int) :=
  fX10_readsOf_63 N (k6) a1 a2 a3 a4 a5 (v7) (0) (s0) h

noncomputable def fX10_readsOf_58 (N : Nat) (k6 : Int → Int → pv_H → Option (pv_H × Int)) (a1 : Int) (a2 : Int) (a3 : Int) (a4 : Int) (a5 : Int) (v7 : Int) (s0 : Int) (h : pv_H) : Option (pv_H × Int) :=
  fX10_readsOf_63 N (k6) a1 a2 a3 a4 a5 (v7) (1) (s0) h

noncomputable def fX10_readsOf_6 (N : Nat)  (a1 : Int) (a2 : Int) (a3 : Int) (a4 : Int) (a5 : Int) : Nat → Int → Int → pv_H → Option (pv_H × Int)
  | 0, _, _, _ => none
  | n + 1, v6, v7, h => if a4 < v7 then (some (h, v6)) else (pv_c2b (fX10_piecesOf N a1 a3 v7 1 (-1) h) fun h3 r4 => pv_c1 (fX10_isRead N a2 h3) fun r6 => if r6 = 0 then (fX10_readsOf_62 N (fun v6_ v7_ hh => fX10_readsOf_6 N  a1 a2 a3 a4 a5 n v6_ v7_ hh) a1 a2 a3 a4 a5 (v7) (v6) h3) else (if a5 = (-1) then (fX10_readsOf_58 N (fun v6_ v7_ hh => fX10_readsOf_6 N  a1 a2 a3 a4 a5 n v6_ v7_ hh) a1 a2 a3 a4 a5 (v7) (v6) h3) else (if (h3 0 38) ≤ 0 then (fX10_readsOf_62 N (fun v6_ v7_ hh => fX10_readsOf_6 N  a1 a2 a3 a4 a5 n v6_ v7_ hh) a1 a2 a3 a4 a5 (v7) (v6) h3) else (if (h3 20 0) = a5 then (fX10_readsOf_58 N (fun v6_ v7_ hh => fX10_readsOf_6 N  a1 a2 a3 a4 a5 n v6_ v7_ hh) a1 a2 a3 a4 a5 (v7) (v6) h3) else (fX10_readsOf_62 N (fun v6_ v7_ hh => fX10_readsOf_6 N  a1 a2 a3 a4 a5 n v6_ v7_ hh) a1 a2 a3 a4 a5 (v7) (v6) h3)))))

noncomputable def fX10_readsOf (N : Nat) (a1 : Int) (a2 : Int) (a3 : Int) (a4 : Int) (a5 : Int) (h : pv_H) : Option (pv_H × Int) :=
  fX10_readsOf_6 N  a1 a2 a3 a4 a5 N (0) (1) h

set_option maxHeartbeats 4000000 in
set_option maxRecDepth 20000 in
theorem tX10_readsOf_63 {d N : Nat} {k6 : Int → Int → pv_H → Option (pv_H × Int)} {a1 : Int} {a2 : Int} {a3 : Int} {a4 : Int} {a5 : Int} {v7 : Int} {s0 : Int} {s1 : Int} {h h' : pv_H} {r : Int} (hd : 6 ≤ d) (hk6 : ∀ (v6 : Int) (v7 : Int)  (hh : pv_H), k6 v6 v7 hh = some (h', r) → EV RX10 cX10_readsOf 8 (some .int) false d pv_SM (MM h') (some (.inl r)) 6 [some (.inr (.inr (0))), some (.inl (a1)), some (.inl (a2)), some (.inl (a3)), some (.inl (a4)), some (.inl (a5)), some (.inl (v6)), some (.inl (v7))] [] pv_SM (MM hh))   (hf : fX10_readsOf_63 N k6 a1 a2 a3 a4 a5 v7 s0 s1 h = some (h', r)) : EV RX10 cX10_readsOf 8 (some .int) false d pv_SM (MM h') (some (.inl r)) 63 [some (.inr (.inr (0))), some (.inl (a1)), some (.inl (a2)), some (.inl (a3)), some (.inl (a4)), some (.inl (a5)), none, some (.inl (v7))] [.inl (s0), .inl (s1)] pv_SM (MM h) := by
  unfold fX10_readsOf_63 at hf
  refine EV.iadd dX10_readsOf_63 ?_
  obtain ⟨x11, ex11, hf⟩ := pv_bo hf
  refine FV.stiw (L2 := [some (.inr (.inr (0))), some (.inl (a1)), some (.inl (a2)), some (.inl (a3)), some (.inl (a4)), some (.inl (a5)), some (.inl (x11)), some (.inl (v7))]) dX10_readsOf_64 (Nat.le_of_ble_eq_true rfl) ex11 rfl ?_
  obtain ⟨x12, ex12, hf⟩ := pv_bo hf
  refine FV.inc (L2 := [some (.inr (.inr (0))), some (.inl (a1)), some (.inl (a2)), some (.inl (a3)), some (.inl (a4)), some (.inl (a5)), some (.inl (x11)), some (.inl (x12))]) dX10_readsOf_66 rfl (Nat.le_of_ble_eq_true rfl) ex12 rfl ?_
  refine EV.goto (tgt := 6) dX10_readsOf_69 (by decide) ?_
  refine EV.weak (L2 := [some (.inr (.inr (0))), some (.inl (a1)), some (.inl (a2)), some (.inl (a3)), some (.inl (a4)), some (.inl (a5)), some (.inl (x11)), some (.inl (x12))]) (And.intro rfl (And.intro rfl (And.intro rfl (And.intro rfl (And.intro rfl (And.intro rfl (And.intro rfl (And.intro rfl trivial)))))))) ?_
  exact hk6 _ _  _ hf

set_option maxHeartbeats 4000000 in
set_option maxRecDepth 20000 in
theorem tX10_readsOf_62 {d N : Nat} {k6 : Int → Int → pv_H → Option (pv_H × Int)} {a1 : Int} {a2 : Int} {a3 : Int} {a4 : Int} {a5 : Int} {v7 : Int} {s0 : Int} {h h' : pv_H} {r : Int} (hd : 6 ≤ d) (hk6 : ∀ (v6 : Int) (v7 : Int)  (hh : pv_H), k6 v6 v7 hh = some (h', r) → EV RX10 cX10_readsOf 8 (some .int) false d pv_SM (MM h') (some (.inl r)) 6 [some (.inr (.inr (0))), some (.inl (a1)), some (.inl (a2)), some (.inl (a3)), some (.inl (a4)), some (.inl (a5)), some (.inl (v6)), some (.inl (v7))] [] pv_SM (MM hh))   (hf : fX10_readsOf_62 N k6 a1 a2 a3 a4 a5 v7 s0 h = some (h', r)) : EV RX10 cX10_readsOf 8 (some .int) false d pv_SM (MM h') (some (.inl r)) 62 [some (.inr (.inr (0))), some (.inl (a1)), some (.inl (a2)), some (.inl (a3)), some (.inl (a4)), some (.inl (a5)), none, some (.inl (v7))] [.inl (s0)] pv_SM (MM h) := by
  unfold fX10_readsOf_62 at hf
  refine EV.iconst dX10_readsOf_62 (by decide) (by decide) ?_
  refine EV.weak (L2 := [some (.inr (.inr (0))), some (.inl (a1)), some (.inl (a2)), some (.inl (a3)), some (.inl (a4)), some (.inl (a5)), none, some (.inl (v7))]) (And.intro rfl (And.intro rfl (And.intro rfl (And.intro rfl (And.intro rfl (And.intro rfl (And.intro rfl trivial))))))) ?_
  exact tX10_readsOf_63 hd (hk6)   hf

set_option maxHeartbeats 4000000 in
set_option maxRecDepth 20000 in
theorem tX10_readsOf_58 {d N : Nat} {k6 : Int → Int → pv_H → Option (pv_H × Int)} {a1 : Int} {a2 : Int} {a3 : Int} {a4 : Int} {a5 : Int} {v7 : Int} {s0 : Int} {h h' : pv_H} {r : Int} (hd : 6 ≤ d) (hk6 : ∀ (v6 : Int) (v7 : Int)  (hh : pv_H), k6 v6 v7 hh = some (h', r) → EV RX10 cX10_readsOf 8 (some .int) false d pv_SM (MM h') (some (.inl r)) 6 [some (.inr (.inr (0))), some (.inl (a1)), some (.inl (a2)), some (.inl (a3)), some (.inl (a4)), some (.inl (a5)), some (.inl (v6)), some (.inl (v7))] [] pv_SM (MM hh))   (hf : fX10_readsOf_58 N k6 a1 a2 a3 a4 a5 v7 s0 h = some (h', r)) : EV RX10 cX10_readsOf 8 (some .int) false d pv_SM (MM h') (some (.inl r)) 58 [some (.inr (.inr (0))), some (.inl (a1)), some (.inl (a2)), some (.inl (a3)), some (.inl (a4)), some (.inl (a5)), none, some (.inl (v7))] [.inl (s0)] pv_SM (MM h) := by
  unfold fX10_readsOf_58 at hf
  refine EV.iconst dX10_readsOf_58 (by decide) (by decide) ?_
  refine EV.goto (tgt := 63) dX10_readsOf_59 (by decide) ?_
  refine EV.weak (L2 := [some (.inr (.inr (0))), some (.inl (a1)), some (.inl (a2)), some (.inl (a3)), some (.inl (a4)), some (.inl (a5)), none, some (.inl (v7))]) (And.intro rfl (And.intro rfl (And.intro rfl (And.intro rfl (And.intro rfl (And.intro rfl (And.intro rfl trivial))))))) ?_
  exact tX10_readsOf_63 hd (hk6)   hf

set_option maxHeartbeats 4000000 in
set_option maxRecDepth 20000 in
theorem tX10_readsOf_6 {d N : Nat}  {a1 : Int} {a2 : Int} {a3 : Int} {a4 : Int} {a5 : Int} {h' : pv_H} {r : Int} (hd : 6 ≤ d)   : ∀ (n : Nat) (v6 : Int) (v7 : Int)  (h : pv_H), fX10_readsOf_6 N  a1 a2 a3 a4 a5 n v6 v7 h = some (h', r) → EV RX10 cX10_readsOf 8 (some .int) false d pv_SM (MM h') (some (.inl r)) 6 [some (.inr (.inr (0))), some (.inl (a1)), some (.inl (a2)), some (.inl (a3)), some (.inl (a4)), some (.inl (a5)), some (.inl (v6)), some (.inl (v7))] [] pv_SM (MM h) := by
  intro n
  induction n with
  | zero =>
    intro v6 v7  h hf
    cases hf
  | succ n ih =>
    intro v6 v7  h hf
    rw [fX10_readsOf_6] at hf
    refine EV.iload dX10_readsOf_6 rfl ?_
    refine EV.iload dX10_readsOf_8 rfl ?_
    refine EV.icmp_gt (tgt := 72) dX10_readsOf_10 (by decide) (fun q1 => ?_) (fun q1 => ?_)
    · have hf := pv_gp hf q1
      refine EV.iload dX10_readsOf_72 rfl ?_
      exact FV.iret dX10_readsOf_74 hf
    · have hf := pv_gn hf q1
      refine EV.aload_n dX10_readsOf_13 rfl rfl ?_
      refine EV.iload_n dX10_readsOf_14 rfl rfl ?_
      refine EV.iload_n dX10_readsOf_15 rfl rfl ?_
      refine EV.iload dX10_readsOf_16 rfl ?_
      refine EV.iconst dX10_readsOf_18 (by decide) (by decide) ?_
      refine EV.iconst dX10_readsOf_19 (by decide) (by decide) ?_
      obtain ⟨h3, r4, hc2, hf⟩ := pv_c2o hf
      refine EV.invV (As := [.inl (a1), .inl (a3), .inl (v7), .inl (1), .inl (-1)]) (st := []) (d1 := d - 1) (sh1 := pv_SM) (h1 := MM h3) (r1 := (some (.inl r4))) dX10_readsOf_20 sm_0 (by decide) md_X10_piecesOf ml_X10_400 im_X10_piecesOf se_X10_piecesOf (tX10_piecesOf (by omega)  hc2) (by omega) rfl rfl (Nat.le_of_ble_eq_true rfl) ⟨[], (List.append_nil _).symm⟩ ?_
      refine EV.eqS (st2 := [.inl (r4)]) rfl ?_
      refine EV.pop dX10_readsOf_23 rfl ?_
      refine EV.iload dX10_readsOf_24 rfl ?_
      refine EV.aload_n dX10_readsOf_26 rfl rfl ?_
      refine EV.iload_n dX10_readsOf_27 rfl rfl ?_
      obtain ⟨r6, hc5, hf⟩ := pv_c1o hf
      refine EV.invV (As := [.inl (a2)]) (st := [.inl (v6)]) (d1 := d - 1) (sh1 := pv_SM) (h1 := MM h3) (r1 := (some (.inl r6))) dX10_readsOf_28 sm_0 (by decide) md_X10_isRead ml_X10_433 im_X10_isRead se_X10_isRead (tX10_isRead (by omega)  hc5) (by omega) rfl rfl (Nat.le_of_ble_eq_true rfl) ⟨[], (List.append_nil _).symm⟩ ?_
      refine EV.eqS (st2 := [.inl (r6), .inl (v6)]) rfl ?_
      refine EV.if_eq (tgt := 62) dX10_readsOf_31 (by decide) (fun q7 => ?_) (fun q7 => ?_)
      · have hf := pv_gp hf q7
        refine EV.weak (L2 := [some (.inr (.inr (0))), some (.inl (a1)), some (.inl (a2)), some (.inl (a3)), some (.inl (a4)), some (.inl (a5)), none, some (.inl (v7))]) (And.intro rfl (And.intro rfl (And.intro rfl (And.intro rfl (And.intro rfl (And.intro rfl (And.intro rfl trivial))))))) ?_
        exact tX10_readsOf_62 hd (ih)   hf
      · have hf := pv_gn hf q7
        refine EV.iload dX10_readsOf_34 rfl ?_
        refine EV.iconst dX10_readsOf_36 (by decide) (by decide) ?_
        refine EV.icmp_eq (tgt := 58) dX10_readsOf_37 (by decide) (fun q8 => ?_) (fun q8 => ?_)
        · have hf := pv_gp hf q8
          refine EV.weak (L2 := [some (.inr (.inr (0))), some (.inl (a1)), some (.inl (a2)), some (.inl (a3)), some (.inl (a4)), some (.inl (a5)), none, some (.inl (v7))]) (And.intro rfl (And.intro rfl (And.intro rfl (And.intro rfl (And.intro rfl (And.intro rfl (And.intro rfl trivial))))))) ?_
          exact tX10_readsOf_58 hd (ih)   hf
        · have hf := pv_gn hf q8
          refine EV.aload_n dX10_readsOf_40 rfl rfl ?_
          refine FV.getI dX10_readsOf_41 sm_0 fl_10_328 rfl ?_
          refine EV.if_le (tgt := 62) dX10_readsOf_44 (by decide) (fun q9 => ?_) (fun q9 => ?_)
          · have hf := pv_gp hf q9
            refine EV.weak (L2 := [some (.inr (.inr (0))), some (.inl (a1)), some (.inl (a2)), some (.inl (a3)), some (.inl (a4)), some (.inl (a5)), none, some (.inl (v7))]) (And.intro rfl (And.intro rfl (And.intro rfl (And.intro rfl (And.intro rfl (And.intro rfl (And.intro rfl trivial))))))) ?_
            exact tX10_readsOf_62 hd (ih)   hf
          · have hf := pv_gn hf q9
            refine EV.aload_n dX10_readsOf_47 rfl rfl ?_
            refine FV.getF (v := 20) dX10_readsOf_48 sm_0 fl_10_75 rfl rfl hvm_0_47 ?_
            refine EV.iconst dX10_readsOf_51 (by decide) (by decide) ?_
            refine FV.iald dX10_readsOf_52 sm_20 (by decide) (by decide) (j := 0) rfl ?_
            refine EV.iload dX10_readsOf_53 rfl ?_
            refine EV.icmp_ne (tgt := 62) dX10_readsOf_55 (by decide) (fun q10 => ?_) (fun q10 => ?_)
            · have hf := pv_gn hf q10
              refine EV.weak (L2 := [some (.inr (.inr (0))), some (.inl (a1)), some (.inl (a2)), some (.inl (a3)), some (.inl (a4)), some (.inl (a5)), none, some (.inl (v7))]) (And.intro rfl (And.intro rfl (And.intro rfl (And.intro rfl (And.intro rfl (And.intro rfl (And.intro rfl trivial))))))) ?_
              exact tX10_readsOf_62 hd (ih)   hf
            · have hf := pv_gp hf q10
              refine EV.weak (L2 := [some (.inr (.inr (0))), some (.inl (a1)), some (.inl (a2)), some (.inl (a3)), some (.inl (a4)), some (.inl (a5)), none, some (.inl (v7))]) (And.intro rfl (And.intro rfl (And.intro rfl (And.intro rfl (And.intro rfl (And.intro rfl (And.intro rfl trivial))))))) ?_
              exact tX10_readsOf_58 hd (ih)   hf

set_option maxHeartbeats 4000000 in
set_option maxRecDepth 20000 in
theorem tX10_readsOf {d N : Nat} {a1 : Int} {a2 : Int} {a3 : Int} {a4 : Int} {a5 : Int} {h h' : pv_H} {r : Int} (hd : 6 ≤ d)  (hf : fX10_readsOf N a1 a2 a3 a4 a5 h = some (h', r)) : CALL yX10_readsOf cX10_readsOf 8 (some .int) d pv_SM (MM h) [.inr (.inr (0)), .inl (a1), .inl (a2), .inl (a3), .inl (a4), .inl (a5)] pv_SM (MM h') (some (.inl r)) := by
  unfold fX10_readsOf at hf
  refine EV.call (own := RX10) (ini := false) rfl rfl (fun q => by cases q) ⟨[], (List.append_nil _).symm⟩ (Nat.le_of_ble_eq_true rfl) ?_
  refine EV.eqL (L2 := [some (.inr (.inr (0))), some (.inl (a1)), some (.inl (a2)), some (.inl (a3)), some (.inl (a4)), some (.inl (a5)), none, none]) rfl ?_
  refine EV.iconst dX10_readsOf_0 (by decide) (by decide) ?_
  refine FV.stiw (L2 := [some (.inr (.inr (0))), some (.inl (a1)), some (.inl (a2)), some (.inl (a3)), some (.inl (a4)), some (.inl (a5)), some (.inl (0)), none]) dX10_readsOf_1 (Nat.le_of_ble_eq_true rfl) rfl rfl ?_
  refine EV.iconst dX10_readsOf_3 (by decide) (by decide) ?_
  refine FV.stiw (L2 := [some (.inr (.inr (0))), some (.inl (a1)), some (.inl (a2)), some (.inl (a3)), some (.inl (a4)), some (.inl (a5)), some (.inl (0)), some (.inl (1))]) dX10_readsOf_4 (Nat.le_of_ble_eq_true rfl) rfl rfl ?_
  refine EV.weak (L2 := [some (.inr (.inr (0))), some (.inl (a1)), some (.inl (a2)), some (.inl (a3)), some (.inl (a4)), some (.inl (a5)), some (.inl (0)), some (.inl (1))]) (And.intro rfl (And.intro rfl (And.intro rfl (And.intro rfl (And.intro rfl (And.intro rfl (And.intro rfl (And.intro rfl trivial)))))))) ?_
  exact tX10_readsOf_6 hd   _ _ _  _ hf

noncomputable def fX10_read_36 (N : Nat)  (a1 : Int) (a2 : Int) (a3 : Int) (a4 : Int)  (h : pv_H) : Option (pv_H × Int) :=
  pv_c2b (fX10_no N (-2) h) fun h24 r25 => some (h24, r25)

noncomputable def fX10_read_166 (N : Nat)  (a1 : Int) (a2 : Int) (a3 : Int) (a4 : Int) (s0 : Int) (h : pv_H) : Option (pv_H × Int) :=
  some (h, s0)

noncomputable def fX10_read_146 (N : Nat) (k91 : Int → Int → Int → Int → pv_H → Option (pv_H × Int)) (a1 : Int) (a2 : Int) (a3 : Int) (a4 : Int) (v5 : Int) (v6 : Int) (v8 : Int) (s0 : Int) (h : pv_H) : Option (pv_H × Int) :=
  pv_b (pv_w (v8 + 1)) fun x34 => k91 (v5) (v6) (s0) (x34) h

noncomputable def fX10_read_130 (N : Nat) (k91 : Int → Int → Int → Int → pv_H → Option (pv_H × Int)) (a1 : Int) (a2 : Int) (a3 : Int) (a4 : Int) (v5 : Int) (v7 : Int) (v8 : Int) (v9 : Int) (s0 : Int) (h : pv_H) : Option (pv_H × Int) :=
  if v9 ≤ v7 then (fX10_read_146 N (k91) a1 a2 a3 a4 (v5) (s0) (v8) (v7) h) else (fX10_read_146 N (k91) a1 a2 a3 a4 (v5) (s0) (v8) (v9) h)

noncomputable def fX10_read_91 (N : Nat)  (a1 : Int) (a2 : Int) (a3 : Int) (a4 : Int) : Nat → Int → Int → Int → Int → pv_H → Option (pv_H × Int)
  | 0, _, _, _, _, _ => none
  | n + 1, v5, v6, v7, v8, h => if 4 ≤ v8 then (if a4 = 0 then (fX10_read_166 N  a1 a2 a3 a4 (v5) h) else (fX10_read_166 N  a1 a2 a3 a4 (v6) h)) else (pv_c2b (fX10_readsOf N a1 a2 v8 a3 (-1) h) fun h29 r30 => pv_b (pv_w (v5 + r30)) fun x31 => if r30 ≤ v7 then (fX10_read_130 N (fun v5_ v6_ v7_ v8_ hh => fX10_read_91 N  a1 a2 a3 a4 n v5_ v6_ v7_ v8_ hh) a1 a2 a3 a4 (x31) (v7) (v8) (r30) (v6) h29) else (fX10_read_130 N (fun v5_ v6_ v7_ v8_ hh => fX10_read_91 N  a1 a2 a3 a4 n v5_ v6_ v7_ v8_ hh) a1 a2 a3 a4 (x31) (v7) (v8) (r30) (v8) h29))

noncomputable def fX10_read (N : Nat) (a1 : Int) (a2 : Int) (a3 : Int) (a4 : Int) (h : pv_H) : Option (pv_H × Int) :=
  pv_b (pv_up h 0 0 0) fun h1 => pv_c1 (fX10_isRod N a1 h1) fun r3 => if r3 = 0 then (fX10_read_36 N  a1 a2 a3 a4  h1) else (pv_c1 (fX10_within N a2 0 3 h1) fun r6 => if r6 = 0 then (fX10_read_36 N  a1 a2 a3 a4  h1) else (pv_c1 (fX10_within N a4 0 1 h1) fun r9 => if r9 = 0 then (fX10_read_36 N  a1 a2 a3 a4  h1) else (pv_c1 (fX10_within N a3 1 100 h1) fun r12 => if r12 = 0 then (pv_c2b (fX10_no N (-3) h1) fun h21 r22 => some (h21, r22)) else (if 0 ≤ a2 ∧ a2 < 4 then (if (h1 33 (Int.toNat (a2))) = (-1) then (pv_c2b (fX10_no N (-6) h1) fun h18 r19 => some (h18, r19)) else (pv_b (-1) fun x16 => fX10_read_91 N  a1 a2 a3 a4 N (0) (x16) (0) (0) h1)) else none))))

set_option maxHeartbeats 4000000 in
set_option maxRecDepth 20000 in
theorem tX10_read_36 {d N : Nat}  {a1 : Int} {a2 : Int} {a3 : Int} {a4 : Int}  {h h' : pv_H} {r : Int} (hd : 7 ≤ d)    (hf : fX10_read_36 N  a1 a2 a3 a4  h = some (h', r)) : EV RX10 cX10_read 10 (some .int) false d pv_SM (MM h') (some (.inl r)) 36 [some (.inr (.inr (0))), none, none, none, none, none, none, none, none, none] [] pv_SM (MM h) := by
  unfold fX10_read_36 at hf
  refine EV.aload_n dX10_read_36 rfl rfl ?_
  refine EV.bipush dX10_read_37 (by decide) (by decide) ?_
  obtain ⟨h24, r25, hc23, hf⟩ := pv_c2o hf
  refine EV.invV (As := [.inl (-2)]) (st := []) (d1 := d - 1) (sh1 := pv_SM) (h1 := MM h24) (r1 := (some (.inl r25))) dX10_read_39 sm_0 (by decide) md_X10_no ml_X10_131 im_X10_no se_X10_no (tX10_no (by omega)  hc23) (by omega) rfl rfl (Nat.le_of_ble_eq_true rfl) ⟨[], (List.append_nil _).symm⟩ ?_
  refine EV.eqS (st2 := [.inl (r25)]) rfl ?_
  exact FV.iret dX10_read_42 hf

set_option maxHeartbeats 4000000 in
set_option maxRecDepth 20000 in
theorem tX10_read_166 {d N : Nat}  {a1 : Int} {a2 : Int} {a3 : Int} {a4 : Int} {s0 : Int} {h h' : pv_H} {r : Int} (hd : 7 ≤ d)    (hf : fX10_read_166 N  a1 a2 a3 a4 s0 h = some (h', r)) : EV RX10 cX10_read 10 (some .int) false d pv_SM (MM h') (some (.inl r)) 166 [none, none, none, none, none, none, none, none, none, none] [.inl (s0)] pv_SM (MM h) := by
  unfold fX10_read_166 at hf
  exact FV.iret dX10_read_166 hf

set_option maxHeartbeats 4000000 in
set_option maxRecDepth 20000 in
theorem tX10_read_146 {d N : Nat} {k91 : Int → Int → Int → Int → pv_H → Option (pv_H × Int)} {a1 : Int} {a2 : Int} {a3 : Int} {a4 : Int} {v5 : Int} {v6 : Int} {v8 : Int} {s0 : Int} {h h' : pv_H} {r : Int} (hd : 7 ≤ d) (hk91 : ∀ (v5 : Int) (v6 : Int) (v7 : Int) (v8 : Int)  (hh : pv_H), k91 v5 v6 v7 v8 hh = some (h', r) → EV RX10 cX10_read 10 (some .int) false d pv_SM (MM h') (some (.inl r)) 91 [some (.inr (.inr (0))), some (.inl (a1)), some (.inl (a2)), some (.inl (a3)), some (.inl (a4)), some (.inl (v5)), some (.inl (v6)), some (.inl (v7)), some (.inl (v8)), none] [] pv_SM (MM hh))   (hf : fX10_read_146 N k91 a1 a2 a3 a4 v5 v6 v8 s0 h = some (h', r)) : EV RX10 cX10_read 10 (some .int) false d pv_SM (MM h') (some (.inl r)) 146 [some (.inr (.inr (0))), some (.inl (a1)), some (.inl (a2)), some (.inl (a3)), some (.inl (a4)), some (.inl (v5)), some (.inl (v6)), none, some (.inl (v8)), none] [.inl (s0)] pv_SM (MM h) := by
  unfold fX10_read_146 at hf
  refine FV.stiw (L2 := [some (.inr (.inr (0))), some (.inl (a1)), some (.inl (a2)), some (.inl (a3)), some (.inl (a4)), some (.inl (v5)), some (.inl (v6)), some (.inl (s0)), some (.inl (v8)), none]) dX10_read_146 (Nat.le_of_ble_eq_true rfl) rfl rfl ?_
  obtain ⟨x34, ex34, hf⟩ := pv_bo hf
  refine FV.inc (L2 := [some (.inr (.inr (0))), some (.inl (a1)), some (.inl (a2)), some (.inl (a3)), some (.inl (a4)), some (.inl (v5)), some (.inl (v6)), some (.inl (s0)), some (.inl (x34)), none]) dX10_read_148 rfl (Nat.le_of_ble_eq_true rfl) ex34 rfl ?_
  refine EV.goto (tgt := 91) dX10_read_151 (by decide) ?_
  refine EV.weak (L2 := [some (.inr (.inr (0))), some (.inl (a1)), some (.inl (a2)), some (.inl (a3)), some (.inl (a4)), some (.inl (v5)), some (.inl (v6)), some (.inl (s0)), some (.inl (x34)), none]) (And.intro rfl (And.intro rfl (And.intro rfl (And.intro rfl (And.intro rfl (And.intro rfl (And.intro rfl (And.intro rfl (And.intro rfl trivial))))))))) ?_
  exact hk91 _ _ _ _  _ hf

set_option maxHeartbeats 4000000 in
set_option maxRecDepth 20000 in
theorem tX10_read_130 {d N : Nat} {k91 : Int → Int → Int → Int → pv_H → Option (pv_H × Int)} {a1 : Int} {a2 : Int} {a3 : Int} {a4 : Int} {v5 : Int} {v7 : Int} {v8 : Int} {v9 : Int} {s0 : Int} {h h' : pv_H} {r : Int} (hd : 7 ≤ d) (hk91 : ∀ (v5 : Int) (v6 : Int) (v7 : Int) (v8 : Int)  (hh : pv_H), k91 v5 v6 v7 v8 hh = some (h', r) → EV RX10 cX10_read 10 (some .int) false d pv_SM (MM h') (some (.inl r)) 91 [some (.inr (.inr (0))), some (.inl (a1)), some (.inl (a2)), some (.inl (a3)), some (.inl (a4)), some (.inl (v5)), some (.inl (v6)), some (.inl (v7)), some (.inl (v8)), none] [] pv_SM (MM hh))   (hf : fX10_read_130 N k91 a1 a2 a3 a4 v5 v7 v8 v9 s0 h = some (h', r)) : EV RX10 cX10_read 10 (some .int) false d pv_SM (MM h') (some (.inl r)) 130 [some (.inr (.inr (0))), some (.inl (a1)), some (.inl (a2)), some (.inl (a3)), some (.inl (a4)), some (.inl (v5)), none, some (.inl (v7)), some (.inl (v8)), some (.inl (v9))] [.inl (s0)] pv_SM (MM h) := by
  unfold fX10_read_130 at hf
  refine FV.stiw (L2 := [some (.inr (.inr (0))), some (.inl (a1)), some (.inl (a2)), some (.inl (a3)), some (.inl (a4)), some (.inl (v5)), some (.inl (s0)), some (.inl (v7)), some (.inl (v8)), some (.inl (v9))]) dX10_read_130 (Nat.le_of_ble_eq_true rfl) rfl rfl ?_
  refine EV.iload dX10_read_132 rfl ?_
  refine EV.iload dX10_read_134 rfl ?_
  refine EV.icmp_le (tgt := 144) dX10_read_136 (by decide) (fun q33 => ?_) (fun q33 => ?_)
  · have hf := pv_gp hf q33
    refine EV.iload dX10_read_144 rfl ?_
    refine EV.weak (L2 := [some (.inr (.inr (0))), some (.inl (a1)), some (.inl (a2)), some (.inl (a3)), some (.inl (a4)), some (.inl (v5)), some (.inl (s0)), none, some (.inl (v8)), none]) (And.intro rfl (And.intro rfl (And.intro rfl (And.intro rfl (And.intro rfl (And.intro rfl (And.intro rfl (And.intro rfl trivial)))))))) ?_
    exact tX10_read_146 hd (hk91)   hf
  · have hf := pv_gn hf q33
    refine EV.iload dX10_read_139 rfl ?_
    refine EV.goto (tgt := 146) dX10_read_141 (by decide) ?_
    refine EV.weak (L2 := [some (.inr (.inr (0))), some (.inl (a1)), some (.inl (a2)), some (.inl (a3)), some (.inl (a4)), some (.inl (v5)), some (.inl (s0)), none, some (.inl (v8)), none]) (And.intro rfl (And.intro rfl (And.intro rfl (And.intro rfl (And.intro rfl (And.intro rfl (And.intro rfl (And.intro rfl trivial)))))))) ?_
    exact tX10_read_146 hd (hk91)   hf

set_option maxHeartbeats 4000000 in
set_option maxRecDepth 20000 in
theorem tX10_read_91 {d N : Nat}  {a1 : Int} {a2 : Int} {a3 : Int} {a4 : Int} {h' : pv_H} {r : Int} (hd : 7 ≤ d)   : ∀ (n : Nat) (v5 : Int) (v6 : Int) (v7 : Int) (v8 : Int)  (h : pv_H), fX10_read_91 N  a1 a2 a3 a4 n v5 v6 v7 v8 h = some (h', r) → EV RX10 cX10_read 10 (some .int) false d pv_SM (MM h') (some (.inl r)) 91 [some (.inr (.inr (0))), some (.inl (a1)), some (.inl (a2)), some (.inl (a3)), some (.inl (a4)), some (.inl (v5)), some (.inl (v6)), some (.inl (v7)), some (.inl (v8)), none] [] pv_SM (MM h) := by
  intro n
  induction n with
  | zero =>
    intro v5 v6 v7 v8  h hf
    cases hf
  | succ n ih =>
    intro v5 v6 v7 v8  h hf
    rw [fX10_read_91] at hf
    refine EV.iload dX10_read_91 rfl ?_
    refine EV.iconst dX10_read_93 (by decide) (by decide) ?_
    refine EV.icmp_ge (tgt := 154) dX10_read_94 (by decide) (fun q26 => ?_) (fun q26 => ?_)
    · have hf := pv_gp hf q26
      refine EV.iload dX10_read_154 rfl ?_
      refine EV.if_ne (tgt := 164) dX10_read_156 (by decide) (fun q27 => ?_) (fun q27 => ?_)
      · have hf := pv_gn hf q27
        refine EV.iload dX10_read_164 rfl ?_
        refine EV.weak (L2 := [none, none, none, none, none, none, none, none, none, none]) trivial ?_
        exact tX10_read_166 hd    hf
      · have hf := pv_gp hf q27
        refine EV.iload dX10_read_159 rfl ?_
        refine EV.goto (tgt := 166) dX10_read_161 (by decide) ?_
        refine EV.weak (L2 := [none, none, none, none, none, none, none, none, none, none]) trivial ?_
        exact tX10_read_166 hd    hf
    · have hf := pv_gn hf q26
      refine EV.aload_n dX10_read_97 rfl rfl ?_
      refine EV.iload_n dX10_read_98 rfl rfl ?_
      refine EV.iload_n dX10_read_99 rfl rfl ?_
      refine EV.iload dX10_read_100 rfl ?_
      refine EV.iload_n dX10_read_102 rfl rfl ?_
      refine EV.iconst dX10_read_103 (by decide) (by decide) ?_
      obtain ⟨h29, r30, hc28, hf⟩ := pv_c2o hf
      refine EV.invV (As := [.inl (a1), .inl (a2), .inl (v8), .inl (a3), .inl (-1)]) (st := []) (d1 := d - 1) (sh1 := pv_SM) (h1 := MM h29) (r1 := (some (.inl r30))) dX10_read_104 sm_0 (by decide) md_X10_readsOf ml_X10_436 im_X10_readsOf se_X10_readsOf (tX10_readsOf (by omega)  hc28) (by omega) rfl rfl (Nat.le_of_ble_eq_true rfl) ⟨[], (List.append_nil _).symm⟩ ?_
      refine EV.eqS (st2 := [.inl (r30)]) rfl ?_
      refine FV.stiw (L2 := [some (.inr (.inr (0))), some (.inl (a1)), some (.inl (a2)), some (.inl (a3)), some (.inl (a4)), some (.inl (v5)), some (.inl (v6)), some (.inl (v7)), some (.inl (v8)), some (.inl (r30))]) dX10_read_107 (Nat.le_of_ble_eq_true rfl) rfl rfl ?_
      refine EV.iload dX10_read_109 rfl ?_
      refine EV.iload dX10_read_111 rfl ?_
      refine EV.iadd dX10_read_113 ?_
      obtain ⟨x31, ex31, hf⟩ := pv_bo hf
      refine FV.stiw (L2 := [some (.inr (.inr (0))), some (.inl (a1)), some (.inl (a2)), some (.inl (a3)), some (.inl (a4)), some (.inl (x31)), some (.inl (v6)), some (.inl (v7)), some (.inl (v8)), some (.inl (r30))]) dX10_read_114 (Nat.le_of_ble_eq_true rfl) ex31 rfl ?_
      refine EV.iload dX10_read_116 rfl ?_
      refine EV.iload dX10_read_118 rfl ?_
      refine EV.icmp_le (tgt := 128) dX10_read_120 (by decide) (fun q32 => ?_) (fun q32 => ?_)
      · have hf := pv_gp hf q32
        refine EV.iload dX10_read_128 rfl ?_
        refine EV.weak (L2 := [some (.inr (.inr (0))), some (.inl (a1)), some (.inl (a2)), some (.inl (a3)), some (.inl (a4)), some (.inl (x31)), none, some (.inl (v7)), some (.inl (v8)), some (.inl (r30))]) (And.intro rfl (And.intro rfl (And.intro rfl (And.intro rfl (And.intro rfl (And.intro rfl (And.intro rfl (And.intro rfl (And.intro rfl trivial))))))))) ?_
        exact tX10_read_130 hd (ih)   hf
      · have hf := pv_gn hf q32
        refine EV.iload dX10_read_123 rfl ?_
        refine EV.goto (tgt := 130) dX10_read_125 (by decide) ?_
        refine EV.weak (L2 := [some (.inr (.inr (0))), some (.inl (a1)), some (.inl (a2)), some (.inl (a3)), some (.inl (a4)), some (.inl (x31)), none, some (.inl (v7)), some (.inl (v8)), some (.inl (r30))]) (And.intro rfl (And.intro rfl (And.intro rfl (And.intro rfl (And.intro rfl (And.intro rfl (And.intro rfl (And.intro rfl (And.intro rfl trivial))))))))) ?_
        exact tX10_read_130 hd (ih)   hf

set_option maxHeartbeats 4000000 in
set_option maxRecDepth 20000 in
theorem tX10_read {d N : Nat} {a1 : Int} {a2 : Int} {a3 : Int} {a4 : Int} {h h' : pv_H} {r : Int} (hd : 7 ≤ d)  (hf : fX10_read N a1 a2 a3 a4 h = some (h', r)) : CALL yX10_read cX10_read 10 (some .int) d pv_SM (MM h) [.inr (.inr (0)), .inl (a1), .inl (a2), .inl (a3), .inl (a4)] pv_SM (MM h') (some (.inl r)) := by
  unfold fX10_read at hf
  refine EV.call (own := RX10) (ini := false) rfl rfl (fun q => by cases q) ⟨[], (List.append_nil _).symm⟩ (Nat.le_of_ble_eq_true rfl) ?_
  refine EV.eqL (L2 := [some (.inr (.inr (0))), some (.inl (a1)), some (.inl (a2)), some (.inl (a3)), some (.inl (a4)), none, none, none, none, none]) rfl ?_
  refine EV.aload_n dX10_read_0 rfl rfl ?_
  refine EV.iconst dX10_read_1 (by decide) (by decide) ?_
  obtain ⟨h1, eh1, hf⟩ := pv_bo hf
  refine FV.putI dX10_read_2 sm_0 fl_10_1 rfl rfl eh1 ?_
  refine EV.aload_n dX10_read_5 rfl rfl ?_
  refine EV.iload_n dX10_read_6 rfl rfl ?_
  obtain ⟨r3, hc2, hf⟩ := pv_c1o hf
  refine EV.invV (As := [.inl (a1)]) (st := []) (d1 := d - 1) (sh1 := pv_SM) (h1 := MM h1) (r1 := (some (.inl r3))) dX10_read_7 sm_0 (by decide) md_X10_isRod ml_X10_277 im_X10_isRod se_X10_isRod (tX10_isRod (by omega)  hc2) (by omega) rfl rfl (Nat.le_of_ble_eq_true rfl) ⟨[], (List.append_nil _).symm⟩ ?_
  refine EV.eqS (st2 := [.inl (r3)]) rfl ?_
  refine EV.if_eq (tgt := 36) dX10_read_10 (by decide) (fun q4 => ?_) (fun q4 => ?_)
  · have hf := pv_gp hf q4
    refine EV.weak (L2 := [some (.inr (.inr (0))), none, none, none, none, none, none, none, none, none]) (And.intro rfl trivial) ?_
    exact tX10_read_36 hd    hf
  · have hf := pv_gn hf q4
    refine EV.iload_n dX10_read_13 rfl rfl ?_
    refine EV.i2l dX10_read_14 ?_
    refine EV.lconst (x := 0) dX10_read_15 (by decide) (by decide) (by decide) ?_
    refine EV.ldc2 (n := 3) dX10_read_16 kl_X10_250 (by decide) (by decide) ?_
    obtain ⟨r6, hc5, hf⟩ := pv_c1o hf
    refine EV.invS (As := [.inr (.inl (a2)), .inr (.inl (0)), .inr (.inl (3))]) (st := []) (d1 := d - 1) (sh1 := pv_SM) (h1 := MM h1) (r1 := (some (.inl r6))) dX10_read_19 md_X10_within ml_X10_193 st_X10_within (tX10_within (by omega)  hc5) (by omega) rfl rfl (Nat.le_of_ble_eq_true rfl) ⟨[], (List.append_nil _).symm⟩ ?_
    refine EV.eqS (st2 := [.inl (r6)]) rfl ?_
    refine EV.if_eq (tgt := 36) dX10_read_22 (by decide) (fun q7 => ?_) (fun q7 => ?_)
    · have hf := pv_gp hf q7
      refine EV.weak (L2 := [some (.inr (.inr (0))), none, none, none, none, none, none, none, none, none]) (And.intro rfl trivial) ?_
      exact tX10_read_36 hd    hf
    · have hf := pv_gn hf q7
      refine EV.iload dX10_read_25 rfl ?_
      refine EV.i2l dX10_read_27 ?_
      refine EV.lconst (x := 0) dX10_read_28 (by decide) (by decide) (by decide) ?_
      refine EV.lconst (x := 1) dX10_read_29 (by decide) (by decide) (by decide) ?_
      obtain ⟨r9, hc8, hf⟩ := pv_c1o hf
      refine EV.invS (As := [.inr (.inl (a4)), .inr (.inl (0)), .inr (.inl (1))]) (st := []) (d1 := d - 1) (sh1 := pv_SM) (h1 := MM h1) (r1 := (some (.inl r9))) dX10_read_30 md_X10_within ml_X10_193 st_X10_within (tX10_within (by omega)  hc8) (by omega) rfl rfl (Nat.le_of_ble_eq_true rfl) ⟨[], (List.append_nil _).symm⟩ ?_
      refine EV.eqS (st2 := [.inl (r9)]) rfl ?_
      refine EV.if_ne (tgt := 43) dX10_read_33 (by decide) (fun q10 => ?_) (fun q10 => ?_)
      · have hf := pv_gn hf q10
        refine EV.iload_n dX10_read_43 rfl rfl ?_
        refine EV.i2l dX10_read_44 ?_
        refine EV.lconst (x := 1) dX10_read_45 (by decide) (by decide) (by decide) ?_
        refine EV.ldc2 (n := 100) dX10_read_46 kl_X10_323 (by decide) (by decide) ?_
        obtain ⟨r12, hc11, hf⟩ := pv_c1o hf
        refine EV.invS (As := [.inr (.inl (a3)), .inr (.inl (1)), .inr (.inl (100))]) (st := []) (d1 := d - 1) (sh1 := pv_SM) (h1 := MM h1) (r1 := (some (.inl r12))) dX10_read_49 md_X10_within ml_X10_193 st_X10_within (tX10_within (by omega)  hc11) (by omega) rfl rfl (Nat.le_of_ble_eq_true rfl) ⟨[], (List.append_nil _).symm⟩ ?_
        refine EV.eqS (st2 := [.inl (r12)]) rfl ?_
        refine EV.if_ne (tgt := 62) dX10_read_52 (by decide) (fun q13 => ?_) (fun q13 => ?_)
        · have hf := pv_gn hf q13
          refine EV.aload_n dX10_read_62 rfl rfl ?_
          refine FV.getF (v := 33) dX10_read_63 sm_0 fl_10_114 rfl rfl hvm_0_63 ?_
          refine EV.iload_n dX10_read_66 rfl rfl ?_
          obtain ⟨g14, hf⟩ := pv_gd hf
          refine FV.iald dX10_read_67 sm_33 g14.1 g14.2 (j := (Int.toNat (a2))) rfl ?_
          refine EV.iconst dX10_read_68 (by decide) (by decide) ?_
          refine EV.icmp_ne (tgt := 79) dX10_read_69 (by decide) (fun q15 => ?_) (fun q15 => ?_)
          · have hf := pv_gn hf q15
            refine EV.iconst dX10_read_79 (by decide) (by decide) ?_
            refine FV.stiw (L2 := [some (.inr (.inr (0))), some (.inl (a1)), some (.inl (a2)), some (.inl (a3)), some (.inl (a4)), some (.inl (0)), none, none, none, none]) dX10_read_80 (Nat.le_of_ble_eq_true rfl) rfl rfl ?_
            refine EV.iconst dX10_read_82 (by decide) (by decide) ?_
            obtain ⟨x16, ex16, hf⟩ := pv_bo hf
            refine FV.stiw (L2 := [some (.inr (.inr (0))), some (.inl (a1)), some (.inl (a2)), some (.inl (a3)), some (.inl (a4)), some (.inl (0)), some (.inl (x16)), none, none, none]) dX10_read_83 (Nat.le_of_ble_eq_true rfl) ex16 rfl ?_
            refine EV.iconst dX10_read_85 (by decide) (by decide) ?_
            refine FV.stiw (L2 := [some (.inr (.inr (0))), some (.inl (a1)), some (.inl (a2)), some (.inl (a3)), some (.inl (a4)), some (.inl (0)), some (.inl (x16)), some (.inl (0)), none, none]) dX10_read_86 (Nat.le_of_ble_eq_true rfl) rfl rfl ?_
            refine EV.iconst dX10_read_88 (by decide) (by decide) ?_
            refine FV.stiw (L2 := [some (.inr (.inr (0))), some (.inl (a1)), some (.inl (a2)), some (.inl (a3)), some (.inl (a4)), some (.inl (0)), some (.inl (x16)), some (.inl (0)), some (.inl (0)), none]) dX10_read_89 (Nat.le_of_ble_eq_true rfl) rfl rfl ?_
            refine EV.weak (L2 := [some (.inr (.inr (0))), some (.inl (a1)), some (.inl (a2)), some (.inl (a3)), some (.inl (a4)), some (.inl (0)), some (.inl (x16)), some (.inl (0)), some (.inl (0)), none]) (And.intro rfl (And.intro rfl (And.intro rfl (And.intro rfl (And.intro rfl (And.intro rfl (And.intro rfl (And.intro rfl (And.intro rfl trivial))))))))) ?_
            exact tX10_read_91 hd   _ _ _ _ _  _ hf
          · have hf := pv_gp hf q15
            refine EV.aload_n dX10_read_72 rfl rfl ?_
            refine EV.bipush dX10_read_73 (by decide) (by decide) ?_
            obtain ⟨h18, r19, hc17, hf⟩ := pv_c2o hf
            refine EV.invV (As := [.inl (-6)]) (st := []) (d1 := d - 1) (sh1 := pv_SM) (h1 := MM h18) (r1 := (some (.inl r19))) dX10_read_75 sm_0 (by decide) md_X10_no ml_X10_131 im_X10_no se_X10_no (tX10_no (by omega)  hc17) (by omega) rfl rfl (Nat.le_of_ble_eq_true rfl) ⟨[], (List.append_nil _).symm⟩ ?_
            refine EV.eqS (st2 := [.inl (r19)]) rfl ?_
            exact FV.iret dX10_read_78 hf
        · have hf := pv_gp hf q13
          refine EV.aload_n dX10_read_55 rfl rfl ?_
          refine EV.bipush dX10_read_56 (by decide) (by decide) ?_
          obtain ⟨h21, r22, hc20, hf⟩ := pv_c2o hf
          refine EV.invV (As := [.inl (-3)]) (st := []) (d1 := d - 1) (sh1 := pv_SM) (h1 := MM h21) (r1 := (some (.inl r22))) dX10_read_58 sm_0 (by decide) md_X10_no ml_X10_131 im_X10_no se_X10_no (tX10_no (by omega)  hc20) (by omega) rfl rfl (Nat.le_of_ble_eq_true rfl) ⟨[], (List.append_nil _).symm⟩ ?_
          refine EV.eqS (st2 := [.inl (r22)]) rfl ?_
          exact FV.iret dX10_read_61 hf
      · have hf := pv_gp hf q10
        refine EV.weak (L2 := [some (.inr (.inr (0))), none, none, none, none, none, none, none, none, none]) (And.intro rfl trivial) ?_
        exact tX10_read_36 hd    hf

noncomputable def fX10_was_35 (N : Nat)  (a1 : Int) (a2 : Int) (a3 : Int) (a4 : Int)  (h : pv_H) : Option (pv_H × Int) :=
  pv_c2b (fX10_no N (-2) h) fun h23 r24 => some (h23, r24)

noncomputable def fX10_was_84 (N : Nat)  (a1 : Int) (a2 : Int) (a3 : Int) (a4 : Int) : Nat → Int → Int → pv_H → Option (pv_H × Int)
  | 0, _, _, _ => none
  | n + 1, v5, v6, h => if 4 ≤ v6 then (some (h, v5)) else (pv_c2b (fX10_readsOf N a1 a2 v6 a3 a4 h) fun h27 r28 => pv_b (pv_w (v5 + r28)) fun x29 => pv_b (pv_w (v6 + 1)) fun x30 => fX10_was_84 N  a1 a2 a3 a4 n (x29) (x30) h27)

noncomputable def fX10_was (N : Nat) (a1 : Int) (a2 : Int) (a3 : Int) (a4 : Int) (h : pv_H) : Option (pv_H × Int) :=
  pv_b (pv_up h 0 0 0) fun h1 => pv_c1 (fX10_isRod N a1 h1) fun r3 => if r3 = 0 then (fX10_was_35 N  a1 a2 a3 a4  h1) else (pv_c1 (fX10_within N a2 0 3 h1) fun r6 => if r6 = 0 then (fX10_was_35 N  a1 a2 a3 a4  h1) else (pv_c1 (fX10_isCell N a1 a4 h1) fun r9 => if r9 = 0 then (fX10_was_35 N  a1 a2 a3 a4  h1) else (pv_c1 (fX10_within N a3 1 100 h1) fun r12 => if r12 = 0 then (pv_c2b (fX10_no N (-3) h1) fun h20 r21 => some (h20, r21)) else (if 0 ≤ a2 ∧ a2 < 4 then (if (h1 33 (Int.toNat (a2))) = (-1) then (pv_c2b (fX10_no N (-6) h1) fun h17 r18 => some (h17, r18)) else (fX10_was_84 N  a1 a2 a3 a4 N (0) (0) h1)) else none))))

set_option maxHeartbeats 4000000 in
set_option maxRecDepth 20000 in
theorem tX10_was_35 {d N : Nat}  {a1 : Int} {a2 : Int} {a3 : Int} {a4 : Int}  {h h' : pv_H} {r : Int} (hd : 7 ≤ d)    (hf : fX10_was_35 N  a1 a2 a3 a4  h = some (h', r)) : EV RX10 cX10_was 7 (some .int) false d pv_SM (MM h') (some (.inl r)) 35 [some (.inr (.inr (0))), none, none, none, none, none, none] [] pv_SM (MM h) := by
  unfold fX10_was_35 at hf
  refine EV.aload_n dX10_was_35 rfl rfl ?_
  refine EV.bipush dX10_was_36 (by decide) (by decide) ?_
  obtain ⟨h23, r24, hc22, hf⟩ := pv_c2o hf
  refine EV.invV (As := [.inl (-2)]) (st := []) (d1 := d - 1) (sh1 := pv_SM) (h1 := MM h23) (r1 := (some (.inl r24))) dX10_was_38 sm_0 (by decide) md_X10_no ml_X10_131 im_X10_no se_X10_no (tX10_no (by omega)  hc22) (by omega) rfl rfl (Nat.le_of_ble_eq_true rfl) ⟨[], (List.append_nil _).symm⟩ ?_
  refine EV.eqS (st2 := [.inl (r24)]) rfl ?_
  exact FV.iret dX10_was_41 hf

set_option maxHeartbeats 4000000 in
set_option maxRecDepth 20000 in
theorem tX10_was_84 {d N : Nat}  {a1 : Int} {a2 : Int} {a3 : Int} {a4 : Int} {h' : pv_H} {r : Int} (hd : 7 ≤ d)   : ∀ (n : Nat) (v5 : Int) (v6 : Int)  (h : pv_H), fX10_was_84 N  a1 a2 a3 a4 n v5 v6 h = some (h', r) → EV RX10 cX10_was 7 (some .int) false d pv_SM (MM h') (some (.inl r)) 84 [some (.inr (.inr (0))), some (.inl (a1)), some (.inl (a2)), some (.inl (a3)), some (.inl (a4)), some (.inl (v5)), some (.inl (v6))] [] pv_SM (MM h) := by
  intro n
  induction n with
  | zero =>
    intro v5 v6  h hf
    cases hf
  | succ n ih =>
    intro v5 v6  h hf
    rw [fX10_was_84] at hf
    refine EV.iload dX10_was_84 rfl ?_
    refine EV.iconst dX10_was_86 (by decide) (by decide) ?_
    refine EV.icmp_ge (tgt := 112) dX10_was_87 (by decide) (fun q25 => ?_) (fun q25 => ?_)
    · have hf := pv_gp hf q25
      refine EV.iload dX10_was_112 rfl ?_
      exact FV.iret dX10_was_114 hf
    · have hf := pv_gn hf q25
      refine EV.iload dX10_was_90 rfl ?_
      refine EV.aload_n dX10_was_92 rfl rfl ?_
      refine EV.iload_n dX10_was_93 rfl rfl ?_
      refine EV.iload_n dX10_was_94 rfl rfl ?_
      refine EV.iload dX10_was_95 rfl ?_
      refine EV.iload_n dX10_was_97 rfl rfl ?_
      refine EV.iload dX10_was_98 rfl ?_
      obtain ⟨h27, r28, hc26, hf⟩ := pv_c2o hf
      refine EV.invV (As := [.inl (a1), .inl (a2), .inl (v6), .inl (a3), .inl (a4)]) (st := [.inl (v5)]) (d1 := d - 1) (sh1 := pv_SM) (h1 := MM h27) (r1 := (some (.inl r28))) dX10_was_100 sm_0 (by decide) md_X10_readsOf ml_X10_436 im_X10_readsOf se_X10_readsOf (tX10_readsOf (by omega)  hc26) (by omega) rfl rfl (Nat.le_of_ble_eq_true rfl) ⟨[], (List.append_nil _).symm⟩ ?_
      refine EV.eqS (st2 := [.inl (r28), .inl (v5)]) rfl ?_
      refine EV.iadd dX10_was_103 ?_
      obtain ⟨x29, ex29, hf⟩ := pv_bo hf
      refine FV.stiw (L2 := [some (.inr (.inr (0))), some (.inl (a1)), some (.inl (a2)), some (.inl (a3)), some (.inl (a4)), some (.inl (x29)), some (.inl (v6))]) dX10_was_104 (Nat.le_of_ble_eq_true rfl) ex29 rfl ?_
      obtain ⟨x30, ex30, hf⟩ := pv_bo hf
      refine FV.inc (L2 := [some (.inr (.inr (0))), some (.inl (a1)), some (.inl (a2)), some (.inl (a3)), some (.inl (a4)), some (.inl (x29)), some (.inl (x30))]) dX10_was_106 rfl (Nat.le_of_ble_eq_true rfl) ex30 rfl ?_
      refine EV.goto (tgt := 84) dX10_was_109 (by decide) ?_
      refine EV.weak (L2 := [some (.inr (.inr (0))), some (.inl (a1)), some (.inl (a2)), some (.inl (a3)), some (.inl (a4)), some (.inl (x29)), some (.inl (x30))]) (And.intro rfl (And.intro rfl (And.intro rfl (And.intro rfl (And.intro rfl (And.intro rfl (And.intro rfl trivial))))))) ?_
      exact ih _ _  _ hf

set_option maxHeartbeats 4000000 in
set_option maxRecDepth 20000 in
theorem tX10_was {d N : Nat} {a1 : Int} {a2 : Int} {a3 : Int} {a4 : Int} {h h' : pv_H} {r : Int} (hd : 7 ≤ d)  (hf : fX10_was N a1 a2 a3 a4 h = some (h', r)) : CALL yX10_was cX10_was 7 (some .int) d pv_SM (MM h) [.inr (.inr (0)), .inl (a1), .inl (a2), .inl (a3), .inl (a4)] pv_SM (MM h') (some (.inl r)) := by
  unfold fX10_was at hf
  refine EV.call (own := RX10) (ini := false) rfl rfl (fun q => by cases q) ⟨[], (List.append_nil _).symm⟩ (Nat.le_of_ble_eq_true rfl) ?_
  refine EV.eqL (L2 := [some (.inr (.inr (0))), some (.inl (a1)), some (.inl (a2)), some (.inl (a3)), some (.inl (a4)), none, none]) rfl ?_
  refine EV.aload_n dX10_was_0 rfl rfl ?_
  refine EV.iconst dX10_was_1 (by decide) (by decide) ?_
  obtain ⟨h1, eh1, hf⟩ := pv_bo hf
  refine FV.putI dX10_was_2 sm_0 fl_10_1 rfl rfl eh1 ?_
  refine EV.aload_n dX10_was_5 rfl rfl ?_
  refine EV.iload_n dX10_was_6 rfl rfl ?_
  obtain ⟨r3, hc2, hf⟩ := pv_c1o hf
  refine EV.invV (As := [.inl (a1)]) (st := []) (d1 := d - 1) (sh1 := pv_SM) (h1 := MM h1) (r1 := (some (.inl r3))) dX10_was_7 sm_0 (by decide) md_X10_isRod ml_X10_277 im_X10_isRod se_X10_isRod (tX10_isRod (by omega)  hc2) (by omega) rfl rfl (Nat.le_of_ble_eq_true rfl) ⟨[], (List.append_nil _).symm⟩ ?_
  refine EV.eqS (st2 := [.inl (r3)]) rfl ?_
  refine EV.if_eq (tgt := 35) dX10_was_10 (by decide) (fun q4 => ?_) (fun q4 => ?_)
  · have hf := pv_gp hf q4
    refine EV.weak (L2 := [some (.inr (.inr (0))), none, none, none, none, none, none]) (And.intro rfl trivial) ?_
    exact tX10_was_35 hd    hf
  · have hf := pv_gn hf q4
    refine EV.iload_n dX10_was_13 rfl rfl ?_
    refine EV.i2l dX10_was_14 ?_
    refine EV.lconst (x := 0) dX10_was_15 (by decide) (by decide) (by decide) ?_
    refine EV.ldc2 (n := 3) dX10_was_16 kl_X10_250 (by decide) (by decide) ?_
    obtain ⟨r6, hc5, hf⟩ := pv_c1o hf
    refine EV.invS (As := [.inr (.inl (a2)), .inr (.inl (0)), .inr (.inl (3))]) (st := []) (d1 := d - 1) (sh1 := pv_SM) (h1 := MM h1) (r1 := (some (.inl r6))) dX10_was_19 md_X10_within ml_X10_193 st_X10_within (tX10_within (by omega)  hc5) (by omega) rfl rfl (Nat.le_of_ble_eq_true rfl) ⟨[], (List.append_nil _).symm⟩ ?_
    refine EV.eqS (st2 := [.inl (r6)]) rfl ?_
    refine EV.if_eq (tgt := 35) dX10_was_22 (by decide) (fun q7 => ?_) (fun q7 => ?_)
    · have hf := pv_gp hf q7
      refine EV.weak (L2 := [some (.inr (.inr (0))), none, none, none, none, none, none]) (And.intro rfl trivial) ?_
      exact tX10_was_35 hd    hf
    · have hf := pv_gn hf q7
      refine EV.aload_n dX10_was_25 rfl rfl ?_
      refine EV.iload_n dX10_was_26 rfl rfl ?_
      refine EV.iload dX10_was_27 rfl ?_
      obtain ⟨r9, hc8, hf⟩ := pv_c1o hf
      refine EV.invV (As := [.inl (a1), .inl (a4)]) (st := []) (d1 := d - 1) (sh1 := pv_SM) (h1 := MM h1) (r1 := (some (.inl r9))) dX10_was_29 sm_0 (by decide) md_X10_isCell ml_X10_414 im_X10_isCell se_X10_isCell (tX10_isCell (by omega)  hc8) (by omega) rfl rfl (Nat.le_of_ble_eq_true rfl) ⟨[], (List.append_nil _).symm⟩ ?_
      refine EV.eqS (st2 := [.inl (r9)]) rfl ?_
      refine EV.if_ne (tgt := 42) dX10_was_32 (by decide) (fun q10 => ?_) (fun q10 => ?_)
      · have hf := pv_gn hf q10
        refine EV.iload_n dX10_was_42 rfl rfl ?_
        refine EV.i2l dX10_was_43 ?_
        refine EV.lconst (x := 1) dX10_was_44 (by decide) (by decide) (by decide) ?_
        refine EV.ldc2 (n := 100) dX10_was_45 kl_X10_323 (by decide) (by decide) ?_
        obtain ⟨r12, hc11, hf⟩ := pv_c1o hf
        refine EV.invS (As := [.inr (.inl (a3)), .inr (.inl (1)), .inr (.inl (100))]) (st := []) (d1 := d - 1) (sh1 := pv_SM) (h1 := MM h1) (r1 := (some (.inl r12))) dX10_was_48 md_X10_within ml_X10_193 st_X10_within (tX10_within (by omega)  hc11) (by omega) rfl rfl (Nat.le_of_ble_eq_true rfl) ⟨[], (List.append_nil _).symm⟩ ?_
        refine EV.eqS (st2 := [.inl (r12)]) rfl ?_
        refine EV.if_ne (tgt := 61) dX10_was_51 (by decide) (fun q13 => ?_) (fun q13 => ?_)
        · have hf := pv_gn hf q13
          refine EV.aload_n dX10_was_61 rfl rfl ?_
          refine FV.getF (v := 33) dX10_was_62 sm_0 fl_10_114 rfl rfl hvm_0_63 ?_
          refine EV.iload_n dX10_was_65 rfl rfl ?_
          obtain ⟨g14, hf⟩ := pv_gd hf
          refine FV.iald dX10_was_66 sm_33 g14.1 g14.2 (j := (Int.toNat (a2))) rfl ?_
          refine EV.iconst dX10_was_67 (by decide) (by decide) ?_
          refine EV.icmp_ne (tgt := 78) dX10_was_68 (by decide) (fun q15 => ?_) (fun q15 => ?_)
          · have hf := pv_gn hf q15
            refine EV.iconst dX10_was_78 (by decide) (by decide) ?_
            refine FV.stiw (L2 := [some (.inr (.inr (0))), some (.inl (a1)), some (.inl (a2)), some (.inl (a3)), some (.inl (a4)), some (.inl (0)), none]) dX10_was_79 (Nat.le_of_ble_eq_true rfl) rfl rfl ?_
            refine EV.iconst dX10_was_81 (by decide) (by decide) ?_
            refine FV.stiw (L2 := [some (.inr (.inr (0))), some (.inl (a1)), some (.inl (a2)), some (.inl (a3)), some (.inl (a4)), some (.inl (0)), some (.inl (0))]) dX10_was_82 (Nat.le_of_ble_eq_true rfl) rfl rfl ?_
            refine EV.weak (L2 := [some (.inr (.inr (0))), some (.inl (a1)), some (.inl (a2)), some (.inl (a3)), some (.inl (a4)), some (.inl (0)), some (.inl (0))]) (And.intro rfl (And.intro rfl (And.intro rfl (And.intro rfl (And.intro rfl (And.intro rfl (And.intro rfl trivial))))))) ?_
            exact tX10_was_84 hd   _ _ _  _ hf
          · have hf := pv_gp hf q15
            refine EV.aload_n dX10_was_71 rfl rfl ?_
            refine EV.bipush dX10_was_72 (by decide) (by decide) ?_
            obtain ⟨h17, r18, hc16, hf⟩ := pv_c2o hf
            refine EV.invV (As := [.inl (-6)]) (st := []) (d1 := d - 1) (sh1 := pv_SM) (h1 := MM h17) (r1 := (some (.inl r18))) dX10_was_74 sm_0 (by decide) md_X10_no ml_X10_131 im_X10_no se_X10_no (tX10_no (by omega)  hc16) (by omega) rfl rfl (Nat.le_of_ble_eq_true rfl) ⟨[], (List.append_nil _).symm⟩ ?_
            refine EV.eqS (st2 := [.inl (r18)]) rfl ?_
            exact FV.iret dX10_was_77 hf
        · have hf := pv_gp hf q13
          refine EV.aload_n dX10_was_54 rfl rfl ?_
          refine EV.bipush dX10_was_55 (by decide) (by decide) ?_
          obtain ⟨h20, r21, hc19, hf⟩ := pv_c2o hf
          refine EV.invV (As := [.inl (-3)]) (st := []) (d1 := d - 1) (sh1 := pv_SM) (h1 := MM h20) (r1 := (some (.inl r21))) dX10_was_57 sm_0 (by decide) md_X10_no ml_X10_131 im_X10_no se_X10_no (tX10_no (by omega)  hc19) (by omega) rfl rfl (Nat.le_of_ble_eq_true rfl) ⟨[], (List.append_nil _).symm⟩ ?_
          refine EV.eqS (st2 := [.inl (r21)]) rfl ?_
          exact FV.iret dX10_was_60 hf
      · have hf := pv_gp hf q10
        refine EV.weak (L2 := [some (.inr (.inr (0))), none, none, none, none, none, none]) (And.intro rfl trivial) ?_
        exact tX10_was_35 hd    hf

noncomputable def fX10_kinds_28 (N : Nat) (k4 : Int → Int → pv_H → Option (Int)) (a1 : Int) (v3 : Int) (s0 : Int) (s1 : Int) (h : pv_H) : Option (Int) :=
  pv_b (pv_w (s1 + s0)) fun x4 => pv_b (pv_w (v3 + 1)) fun x5 => k4 (x4) (x5) h

noncomputable def fX10_kinds_4 (N : Nat)  (a1 : Int) : Nat → Int → Int → pv_H → Option (Int)
  | 0, _, _, _ => none
  | n + 1, v2, v3, h => if (h 0 38) ≤ v3 then (some (v2)) else (if 0 ≤ v3 ∧ v3 < 60 then (if (h 22 (Int.toNat (v3))) = a1 then (fX10_kinds_28 N (fun v2_ v3_ hh => fX10_kinds_4 N  a1 n v2_ v3_ hh) a1 (v3) (1) (v2) h) else (fX10_kinds_28 N (fun v2_ v3_ hh => fX10_kinds_4 N  a1 n v2_ v3_ hh) a1 (v3) (0) (v2) h)) else none)

noncomputable def fX10_kinds (N : Nat) (a1 : Int) (h : pv_H) : Option (Int) :=
  fX10_kinds_4 N  a1 N (0) (0) h

set_option maxHeartbeats 4000000 in
set_option maxRecDepth 20000 in
theorem tX10_kinds_28 {d N : Nat} {k4 : Int → Int → pv_H → Option (Int)} {a1 : Int} {v3 : Int} {s0 : Int} {s1 : Int} {h : pv_H} {r : Int} (hd : 1 ≤ d) (hk4 : ∀ (v2 : Int) (v3 : Int) , k4 v2 v3 h = some r → EV RX10 cX10_kinds 4 (some .int) false d pv_SM (MM h) (some (.inl r)) 4 [some (.inr (.inr (0))), some (.inl (a1)), some (.inl (v2)), some (.inl (v3))] [] pv_SM (MM h))   (hf : fX10_kinds_28 N k4 a1 v3 s0 s1 h = some r) : EV RX10 cX10_kinds 4 (some .int) false d pv_SM (MM h) (some (.inl r)) 28 [some (.inr (.inr (0))), some (.inl (a1)), none, some (.inl (v3))] [.inl (s0), .inl (s1)] pv_SM (MM h) := by
  unfold fX10_kinds_28 at hf
  refine EV.iadd dX10_kinds_28 ?_
  obtain ⟨x4, ex4, hf⟩ := pv_bo hf
  refine FV.sti (L2 := [some (.inr (.inr (0))), some (.inl (a1)), some (.inl (x4)), some (.inl (v3))]) dX10_kinds_29 rfl (Nat.le_of_ble_eq_true rfl) ex4 rfl ?_
  obtain ⟨x5, ex5, hf⟩ := pv_bo hf
  refine FV.inc (L2 := [some (.inr (.inr (0))), some (.inl (a1)), some (.inl (x4)), some (.inl (x5))]) dX10_kinds_30 rfl (Nat.le_of_ble_eq_true rfl) ex5 rfl ?_
  refine EV.goto (tgt := 4) dX10_kinds_33 (by decide) ?_
  refine EV.weak (L2 := [some (.inr (.inr (0))), some (.inl (a1)), some (.inl (x4)), some (.inl (x5))]) (And.intro rfl (And.intro rfl (And.intro rfl (And.intro rfl trivial)))) ?_
  exact hk4 _ _   hf

set_option maxHeartbeats 4000000 in
set_option maxRecDepth 20000 in
theorem tX10_kinds_4 {d N : Nat}  {a1 : Int} {h : pv_H} {r : Int} (hd : 1 ≤ d)   : ∀ (n : Nat) (v2 : Int) (v3 : Int) , fX10_kinds_4 N  a1 n v2 v3 h = some r → EV RX10 cX10_kinds 4 (some .int) false d pv_SM (MM h) (some (.inl r)) 4 [some (.inr (.inr (0))), some (.inl (a1)), some (.inl (v2)), some (.inl (v3))] [] pv_SM (MM h) := by
  intro n
  induction n with
  | zero =>
    intro v2 v3   hf
    cases hf
  | succ n ih =>
    intro v2 v3   hf
    rw [fX10_kinds_4] at hf
    refine EV.iload_n dX10_kinds_4 rfl rfl ?_
    refine EV.aload_n dX10_kinds_5 rfl rfl ?_
    refine FV.getI dX10_kinds_6 sm_0 fl_10_328 rfl ?_
    refine EV.icmp_ge (tgt := 36) dX10_kinds_9 (by decide) (fun q1 => ?_) (fun q1 => ?_)
    · have hf := pv_gp hf q1
      refine EV.iload_n dX10_kinds_36 rfl rfl ?_
      exact FV.iretp dX10_kinds_37 hf
    · have hf := pv_gn hf q1
      refine EV.iload_n dX10_kinds_12 rfl rfl ?_
      refine EV.aload_n dX10_kinds_13 rfl rfl ?_
      refine FV.getF (v := 22) dX10_kinds_14 sm_0 fl_10_81 rfl rfl hvm_0_49 ?_
      refine EV.iload_n dX10_kinds_17 rfl rfl ?_
      obtain ⟨g2, hf⟩ := pv_gd hf
      refine FV.iald dX10_kinds_18 sm_22 g2.1 g2.2 (j := (Int.toNat (v3))) rfl ?_
      refine EV.iload_n dX10_kinds_19 rfl rfl ?_
      refine EV.icmp_ne (tgt := 27) dX10_kinds_20 (by decide) (fun q3 => ?_) (fun q3 => ?_)
      · have hf := pv_gn hf q3
        refine EV.iconst dX10_kinds_27 (by decide) (by decide) ?_
        refine EV.weak (L2 := [some (.inr (.inr (0))), some (.inl (a1)), none, some (.inl (v3))]) (And.intro rfl (And.intro rfl (And.intro rfl trivial))) ?_
        exact tX10_kinds_28 hd (ih)   hf
      · have hf := pv_gp hf q3
        refine EV.iconst dX10_kinds_23 (by decide) (by decide) ?_
        refine EV.goto (tgt := 28) dX10_kinds_24 (by decide) ?_
        refine EV.weak (L2 := [some (.inr (.inr (0))), some (.inl (a1)), none, some (.inl (v3))]) (And.intro rfl (And.intro rfl (And.intro rfl trivial))) ?_
        exact tX10_kinds_28 hd (ih)   hf

set_option maxHeartbeats 4000000 in
set_option maxRecDepth 20000 in
theorem tX10_kinds {d N : Nat} {a1 : Int} {h : pv_H} {r : Int} (hd : 1 ≤ d)  (hf : fX10_kinds N a1 h = some r) : CALL yX10_kinds cX10_kinds 4 (some .int) d pv_SM (MM h) [.inr (.inr (0)), .inl (a1)] pv_SM (MM h) (some (.inl r)) := by
  unfold fX10_kinds at hf
  refine EV.call (own := RX10) (ini := false) rfl rfl (fun q => by cases q) ⟨[], (List.append_nil _).symm⟩ (Nat.le_of_ble_eq_true rfl) ?_
  refine EV.eqL (L2 := [some (.inr (.inr (0))), some (.inl (a1)), none, none]) rfl ?_
  refine EV.iconst dX10_kinds_0 (by decide) (by decide) ?_
  refine FV.sti (L2 := [some (.inr (.inr (0))), some (.inl (a1)), some (.inl (0)), none]) dX10_kinds_1 rfl (Nat.le_of_ble_eq_true rfl) rfl rfl ?_
  refine EV.iconst dX10_kinds_2 (by decide) (by decide) ?_
  refine FV.sti (L2 := [some (.inr (.inr (0))), some (.inl (a1)), some (.inl (0)), some (.inl (0))]) dX10_kinds_3 rfl (Nat.le_of_ble_eq_true rfl) rfl rfl ?_
  refine EV.weak (L2 := [some (.inr (.inr (0))), some (.inl (a1)), some (.inl (0)), some (.inl (0))]) (And.intro rfl (And.intro rfl (And.intro rfl (And.intro rfl trivial)))) ?_
  exact tX10_kinds_4 hd   _ _ _   hf

noncomputable def fX10_longest_64 (N : Nat) (k9 : Int → Int → pv_H → Option (Int)) (a1 : Int) (v3 : Int) (s0 : Int) (h : pv_H) : Option (Int) :=
  pv_b (pv_w (v3 + 1)) fun x10 => k9 (s0) (x10) h

noncomputable def fX10_longest_9 (N : Nat)  (a1 : Int) : Nat → Int → Int → pv_H → Option (Int)
  | 0, _, _, _ => none
  | n + 1, v2, v3, h => if (h 0 42) ≤ v3 then (some (v2)) else (if a1 = 0 then (if 0 ≤ v3 ∧ v3 < 61 then (if v2 ≤ (h 24 (Int.toNat (v3))) then (fX10_longest_64 N (fun v2_ v3_ hh => fX10_longest_9 N  a1 n v2_ v3_ hh) a1 (v3) (v2) h) else (if 0 ≤ v3 ∧ v3 < 61 then (fX10_longest_64 N (fun v2_ v3_ hh => fX10_longest_9 N  a1 n v2_ v3_ hh) a1 (v3) (h 24 (Int.toNat (v3))) h) else none)) else none) else (if 0 ≤ v3 ∧ v3 < 61 then (if (h 24 (Int.toNat (v3))) ≤ v2 then (fX10_longest_64 N (fun v2_ v3_ hh => fX10_longest_9 N  a1 n v2_ v3_ hh) a1 (v3) (v2) h) else (if 0 ≤ v3 ∧ v3 < 61 then (fX10_longest_64 N (fun v2_ v3_ hh => fX10_longest_9 N  a1 n v2_ v3_ hh) a1 (v3) (h 24 (Int.toNat (v3))) h) else none)) else none))

noncomputable def fX10_longest (N : Nat) (a1 : Int) (h : pv_H) : Option (Int) :=
  pv_b (h 24 0) fun x1 => fX10_longest_9 N  a1 N (x1) (1) h

set_option maxHeartbeats 4000000 in
set_option maxRecDepth 20000 in
theorem tX10_longest_64 {d N : Nat} {k9 : Int → Int → pv_H → Option (Int)} {a1 : Int} {v3 : Int} {s0 : Int} {h : pv_H} {r : Int} (hd : 1 ≤ d) (hk9 : ∀ (v2 : Int) (v3 : Int) , k9 v2 v3 h = some r → EV RX10 cX10_longest 4 (some .int) false d pv_SM (MM h) (some (.inl r)) 9 [some (.inr (.inr (0))), some (.inl (a1)), some (.inl (v2)), some (.inl (v3))] [] pv_SM (MM h))   (hf : fX10_longest_64 N k9 a1 v3 s0 h = some r) : EV RX10 cX10_longest 4 (some .int) false d pv_SM (MM h) (some (.inl r)) 64 [some (.inr (.inr (0))), some (.inl (a1)), none, some (.inl (v3))] [.inl (s0)] pv_SM (MM h) := by
  unfold fX10_longest_64 at hf
  refine FV.sti (L2 := [some (.inr (.inr (0))), some (.inl (a1)), some (.inl (s0)), some (.inl (v3))]) dX10_longest_64 rfl (Nat.le_of_ble_eq_true rfl) rfl rfl ?_
  obtain ⟨x10, ex10, hf⟩ := pv_bo hf
  refine FV.inc (L2 := [some (.inr (.inr (0))), some (.inl (a1)), some (.inl (s0)), some (.inl (x10))]) dX10_longest_65 rfl (Nat.le_of_ble_eq_true rfl) ex10 rfl ?_
  refine EV.goto (tgt := 9) dX10_longest_68 (by decide) ?_
  refine EV.weak (L2 := [some (.inr (.inr (0))), some (.inl (a1)), some (.inl (s0)), some (.inl (x10))]) (And.intro rfl (And.intro rfl (And.intro rfl (And.intro rfl trivial)))) ?_
  exact hk9 _ _   hf

set_option maxHeartbeats 4000000 in
set_option maxRecDepth 20000 in
theorem tX10_longest_9 {d N : Nat}  {a1 : Int} {h : pv_H} {r : Int} (hd : 1 ≤ d)   : ∀ (n : Nat) (v2 : Int) (v3 : Int) , fX10_longest_9 N  a1 n v2 v3 h = some r → EV RX10 cX10_longest 4 (some .int) false d pv_SM (MM h) (some (.inl r)) 9 [some (.inr (.inr (0))), some (.inl (a1)), some (.inl (v2)), some (.inl (v3))] [] pv_SM (MM h) := by
  intro n
  induction n with
  | zero =>
    intro v2 v3   hf
    cases hf
  | succ n ih =>
    intro v2 v3   hf
    rw [fX10_longest_9] at hf
    refine EV.iload_n dX10_longest_9 rfl rfl ?_
    refine EV.aload_n dX10_longest_10 rfl rfl ?_
    refine FV.getI dX10_longest_11 sm_0 fl_10_390 rfl ?_
    refine EV.icmp_ge (tgt := 71) dX10_longest_14 (by decide) (fun q2 => ?_) (fun q2 => ?_)
    · have hf := pv_gp hf q2
      refine EV.iload_n dX10_longest_71 rfl rfl ?_
      exact FV.iretp dX10_longest_72 hf
    · have hf := pv_gn hf q2
      refine EV.iload_n dX10_longest_17 rfl rfl ?_
      refine EV.if_eq (tgt := 44) dX10_longest_18 (by decide) (fun q3 => ?_) (fun q3 => ?_)
      · have hf := pv_gp hf q3
        refine EV.aload_n dX10_longest_44 rfl rfl ?_
        refine FV.getF (v := 24) dX10_longest_45 sm_0 fl_10_87 rfl rfl hvm_0_51 ?_
        refine EV.iload_n dX10_longest_48 rfl rfl ?_
        obtain ⟨g4, hf⟩ := pv_gd hf
        refine FV.iald dX10_longest_49 sm_24 g4.1 g4.2 (j := (Int.toNat (v3))) rfl ?_
        refine EV.iload_n dX10_longest_50 rfl rfl ?_
        refine EV.icmp_ge (tgt := 63) dX10_longest_51 (by decide) (fun q5 => ?_) (fun q5 => ?_)
        · have hf := pv_gp hf q5
          refine EV.iload_n dX10_longest_63 rfl rfl ?_
          refine EV.weak (L2 := [some (.inr (.inr (0))), some (.inl (a1)), none, some (.inl (v3))]) (And.intro rfl (And.intro rfl (And.intro rfl trivial))) ?_
          exact tX10_longest_64 hd (ih)   hf
        · have hf := pv_gn hf q5
          refine EV.aload_n dX10_longest_54 rfl rfl ?_
          refine FV.getF (v := 24) dX10_longest_55 sm_0 fl_10_87 rfl rfl hvm_0_51 ?_
          refine EV.iload_n dX10_longest_58 rfl rfl ?_
          obtain ⟨g6, hf⟩ := pv_gd hf
          refine FV.iald dX10_longest_59 sm_24 g6.1 g6.2 (j := (Int.toNat (v3))) rfl ?_
          refine EV.goto (tgt := 64) dX10_longest_60 (by decide) ?_
          refine EV.weak (L2 := [some (.inr (.inr (0))), some (.inl (a1)), none, some (.inl (v3))]) (And.intro rfl (And.intro rfl (And.intro rfl trivial))) ?_
          exact tX10_longest_64 hd (ih)   hf
      · have hf := pv_gn hf q3
        refine EV.aload_n dX10_longest_21 rfl rfl ?_
        refine FV.getF (v := 24) dX10_longest_22 sm_0 fl_10_87 rfl rfl hvm_0_51 ?_
        refine EV.iload_n dX10_longest_25 rfl rfl ?_
        obtain ⟨g7, hf⟩ := pv_gd hf
        refine FV.iald dX10_longest_26 sm_24 g7.1 g7.2 (j := (Int.toNat (v3))) rfl ?_
        refine EV.iload_n dX10_longest_27 rfl rfl ?_
        refine EV.icmp_le (tgt := 40) dX10_longest_28 (by decide) (fun q8 => ?_) (fun q8 => ?_)
        · have hf := pv_gp hf q8
          refine EV.iload_n dX10_longest_40 rfl rfl ?_
          refine EV.goto (tgt := 64) dX10_longest_41 (by decide) ?_
          refine EV.weak (L2 := [some (.inr (.inr (0))), some (.inl (a1)), none, some (.inl (v3))]) (And.intro rfl (And.intro rfl (And.intro rfl trivial))) ?_
          exact tX10_longest_64 hd (ih)   hf
        · have hf := pv_gn hf q8
          refine EV.aload_n dX10_longest_31 rfl rfl ?_
          refine FV.getF (v := 24) dX10_longest_32 sm_0 fl_10_87 rfl rfl hvm_0_51 ?_
          refine EV.iload_n dX10_longest_35 rfl rfl ?_
          obtain ⟨g9, hf⟩ := pv_gd hf
          refine FV.iald dX10_longest_36 sm_24 g9.1 g9.2 (j := (Int.toNat (v3))) rfl ?_
          refine EV.goto (tgt := 64) dX10_longest_37 (by decide) ?_
          refine EV.weak (L2 := [some (.inr (.inr (0))), some (.inl (a1)), none, some (.inl (v3))]) (And.intro rfl (And.intro rfl (And.intro rfl trivial))) ?_
          exact tX10_longest_64 hd (ih)   hf

set_option maxHeartbeats 4000000 in
set_option maxRecDepth 20000 in
theorem tX10_longest {d N : Nat} {a1 : Int} {h : pv_H} {r : Int} (hd : 1 ≤ d)  (hf : fX10_longest N a1 h = some r) : CALL yX10_longest cX10_longest 4 (some .int) d pv_SM (MM h) [.inr (.inr (0)), .inl (a1)] pv_SM (MM h) (some (.inl r)) := by
  unfold fX10_longest at hf
  refine EV.call (own := RX10) (ini := false) rfl rfl (fun q => by cases q) ⟨[], (List.append_nil _).symm⟩ (Nat.le_of_ble_eq_true rfl) ?_
  refine EV.eqL (L2 := [some (.inr (.inr (0))), some (.inl (a1)), none, none]) rfl ?_
  refine EV.aload_n dX10_longest_0 rfl rfl ?_
  refine FV.getF (v := 24) dX10_longest_1 sm_0 fl_10_87 rfl rfl hvm_0_51 ?_
  refine EV.iconst dX10_longest_4 (by decide) (by decide) ?_
  refine FV.iald dX10_longest_5 sm_24 (by decide) (by decide) (j := 0) rfl ?_
  obtain ⟨x1, ex1, hf⟩ := pv_bo hf
  refine FV.sti (L2 := [some (.inr (.inr (0))), some (.inl (a1)), some (.inl (x1)), none]) dX10_longest_6 rfl (Nat.le_of_ble_eq_true rfl) ex1 rfl ?_
  refine EV.iconst dX10_longest_7 (by decide) (by decide) ?_
  refine FV.sti (L2 := [some (.inr (.inr (0))), some (.inl (a1)), some (.inl (x1)), some (.inl (1))]) dX10_longest_8 rfl (Nat.le_of_ble_eq_true rfl) rfl rfl ?_
  refine EV.weak (L2 := [some (.inr (.inr (0))), some (.inl (a1)), some (.inl (x1)), some (.inl (1))]) (And.intro rfl (And.intro rfl (And.intro rfl (And.intro rfl trivial)))) ?_
  exact tX10_longest_9 hd   _ _ _   hf

noncomputable def fX10_fact_231 (N : Nat)  (a1 : Int) (a2 : Int) (s0 : Int) (h : pv_H) : Option (Int) :=
  if s0 = 0 ∨ s0 = 1 then (some (s0)) else none

noncomputable def fX10_fact_230 (N : Nat)  (a1 : Int) (a2 : Int)  (h : pv_H) : Option (Int) :=
  fX10_fact_231 N  a1 a2 (0) h

noncomputable def fX10_fact_74 (N : Nat)  (a1 : Int) (a2 : Int) (s0 : Int) (h : pv_H) : Option (Int) :=
  if s0 = 0 ∨ s0 = 1 then (some (s0)) else none

noncomputable def fX10_fact_73 (N : Nat)  (a1 : Int) (a2 : Int)  (h : pv_H) : Option (Int) :=
  fX10_fact_74 N  a1 a2 (0) h

noncomputable def fX10_fact_97 (N : Nat)  (a1 : Int) (a2 : Int) (s0 : Int) (h : pv_H) : Option (Int) :=
  if s0 = 0 ∨ s0 = 1 then (some (s0)) else none

noncomputable def fX10_fact_96 (N : Nat)  (a1 : Int) (a2 : Int)  (h : pv_H) : Option (Int) :=
  fX10_fact_97 N  a1 a2 (0) h

noncomputable def fX10_fact_111 (N : Nat)  (a1 : Int) (a2 : Int) (s0 : Int) (h : pv_H) : Option (Int) :=
  if s0 = 0 ∨ s0 = 1 then (some (s0)) else none

noncomputable def fX10_fact_126 (N : Nat)  (a1 : Int) (a2 : Int) (s0 : Int) (h : pv_H) : Option (Int) :=
  if s0 = 0 ∨ s0 = 1 then (some (s0)) else none

noncomputable def fX10_fact_141 (N : Nat)  (a1 : Int) (a2 : Int) (s0 : Int) (h : pv_H) : Option (Int) :=
  if s0 = 0 ∨ s0 = 1 then (some (s0)) else none

noncomputable def fX10_fact_155 (N : Nat)  (a1 : Int) (a2 : Int) (s0 : Int) (h : pv_H) : Option (Int) :=
  if s0 = 0 ∨ s0 = 1 then (some (s0)) else none

noncomputable def fX10_fact_178 (N : Nat)  (a1 : Int) (a2 : Int) (s0 : Int) (h : pv_H) : Option (Int) :=
  if s0 = 0 ∨ s0 = 1 then (some (s0)) else none

noncomputable def fX10_fact_177 (N : Nat)  (a1 : Int) (a2 : Int)  (h : pv_H) : Option (Int) :=
  fX10_fact_178 N  a1 a2 (0) h

noncomputable def fX10_fact_193 (N : Nat)  (a1 : Int) (a2 : Int) (s0 : Int) (h : pv_H) : Option (Int) :=
  if s0 = 0 ∨ s0 = 1 then (some (s0)) else none

noncomputable def fX10_fact_208 (N : Nat)  (a1 : Int) (a2 : Int) (s0 : Int) (h : pv_H) : Option (Int) :=
  if s0 = 0 ∨ s0 = 1 then (some (s0)) else none

noncomputable def fX10_fact (N : Nat) (a1 : Int) (a2 : Int) (h : pv_H) : Option (Int) :=
  if a1 = 27 then (if (h 0 38) ≤ 0 then (fX10_fact_73 N  a1 a2  h) else (if (h 22 0) = 4 then (fX10_fact_74 N  a1 a2 (1) h) else (fX10_fact_73 N  a1 a2  h))) else (if a1 = 28 then (if (h 0 38) ≤ 0 then (fX10_fact_96 N  a1 a2  h) else (if (h 22 0) = 3 then (fX10_fact_97 N  a1 a2 (1) h) else (fX10_fact_96 N  a1 a2  h))) else (if a1 = 29 then (if (h 0 42) < a2 then (fX10_fact_111 N  a1 a2 (0) h) else (fX10_fact_111 N  a1 a2 (1) h)) else (if a1 = 30 then (pv_c1 (fX10_kinds N 1 h) fun r9 => if r9 < a2 then (fX10_fact_126 N  a1 a2 (0) h) else (fX10_fact_126 N  a1 a2 (1) h)) else (if a1 = 31 then (pv_c1 (fX10_kinds N 2 h) fun r12 => if r12 < a2 then (fX10_fact_141 N  a1 a2 (0) h) else (fX10_fact_141 N  a1 a2 (1) h)) else (if a1 = 32 then (if (h 0 40) < a2 then (fX10_fact_155 N  a1 a2 (0) h) else (fX10_fact_155 N  a1 a2 (1) h)) else (if a1 = 33 then (if (h 0 38) ≤ 0 then (fX10_fact_177 N  a1 a2  h) else (if (h 20 0) = a2 then (fX10_fact_178 N  a1 a2 (1) h) else (fX10_fact_177 N  a1 a2  h))) else (if a1 = 34 then (pv_c1 (fX10_longest N 1 h) fun r18 => if r18 < a2 then (fX10_fact_193 N  a1 a2 (0) h) else (fX10_fact_193 N  a1 a2 (1) h)) else (if a1 = 35 then (pv_c1 (fX10_longest N 0 h) fun r21 => if a2 < r21 then (fX10_fact_208 N  a1 a2 (0) h) else (fX10_fact_208 N  a1 a2 (1) h)) else (if (h 0 38) ≤ 0 then (fX10_fact_230 N  a1 a2  h) else (if (h 21 0) < a2 then (fX10_fact_230 N  a1 a2  h) else (fX10_fact_231 N  a1 a2 (1) h)))))))))))

set_option maxHeartbeats 4000000 in
set_option maxRecDepth 20000 in
theorem tX10_fact_231 {d N : Nat}  {a1 : Int} {a2 : Int} {s0 : Int} {h : pv_H} {r : Int} (hd : 2 ≤ d)    (hf : fX10_fact_231 N  a1 a2 s0 h = some r) : EV RX10 cX10_fact 3 (some .boolean) false d pv_SM (MM h) (some (.inl r)) 231 [none, none, none] [.inl (s0)] pv_SM (MM h) := by
  unfold fX10_fact_231 at hf
  obtain ⟨g23, hf⟩ := pv_gd hf
  exact FV.zretp dX10_fact_231 g23 hf

set_option maxHeartbeats 4000000 in
set_option maxRecDepth 20000 in
theorem tX10_fact_230 {d N : Nat}  {a1 : Int} {a2 : Int}  {h : pv_H} {r : Int} (hd : 2 ≤ d)    (hf : fX10_fact_230 N  a1 a2  h = some r) : EV RX10 cX10_fact 3 (some .boolean) false d pv_SM (MM h) (some (.inl r)) 230 [none, none, none] [] pv_SM (MM h) := by
  unfold fX10_fact_230 at hf
  refine EV.iconst dX10_fact_230 (by decide) (by decide) ?_
  refine EV.weak (L2 := [none, none, none]) trivial ?_
  exact tX10_fact_231 hd    hf

set_option maxHeartbeats 4000000 in
set_option maxRecDepth 20000 in
theorem tX10_fact_74 {d N : Nat}  {a1 : Int} {a2 : Int} {s0 : Int} {h : pv_H} {r : Int} (hd : 2 ≤ d)    (hf : fX10_fact_74 N  a1 a2 s0 h = some r) : EV RX10 cX10_fact 3 (some .boolean) false d pv_SM (MM h) (some (.inl r)) 74 [none, none, none] [.inl (s0)] pv_SM (MM h) := by
  unfold fX10_fact_74 at hf
  obtain ⟨g24, hf⟩ := pv_gd hf
  exact FV.zretp dX10_fact_74 g24 hf

set_option maxHeartbeats 4000000 in
set_option maxRecDepth 20000 in
theorem tX10_fact_73 {d N : Nat}  {a1 : Int} {a2 : Int}  {h : pv_H} {r : Int} (hd : 2 ≤ d)    (hf : fX10_fact_73 N  a1 a2  h = some r) : EV RX10 cX10_fact 3 (some .boolean) false d pv_SM (MM h) (some (.inl r)) 73 [none, none, none] [] pv_SM (MM h) := by
  unfold fX10_fact_73 at hf
  refine EV.iconst dX10_fact_73 (by decide) (by decide) ?_
  refine EV.weak (L2 := [none, none, none]) trivial ?_
  exact tX10_fact_74 hd    hf

set_option maxHeartbeats 4000000 in
set_option maxRecDepth 20000 in
theorem tX10_fact_97 {d N : Nat}  {a1 : Int} {a2 : Int} {s0 : Int} {h : pv_H} {r : Int} (hd : 2 ≤ d)    (hf : fX10_fact_97 N  a1 a2 s0 h = some r) : EV RX10 cX10_fact 3 (some .boolean) false d pv_SM (MM h) (some (.inl r)) 97 [none, none, none] [.inl (s0)] pv_SM (MM h) := by
  unfold fX10_fact_97 at hf
  obtain ⟨g25, hf⟩ := pv_gd hf
  exact FV.zretp dX10_fact_97 g25 hf

set_option maxHeartbeats 4000000 in
set_option maxRecDepth 20000 in
theorem tX10_fact_96 {d N : Nat}  {a1 : Int} {a2 : Int}  {h : pv_H} {r : Int} (hd : 2 ≤ d)    (hf : fX10_fact_96 N  a1 a2  h = some r) : EV RX10 cX10_fact 3 (some .boolean) false d pv_SM (MM h) (some (.inl r)) 96 [none, none, none] [] pv_SM (MM h) := by
  unfold fX10_fact_96 at hf
  refine EV.iconst dX10_fact_96 (by decide) (by decide) ?_
  refine EV.weak (L2 := [none, none, none]) trivial ?_
  exact tX10_fact_97 hd    hf

set_option maxHeartbeats 4000000 in
set_option maxRecDepth 20000 in
theorem tX10_fact_111 {d N : Nat}  {a1 : Int} {a2 : Int} {s0 : Int} {h : pv_H} {r : Int} (hd : 2 ≤ d)    (hf : fX10_fact_111 N  a1 a2 s0 h = some r) : EV RX10 cX10_fact 3 (some .boolean) false d pv_SM (MM h) (some (.inl r)) 111 [none, none, none] [.inl (s0)] pv_SM (MM h) := by
  unfold fX10_fact_111 at hf
  obtain ⟨g26, hf⟩ := pv_gd hf
  exact FV.zretp dX10_fact_111 g26 hf

set_option maxHeartbeats 4000000 in
set_option maxRecDepth 20000 in
theorem tX10_fact_126 {d N : Nat}  {a1 : Int} {a2 : Int} {s0 : Int} {h : pv_H} {r : Int} (hd : 2 ≤ d)    (hf : fX10_fact_126 N  a1 a2 s0 h = some r) : EV RX10 cX10_fact 3 (some .boolean) false d pv_SM (MM h) (some (.inl r)) 126 [none, none, none] [.inl (s0)] pv_SM (MM h) := by
  unfold fX10_fact_126 at hf
  obtain ⟨g27, hf⟩ := pv_gd hf
  exact FV.zretp dX10_fact_126 g27 hf

set_option maxHeartbeats 4000000 in
set_option maxRecDepth 20000 in
theorem tX10_fact_141 {d N : Nat}  {a1 : Int} {a2 : Int} {s0 : Int} {h : pv_H} {r : Int} (hd : 2 ≤ d)    (hf : fX10_fact_141 N  a1 a2 s0 h = some r) : EV RX10 cX10_fact 3 (some .boolean) false d pv_SM (MM h) (some (.inl r)) 141 [none, none, none] [.inl (s0)] pv_SM (MM h) := by
  unfold fX10_fact_141 at hf
  obtain ⟨g28, hf⟩ := pv_gd hf
  exact FV.zretp dX10_fact_141 g28 hf

set_option maxHeartbeats 4000000 in
set_option maxRecDepth 20000 in
theorem tX10_fact_155 {d N : Nat}  {a1 : Int} {a2 : Int} {s0 : Int} {h : pv_H} {r : Int} (hd : 2 ≤ d)    (hf : fX10_fact_155 N  a1 a2 s0 h = some r) : EV RX10 cX10_fact 3 (some .boolean) false d pv_SM (MM h) (some (.inl r)) 155 [none, none, none] [.inl (s0)] pv_SM (MM h) := by
  unfold fX10_fact_155 at hf
  obtain ⟨g29, hf⟩ := pv_gd hf
  exact FV.zretp dX10_fact_155 g29 hf

set_option maxHeartbeats 4000000 in
set_option maxRecDepth 20000 in
theorem tX10_fact_178 {d N : Nat}  {a1 : Int} {a2 : Int} {s0 : Int} {h : pv_H} {r : Int} (hd : 2 ≤ d)    (hf : fX10_fact_178 N  a1 a2 s0 h = some r) : EV RX10 cX10_fact 3 (some .boolean) false d pv_SM (MM h) (some (.inl r)) 178 [none, none, none] [.inl (s0)] pv_SM (MM h) := by
  unfold fX10_fact_178 at hf
  obtain ⟨g30, hf⟩ := pv_gd hf
  exact FV.zretp dX10_fact_178 g30 hf

set_option maxHeartbeats 4000000 in
set_option maxRecDepth 20000 in
theorem tX10_fact_177 {d N : Nat}  {a1 : Int} {a2 : Int}  {h : pv_H} {r : Int} (hd : 2 ≤ d)    (hf : fX10_fact_177 N  a1 a2  h = some r) : EV RX10 cX10_fact 3 (some .boolean) false d pv_SM (MM h) (some (.inl r)) 177 [none, none, none] [] pv_SM (MM h) := by
  unfold fX10_fact_177 at hf
  refine EV.iconst dX10_fact_177 (by decide) (by decide) ?_
  refine EV.weak (L2 := [none, none, none]) trivial ?_
  exact tX10_fact_178 hd    hf

set_option maxHeartbeats 4000000 in
set_option maxRecDepth 20000 in
theorem tX10_fact_193 {d N : Nat}  {a1 : Int} {a2 : Int} {s0 : Int} {h : pv_H} {r : Int} (hd : 2 ≤ d)    (hf : fX10_fact_193 N  a1 a2 s0 h = some r) : EV RX10 cX10_fact 3 (some .boolean) false d pv_SM (MM h) (some (.inl r)) 193 [none, none, none] [.inl (s0)] pv_SM (MM h) := by
  unfold fX10_fact_193 at hf
  obtain ⟨g31, hf⟩ := pv_gd hf
  exact FV.zretp dX10_fact_193 g31 hf

set_option maxHeartbeats 4000000 in
set_option maxRecDepth 20000 in
theorem tX10_fact_208 {d N : Nat}  {a1 : Int} {a2 : Int} {s0 : Int} {h : pv_H} {r : Int} (hd : 2 ≤ d)    (hf : fX10_fact_208 N  a1 a2 s0 h = some r) : EV RX10 cX10_fact 3 (some .boolean) false d pv_SM (MM h) (some (.inl r)) 208 [none, none, none] [.inl (s0)] pv_SM (MM h) := by
  unfold fX10_fact_208 at hf
  obtain ⟨g32, hf⟩ := pv_gd hf
  exact FV.zretp dX10_fact_208 g32 hf

set_option maxHeartbeats 4000000 in
set_option maxRecDepth 20000 in
theorem tX10_fact {d N : Nat} {a1 : Int} {a2 : Int} {h : pv_H} {r : Int} (hd : 2 ≤ d)  (hf : fX10_fact N a1 a2 h = some r) : CALL yX10_fact cX10_fact 3 (some .boolean) d pv_SM (MM h) [.inr (.inr (0)), .inl (a1), .inl (a2)] pv_SM (MM h) (some (.inl r)) := by
  unfold fX10_fact at hf
  refine EV.call (own := RX10) (ini := false) rfl rfl (fun q => by cases q) ⟨[], (List.append_nil _).symm⟩ (Nat.le_of_ble_eq_true rfl) ?_
  refine EV.eqL (L2 := [some (.inr (.inr (0))), some (.inl (a1)), some (.inl (a2))]) rfl ?_
  refine EV.iload_n dX10_fact_0 rfl rfl ?_
  by_cases q27 : a1 = 27
  · have hf := pv_gp hf q27
    refine EV.tabIn (tgt := 52) dX10_fact_1 (by omega) (by omega) (by rw [q27]; rfl) (by decide) ?_
    refine EV.aload_n dX10_fact_52 rfl rfl ?_
    refine FV.getI dX10_fact_53 sm_0 fl_10_328 rfl ?_
    refine EV.if_le (tgt := 73) dX10_fact_56 (by decide) (fun q3 => ?_) (fun q3 => ?_)
    · have hf := pv_gp hf q3
      refine EV.weak (L2 := [none, none, none]) trivial ?_
      exact tX10_fact_73 hd    hf
    · have hf := pv_gn hf q3
      refine EV.aload_n dX10_fact_59 rfl rfl ?_
      refine FV.getF (v := 22) dX10_fact_60 sm_0 fl_10_81 rfl rfl hvm_0_49 ?_
      refine EV.iconst dX10_fact_63 (by decide) (by decide) ?_
      refine FV.iald dX10_fact_64 sm_22 (by decide) (by decide) (j := 0) rfl ?_
      refine EV.iconst dX10_fact_65 (by decide) (by decide) ?_
      refine EV.icmp_ne (tgt := 73) dX10_fact_66 (by decide) (fun q4 => ?_) (fun q4 => ?_)
      · have hf := pv_gn hf q4
        refine EV.weak (L2 := [none, none, none]) trivial ?_
        exact tX10_fact_73 hd    hf
      · have hf := pv_gp hf q4
        refine EV.iconst dX10_fact_69 (by decide) (by decide) ?_
        refine EV.goto (tgt := 74) dX10_fact_70 (by decide) ?_
        refine EV.weak (L2 := [none, none, none]) trivial ?_
        exact tX10_fact_74 hd    hf
  · have hf := pv_gn hf q27
    by_cases q28 : a1 = 28
    · have hf := pv_gp hf q28
      refine EV.tabIn (tgt := 75) dX10_fact_1 (by omega) (by omega) (by rw [q28]; rfl) (by decide) ?_
      refine EV.aload_n dX10_fact_75 rfl rfl ?_
      refine FV.getI dX10_fact_76 sm_0 fl_10_328 rfl ?_
      refine EV.if_le (tgt := 96) dX10_fact_79 (by decide) (fun q5 => ?_) (fun q5 => ?_)
      · have hf := pv_gp hf q5
        refine EV.weak (L2 := [none, none, none]) trivial ?_
        exact tX10_fact_96 hd    hf
      · have hf := pv_gn hf q5
        refine EV.aload_n dX10_fact_82 rfl rfl ?_
        refine FV.getF (v := 22) dX10_fact_83 sm_0 fl_10_81 rfl rfl hvm_0_49 ?_
        refine EV.iconst dX10_fact_86 (by decide) (by decide) ?_
        refine FV.iald dX10_fact_87 sm_22 (by decide) (by decide) (j := 0) rfl ?_
        refine EV.iconst dX10_fact_88 (by decide) (by decide) ?_
        refine EV.icmp_ne (tgt := 96) dX10_fact_89 (by decide) (fun q6 => ?_) (fun q6 => ?_)
        · have hf := pv_gn hf q6
          refine EV.weak (L2 := [none, none, none]) trivial ?_
          exact tX10_fact_96 hd    hf
        · have hf := pv_gp hf q6
          refine EV.iconst dX10_fact_92 (by decide) (by decide) ?_
          refine EV.goto (tgt := 97) dX10_fact_93 (by decide) ?_
          refine EV.weak (L2 := [none, none, none]) trivial ?_
          exact tX10_fact_97 hd    hf
    · have hf := pv_gn hf q28
      by_cases q29 : a1 = 29
      · have hf := pv_gp hf q29
        refine EV.tabIn (tgt := 98) dX10_fact_1 (by omega) (by omega) (by rw [q29]; rfl) (by decide) ?_
        refine EV.aload_n dX10_fact_98 rfl rfl ?_
        refine FV.getI dX10_fact_99 sm_0 fl_10_390 rfl ?_
        refine EV.iload_n dX10_fact_102 rfl rfl ?_
        refine EV.icmp_lt (tgt := 110) dX10_fact_103 (by decide) (fun q7 => ?_) (fun q7 => ?_)
        · have hf := pv_gp hf q7
          refine EV.iconst dX10_fact_110 (by decide) (by decide) ?_
          refine EV.weak (L2 := [none, none, none]) trivial ?_
          exact tX10_fact_111 hd    hf
        · have hf := pv_gn hf q7
          refine EV.iconst dX10_fact_106 (by decide) (by decide) ?_
          refine EV.goto (tgt := 111) dX10_fact_107 (by decide) ?_
          refine EV.weak (L2 := [none, none, none]) trivial ?_
          exact tX10_fact_111 hd    hf
      · have hf := pv_gn hf q29
        by_cases q30 : a1 = 30
        · have hf := pv_gp hf q30
          refine EV.tabIn (tgt := 112) dX10_fact_1 (by omega) (by omega) (by rw [q30]; rfl) (by decide) ?_
          refine EV.aload_n dX10_fact_112 rfl rfl ?_
          refine EV.iconst dX10_fact_113 (by decide) (by decide) ?_
          obtain ⟨r9, hc8, hf⟩ := pv_c1o hf
          refine EV.invV (As := [.inl (1)]) (st := []) (d1 := d - 1) (sh1 := pv_SM) (h1 := MM h) (r1 := (some (.inl r9))) dX10_fact_114 sm_0 (by decide) md_X10_kinds ml_X10_439 im_X10_kinds se_X10_kinds (tX10_kinds (by omega)  hc8) (by omega) rfl rfl (Nat.le_of_ble_eq_true rfl) ⟨[], (List.append_nil _).symm⟩ ?_
          refine EV.eqS (st2 := [.inl (r9)]) rfl ?_
          refine EV.iload_n dX10_fact_117 rfl rfl ?_
          refine EV.icmp_lt (tgt := 125) dX10_fact_118 (by decide) (fun q10 => ?_) (fun q10 => ?_)
          · have hf := pv_gp hf q10
            refine EV.iconst dX10_fact_125 (by decide) (by decide) ?_
            refine EV.weak (L2 := [none, none, none]) trivial ?_
            exact tX10_fact_126 hd    hf
          · have hf := pv_gn hf q10
            refine EV.iconst dX10_fact_121 (by decide) (by decide) ?_
            refine EV.goto (tgt := 126) dX10_fact_122 (by decide) ?_
            refine EV.weak (L2 := [none, none, none]) trivial ?_
            exact tX10_fact_126 hd    hf
        · have hf := pv_gn hf q30
          by_cases q31 : a1 = 31
          · have hf := pv_gp hf q31
            refine EV.tabIn (tgt := 127) dX10_fact_1 (by omega) (by omega) (by rw [q31]; rfl) (by decide) ?_
            refine EV.aload_n dX10_fact_127 rfl rfl ?_
            refine EV.iconst dX10_fact_128 (by decide) (by decide) ?_
            obtain ⟨r12, hc11, hf⟩ := pv_c1o hf
            refine EV.invV (As := [.inl (2)]) (st := []) (d1 := d - 1) (sh1 := pv_SM) (h1 := MM h) (r1 := (some (.inl r12))) dX10_fact_129 sm_0 (by decide) md_X10_kinds ml_X10_439 im_X10_kinds se_X10_kinds (tX10_kinds (by omega)  hc11) (by omega) rfl rfl (Nat.le_of_ble_eq_true rfl) ⟨[], (List.append_nil _).symm⟩ ?_
            refine EV.eqS (st2 := [.inl (r12)]) rfl ?_
            refine EV.iload_n dX10_fact_132 rfl rfl ?_
            refine EV.icmp_lt (tgt := 140) dX10_fact_133 (by decide) (fun q13 => ?_) (fun q13 => ?_)
            · have hf := pv_gp hf q13
              refine EV.iconst dX10_fact_140 (by decide) (by decide) ?_
              refine EV.weak (L2 := [none, none, none]) trivial ?_
              exact tX10_fact_141 hd    hf
            · have hf := pv_gn hf q13
              refine EV.iconst dX10_fact_136 (by decide) (by decide) ?_
              refine EV.goto (tgt := 141) dX10_fact_137 (by decide) ?_
              refine EV.weak (L2 := [none, none, none]) trivial ?_
              exact tX10_fact_141 hd    hf
          · have hf := pv_gn hf q31
            by_cases q32 : a1 = 32
            · have hf := pv_gp hf q32
              refine EV.tabIn (tgt := 142) dX10_fact_1 (by omega) (by omega) (by rw [q32]; rfl) (by decide) ?_
              refine EV.aload_n dX10_fact_142 rfl rfl ?_
              refine FV.getI dX10_fact_143 sm_0 fl_10_356 rfl ?_
              refine EV.iload_n dX10_fact_146 rfl rfl ?_
              refine EV.icmp_lt (tgt := 154) dX10_fact_147 (by decide) (fun q14 => ?_) (fun q14 => ?_)
              · have hf := pv_gp hf q14
                refine EV.iconst dX10_fact_154 (by decide) (by decide) ?_
                refine EV.weak (L2 := [none, none, none]) trivial ?_
                exact tX10_fact_155 hd    hf
              · have hf := pv_gn hf q14
                refine EV.iconst dX10_fact_150 (by decide) (by decide) ?_
                refine EV.goto (tgt := 155) dX10_fact_151 (by decide) ?_
                refine EV.weak (L2 := [none, none, none]) trivial ?_
                exact tX10_fact_155 hd    hf
            · have hf := pv_gn hf q32
              by_cases q33 : a1 = 33
              · have hf := pv_gp hf q33
                refine EV.tabIn (tgt := 156) dX10_fact_1 (by omega) (by omega) (by rw [q33]; rfl) (by decide) ?_
                refine EV.aload_n dX10_fact_156 rfl rfl ?_
                refine FV.getI dX10_fact_157 sm_0 fl_10_328 rfl ?_
                refine EV.if_le (tgt := 177) dX10_fact_160 (by decide) (fun q15 => ?_) (fun q15 => ?_)
                · have hf := pv_gp hf q15
                  refine EV.weak (L2 := [none, none, none]) trivial ?_
                  exact tX10_fact_177 hd    hf
                · have hf := pv_gn hf q15
                  refine EV.aload_n dX10_fact_163 rfl rfl ?_
                  refine FV.getF (v := 20) dX10_fact_164 sm_0 fl_10_75 rfl rfl hvm_0_47 ?_
                  refine EV.iconst dX10_fact_167 (by decide) (by decide) ?_
                  refine FV.iald dX10_fact_168 sm_20 (by decide) (by decide) (j := 0) rfl ?_
                  refine EV.iload_n dX10_fact_169 rfl rfl ?_
                  refine EV.icmp_ne (tgt := 177) dX10_fact_170 (by decide) (fun q16 => ?_) (fun q16 => ?_)
                  · have hf := pv_gn hf q16
                    refine EV.weak (L2 := [none, none, none]) trivial ?_
                    exact tX10_fact_177 hd    hf
                  · have hf := pv_gp hf q16
                    refine EV.iconst dX10_fact_173 (by decide) (by decide) ?_
                    refine EV.goto (tgt := 178) dX10_fact_174 (by decide) ?_
                    refine EV.weak (L2 := [none, none, none]) trivial ?_
                    exact tX10_fact_178 hd    hf
              · have hf := pv_gn hf q33
                by_cases q34 : a1 = 34
                · have hf := pv_gp hf q34
                  refine EV.tabIn (tgt := 179) dX10_fact_1 (by omega) (by omega) (by rw [q34]; rfl) (by decide) ?_
                  refine EV.aload_n dX10_fact_179 rfl rfl ?_
                  refine EV.iconst dX10_fact_180 (by decide) (by decide) ?_
                  obtain ⟨r18, hc17, hf⟩ := pv_c1o hf
                  refine EV.invV (As := [.inl (1)]) (st := []) (d1 := d - 1) (sh1 := pv_SM) (h1 := MM h) (r1 := (some (.inl r18))) dX10_fact_181 sm_0 (by decide) md_X10_longest ml_X10_442 im_X10_longest se_X10_longest (tX10_longest (by omega)  hc17) (by omega) rfl rfl (Nat.le_of_ble_eq_true rfl) ⟨[], (List.append_nil _).symm⟩ ?_
                  refine EV.eqS (st2 := [.inl (r18)]) rfl ?_
                  refine EV.iload_n dX10_fact_184 rfl rfl ?_
                  refine EV.icmp_lt (tgt := 192) dX10_fact_185 (by decide) (fun q19 => ?_) (fun q19 => ?_)
                  · have hf := pv_gp hf q19
                    refine EV.iconst dX10_fact_192 (by decide) (by decide) ?_
                    refine EV.weak (L2 := [none, none, none]) trivial ?_
                    exact tX10_fact_193 hd    hf
                  · have hf := pv_gn hf q19
                    refine EV.iconst dX10_fact_188 (by decide) (by decide) ?_
                    refine EV.goto (tgt := 193) dX10_fact_189 (by decide) ?_
                    refine EV.weak (L2 := [none, none, none]) trivial ?_
                    exact tX10_fact_193 hd    hf
                · have hf := pv_gn hf q34
                  by_cases q35 : a1 = 35
                  · have hf := pv_gp hf q35
                    refine EV.tabIn (tgt := 194) dX10_fact_1 (by omega) (by omega) (by rw [q35]; rfl) (by decide) ?_
                    refine EV.aload_n dX10_fact_194 rfl rfl ?_
                    refine EV.iconst dX10_fact_195 (by decide) (by decide) ?_
                    obtain ⟨r21, hc20, hf⟩ := pv_c1o hf
                    refine EV.invV (As := [.inl (0)]) (st := []) (d1 := d - 1) (sh1 := pv_SM) (h1 := MM h) (r1 := (some (.inl r21))) dX10_fact_196 sm_0 (by decide) md_X10_longest ml_X10_442 im_X10_longest se_X10_longest (tX10_longest (by omega)  hc20) (by omega) rfl rfl (Nat.le_of_ble_eq_true rfl) ⟨[], (List.append_nil _).symm⟩ ?_
                    refine EV.eqS (st2 := [.inl (r21)]) rfl ?_
                    refine EV.iload_n dX10_fact_199 rfl rfl ?_
                    refine EV.icmp_gt (tgt := 207) dX10_fact_200 (by decide) (fun q22 => ?_) (fun q22 => ?_)
                    · have hf := pv_gp hf q22
                      refine EV.iconst dX10_fact_207 (by decide) (by decide) ?_
                      refine EV.weak (L2 := [none, none, none]) trivial ?_
                      exact tX10_fact_208 hd    hf
                    · have hf := pv_gn hf q22
                      refine EV.iconst dX10_fact_203 (by decide) (by decide) ?_
                      refine EV.goto (tgt := 208) dX10_fact_204 (by decide) ?_
                      refine EV.weak (L2 := [none, none, none]) trivial ?_
                      exact tX10_fact_208 hd    hf
                  · have hf := pv_gn hf q35
                    refine EV.tabOut (tgt := 209) dX10_fact_1 (by omega) (by decide) ?_
                    refine EV.aload_n dX10_fact_209 rfl rfl ?_
                    refine FV.getI dX10_fact_210 sm_0 fl_10_328 rfl ?_
                    refine EV.if_le (tgt := 230) dX10_fact_213 (by decide) (fun q1 => ?_) (fun q1 => ?_)
                    · have hf := pv_gp hf q1
                      refine EV.weak (L2 := [none, none, none]) trivial ?_
                      exact tX10_fact_230 hd    hf
                    · have hf := pv_gn hf q1
                      refine EV.aload_n dX10_fact_216 rfl rfl ?_
                      refine FV.getF (v := 21) dX10_fact_217 sm_0 fl_10_78 rfl rfl hvm_0_48 ?_
                      refine EV.iconst dX10_fact_220 (by decide) (by decide) ?_
                      refine FV.iald dX10_fact_221 sm_21 (by decide) (by decide) (j := 0) rfl ?_
                      refine EV.iload_n dX10_fact_222 rfl rfl ?_
                      refine EV.icmp_lt (tgt := 230) dX10_fact_223 (by decide) (fun q2 => ?_) (fun q2 => ?_)
                      · have hf := pv_gp hf q2
                        refine EV.weak (L2 := [none, none, none]) trivial ?_
                        exact tX10_fact_230 hd    hf
                      · have hf := pv_gn hf q2
                        refine EV.iconst dX10_fact_226 (by decide) (by decide) ?_
                        refine EV.goto (tgt := 231) dX10_fact_227 (by decide) ?_
                        refine EV.weak (L2 := [none, none, none]) trivial ?_
                        exact tX10_fact_231 hd    hf

noncomputable def fX10_isSo_192 (N : Nat) (k13 : Int → Int → pv_H → Option (pv_H × Int)) (a1 : Int) (v2 : Int) (v3 : Int) (h : pv_H) : Option (pv_H × Int) :=
  pv_b (pv_w (v3 + 1)) fun x30 => k13 (v2) (x30) h

noncomputable def fX10_isSo_159 (N : Nat) (k13 : Int → Int → pv_H → Option (pv_H × Int)) (a1 : Int) (v2 : Int) (v3 : Int) (s0 : Int) (s1 : Int) (h : pv_H) : Option (pv_H × Int) :=
  if 0 ≤ s1 ∧ s1 < 220 then (if s0 = 0 ∨ s0 = 1 then (pv_b (pv_up h 32 (Int.toNat (s1)) s0) fun h36 => fX10_isSo_192 N (k13) a1 (v2) (v3) h36) else none) else none

noncomputable def fX10_isSo_154 (N : Nat) (k13 : Int → Int → pv_H → Option (pv_H × Int)) (a1 : Int) (v2 : Int) (v3 : Int) (s0 : Int) (h : pv_H) : Option (pv_H × Int) :=
  fX10_isSo_159 N (k13) a1 (v2) (v3) (1) (s0) h

noncomputable def fX10_isSo_130 (N : Nat) (k13 : Int → Int → pv_H → Option (pv_H × Int)) (a1 : Int) (v2 : Int) (v3 : Int) (s0 : Int) (h : pv_H) : Option (pv_H × Int) :=
  fX10_isSo_159 N (k13) a1 (v2) (v3) (0) (s0) h

noncomputable def fX10_isSo_89 (N : Nat) (k13 : Int → Int → pv_H → Option (pv_H × Int)) (a1 : Int) (v2 : Int) (v3 : Int) (v4 : Int) (h : pv_H) : Option (pv_H × Int) :=
  pv_b (pv_w (v2 + (-1))) fun x20 => if v4 = 25 then (if 0 ≤ pv_w (x20 - 1) ∧ pv_w (x20 - 1) < 220 then (if (h 32 (Int.toNat (pv_w (x20 - 1)))) = 0 then (fX10_isSo_130 N (k13) a1 (x20) (v3) (pv_w (x20 - 1)) h) else (if 0 ≤ x20 ∧ x20 < 220 then (if (h 32 (Int.toNat (x20))) = 0 then (fX10_isSo_130 N (k13) a1 (x20) (v3) (pv_w (x20 - 1)) h) else (fX10_isSo_159 N (k13) a1 (x20) (v3) (1) (pv_w (x20 - 1)) h)) else none)) else none) else (if 0 ≤ pv_w (x20 - 1) ∧ pv_w (x20 - 1) < 220 then (if (h 32 (Int.toNat (pv_w (x20 - 1)))) = 0 then (if 0 ≤ x20 ∧ x20 < 220 then (if (h 32 (Int.toNat (x20))) = 0 then (fX10_isSo_159 N (k13) a1 (x20) (v3) (0) (pv_w (x20 - 1)) h) else (fX10_isSo_154 N (k13) a1 (x20) (v3) (pv_w (x20 - 1)) h)) else none) else (fX10_isSo_154 N (k13) a1 (x20) (v3) (pv_w (x20 - 1)) h)) else none)

noncomputable def fX10_isSo_71 (N : Nat) (k13 : Int → Int → pv_H → Option (pv_H × Int)) (a1 : Int) (v2 : Int) (v3 : Int) (s0 : Int) (s1 : Int) (h : pv_H) : Option (pv_H × Int) :=
  if 0 ≤ s1 ∧ s1 < 220 then (if s0 = 0 ∨ s0 = 1 then (pv_b (pv_up h 32 (Int.toNat (s1)) s0) fun h33 => fX10_isSo_192 N (k13) a1 (v2) (v3) h33) else none) else none

noncomputable def fX10_isSo_13 (N : Nat)  (a1 : Int) : Nat → Int → Int → pv_H → Option (pv_H × Int)
  | 0, _, _, _ => none
  | n + 1, v2, v3, h => if 0 ≤ pv_w (2645 + a1) ∧ pv_w (2645 + a1) < 9159 then (if (h 2 (Int.toNat (pv_w (2645 + a1)))) ≤ v3 then (if (h 32 0) = 0 ∨ (h 32 0) = 1 then (some (h, h 32 0)) else none) else (if 0 ≤ pv_w (2653 + (pv_w (2 * v3))) ∧ pv_w (2653 + (pv_w (2 * v3))) < 9159 then (pv_b (h 2 (Int.toNat (pv_w (2653 + (pv_w (2 * v3)))))) fun x7 => if x7 = 26 then (if 0 ≤ pv_w (v2 - 1) ∧ pv_w (v2 - 1) < 220 then (if (h 32 (Int.toNat (pv_w (v2 - 1)))) = 0 then (fX10_isSo_71 N (fun v2_ v3_ hh => fX10_isSo_13 N  a1 n v2_ v3_ hh) a1 (v2) (v3) (1) (pv_w (v2 - 1)) h) else (fX10_isSo_71 N (fun v2_ v3_ hh => fX10_isSo_13 N  a1 n v2_ v3_ hh) a1 (v2) (v3) (0) (pv_w (v2 - 1)) h)) else none) else (if x7 = 25 then (fX10_isSo_89 N (fun v2_ v3_ hh => fX10_isSo_13 N  a1 n v2_ v3_ hh) a1 (v2) (v3) (x7) h) else (if x7 = 24 then (fX10_isSo_89 N (fun v2_ v3_ hh => fX10_isSo_13 N  a1 n v2_ v3_ hh) a1 (v2) (v3) (x7) h) else (if 0 ≤ pv_w ((pv_w (2653 + (pv_w (2 * v3)))) + 1) ∧ pv_w ((pv_w (2653 + (pv_w (2 * v3)))) + 1) < 9159 then (pv_c1 (fX10_fact N x7 (h 2 (Int.toNat (pv_w ((pv_w (2653 + (pv_w (2 * v3)))) + 1)))) h) fun r13 => if 0 ≤ v2 ∧ v2 < 220 then (if r13 = 0 ∨ r13 = 1 then (pv_b (pv_up h 32 (Int.toNat (v2)) r13) fun h16 => pv_b (pv_w (v2 + 1)) fun x17 => fX10_isSo_192 N (fun v2_ v3_ hh => fX10_isSo_13 N  a1 n v2_ v3_ hh) a1 (x17) (v3) h16) else none) else none) else none)))) else none)) else none

noncomputable def fX10_isSo (N : Nat) (a1 : Int) (h : pv_H) : Option (pv_H × Int) :=
  if 0 ≤ pv_w (2637 + a1) ∧ pv_w (2637 + a1) < 9159 then (pv_b (h 2 (Int.toNat (pv_w (2637 + a1)))) fun x2 => fX10_isSo_13 N  a1 N (0) (x2) h) else none

set_option maxHeartbeats 4000000 in
set_option maxRecDepth 20000 in
theorem tX10_isSo_192 {d N : Nat} {k13 : Int → Int → pv_H → Option (pv_H × Int)} {a1 : Int} {v2 : Int} {v3 : Int} {h h' : pv_H} {r : Int} (hd : 3 ≤ d) (hk13 : ∀ (v2 : Int) (v3 : Int)  (hh : pv_H), k13 v2 v3 hh = some (h', r) → EV RX10 cX10_isSo 5 (some .boolean) false d pv_SM (MM h') (some (.inl r)) 13 [some (.inr (.inr (0))), some (.inl (a1)), some (.inl (v2)), some (.inl (v3)), none] [] pv_SM (MM hh))   (hf : fX10_isSo_192 N k13 a1 v2 v3 h = some (h', r)) : EV RX10 cX10_isSo 5 (some .boolean) false d pv_SM (MM h') (some (.inl r)) 192 [some (.inr (.inr (0))), some (.inl (a1)), some (.inl (v2)), some (.inl (v3)), none] [] pv_SM (MM h) := by
  unfold fX10_isSo_192 at hf
  obtain ⟨x30, ex30, hf⟩ := pv_bo hf
  refine FV.inc (L2 := [some (.inr (.inr (0))), some (.inl (a1)), some (.inl (v2)), some (.inl (x30)), none]) dX10_isSo_192 rfl (Nat.le_of_ble_eq_true rfl) ex30 rfl ?_
  refine EV.goto (tgt := 13) dX10_isSo_195 (by decide) ?_
  refine EV.weak (L2 := [some (.inr (.inr (0))), some (.inl (a1)), some (.inl (v2)), some (.inl (x30)), none]) (And.intro rfl (And.intro rfl (And.intro rfl (And.intro rfl trivial)))) ?_
  exact hk13 _ _  _ hf

set_option maxHeartbeats 4000000 in
set_option maxRecDepth 20000 in
theorem tX10_isSo_159 {d N : Nat} {k13 : Int → Int → pv_H → Option (pv_H × Int)} {a1 : Int} {v2 : Int} {v3 : Int} {s0 : Int} {s1 : Int} {h h' : pv_H} {r : Int} (hd : 3 ≤ d) (hk13 : ∀ (v2 : Int) (v3 : Int)  (hh : pv_H), k13 v2 v3 hh = some (h', r) → EV RX10 cX10_isSo 5 (some .boolean) false d pv_SM (MM h') (some (.inl r)) 13 [some (.inr (.inr (0))), some (.inl (a1)), some (.inl (v2)), some (.inl (v3)), none] [] pv_SM (MM hh))   (hf : fX10_isSo_159 N k13 a1 v2 v3 s0 s1 h = some (h', r)) : EV RX10 cX10_isSo 5 (some .boolean) false d pv_SM (MM h') (some (.inl r)) 159 [some (.inr (.inr (0))), some (.inl (a1)), some (.inl (v2)), some (.inl (v3)), none] [.inl (s0), .inl (s1), .inr (.inr (32))] pv_SM (MM h) := by
  unfold fX10_isSo_159 at hf
  obtain ⟨g34, hf⟩ := pv_gd hf
  obtain ⟨g35, hf⟩ := pv_gd hf
  obtain ⟨h36, eh36, hf⟩ := pv_bo hf
  refine FV.zast dX10_isSo_159 sm_32 g34.1 g34.2 g35 (j := (Int.toNat (s1))) rfl eh36 ?_
  refine EV.goto (tgt := 192) dX10_isSo_160 (by decide) ?_
  refine EV.weak (L2 := [some (.inr (.inr (0))), some (.inl (a1)), some (.inl (v2)), some (.inl (v3)), none]) (And.intro rfl (And.intro rfl (And.intro rfl (And.intro rfl trivial)))) ?_
  exact tX10_isSo_192 hd (hk13)   hf

set_option maxHeartbeats 4000000 in
set_option maxRecDepth 20000 in
theorem tX10_isSo_154 {d N : Nat} {k13 : Int → Int → pv_H → Option (pv_H × Int)} {a1 : Int} {v2 : Int} {v3 : Int} {s0 : Int} {h h' : pv_H} {r : Int} (hd : 3 ≤ d) (hk13 : ∀ (v2 : Int) (v3 : Int)  (hh : pv_H), k13 v2 v3 hh = some (h', r) → EV RX10 cX10_isSo 5 (some .boolean) false d pv_SM (MM h') (some (.inl r)) 13 [some (.inr (.inr (0))), some (.inl (a1)), some (.inl (v2)), some (.inl (v3)), none] [] pv_SM (MM hh))   (hf : fX10_isSo_154 N k13 a1 v2 v3 s0 h = some (h', r)) : EV RX10 cX10_isSo 5 (some .boolean) false d pv_SM (MM h') (some (.inl r)) 154 [some (.inr (.inr (0))), some (.inl (a1)), some (.inl (v2)), some (.inl (v3)), none] [.inl (s0), .inr (.inr (32))] pv_SM (MM h) := by
  unfold fX10_isSo_154 at hf
  refine EV.iconst dX10_isSo_154 (by decide) (by decide) ?_
  refine EV.goto (tgt := 159) dX10_isSo_155 (by decide) ?_
  refine EV.weak (L2 := [some (.inr (.inr (0))), some (.inl (a1)), some (.inl (v2)), some (.inl (v3)), none]) (And.intro rfl (And.intro rfl (And.intro rfl (And.intro rfl trivial)))) ?_
  exact tX10_isSo_159 hd (hk13)   hf

set_option maxHeartbeats 4000000 in
set_option maxRecDepth 20000 in
theorem tX10_isSo_130 {d N : Nat} {k13 : Int → Int → pv_H → Option (pv_H × Int)} {a1 : Int} {v2 : Int} {v3 : Int} {s0 : Int} {h h' : pv_H} {r : Int} (hd : 3 ≤ d) (hk13 : ∀ (v2 : Int) (v3 : Int)  (hh : pv_H), k13 v2 v3 hh = some (h', r) → EV RX10 cX10_isSo 5 (some .boolean) false d pv_SM (MM h') (some (.inl r)) 13 [some (.inr (.inr (0))), some (.inl (a1)), some (.inl (v2)), some (.inl (v3)), none] [] pv_SM (MM hh))   (hf : fX10_isSo_130 N k13 a1 v2 v3 s0 h = some (h', r)) : EV RX10 cX10_isSo 5 (some .boolean) false d pv_SM (MM h') (some (.inl r)) 130 [some (.inr (.inr (0))), some (.inl (a1)), some (.inl (v2)), some (.inl (v3)), none] [.inl (s0), .inr (.inr (32))] pv_SM (MM h) := by
  unfold fX10_isSo_130 at hf
  refine EV.iconst dX10_isSo_130 (by decide) (by decide) ?_
  refine EV.goto (tgt := 159) dX10_isSo_131 (by decide) ?_
  refine EV.weak (L2 := [some (.inr (.inr (0))), some (.inl (a1)), some (.inl (v2)), some (.inl (v3)), none]) (And.intro rfl (And.intro rfl (And.intro rfl (And.intro rfl trivial)))) ?_
  exact tX10_isSo_159 hd (hk13)   hf

set_option maxHeartbeats 4000000 in
set_option maxRecDepth 20000 in
theorem tX10_isSo_89 {d N : Nat} {k13 : Int → Int → pv_H → Option (pv_H × Int)} {a1 : Int} {v2 : Int} {v3 : Int} {v4 : Int} {h h' : pv_H} {r : Int} (hd : 3 ≤ d) (hk13 : ∀ (v2 : Int) (v3 : Int)  (hh : pv_H), k13 v2 v3 hh = some (h', r) → EV RX10 cX10_isSo 5 (some .boolean) false d pv_SM (MM h') (some (.inl r)) 13 [some (.inr (.inr (0))), some (.inl (a1)), some (.inl (v2)), some (.inl (v3)), none] [] pv_SM (MM hh))   (hf : fX10_isSo_89 N k13 a1 v2 v3 v4 h = some (h', r)) : EV RX10 cX10_isSo 5 (some .boolean) false d pv_SM (MM h') (some (.inl r)) 89 [some (.inr (.inr (0))), some (.inl (a1)), some (.inl (v2)), some (.inl (v3)), some (.inl (v4))] [] pv_SM (MM h) := by
  unfold fX10_isSo_89 at hf
  obtain ⟨x20, ex20, hf⟩ := pv_bo hf
  refine FV.inc (L2 := [some (.inr (.inr (0))), some (.inl (a1)), some (.inl (x20)), some (.inl (v3)), some (.inl (v4))]) dX10_isSo_89 rfl (Nat.le_of_ble_eq_true rfl) ex20 rfl ?_
  refine EV.aload_n dX10_isSo_92 rfl rfl ?_
  refine FV.getF (v := 32) dX10_isSo_93 sm_0 fl_10_111 rfl rfl hvm_0_62 ?_
  refine EV.iload_n dX10_isSo_96 rfl rfl ?_
  refine EV.iconst dX10_isSo_97 (by decide) (by decide) ?_
  refine EV.isub dX10_isSo_98 ?_
  refine EV.iload dX10_isSo_99 rfl ?_
  refine EV.bipush dX10_isSo_101 (by decide) (by decide) ?_
  refine EV.icmp_ne (tgt := 134) dX10_isSo_103 (by decide) (fun q21 => ?_) (fun q21 => ?_)
  · have hf := pv_gn hf q21
    refine EV.aload_n dX10_isSo_134 rfl rfl ?_
    refine FV.getF (v := 32) dX10_isSo_135 sm_0 fl_10_111 rfl rfl hvm_0_62 ?_
    refine EV.iload_n dX10_isSo_138 rfl rfl ?_
    refine EV.iconst dX10_isSo_139 (by decide) (by decide) ?_
    refine EV.isub dX10_isSo_140 ?_
    obtain ⟨g22, hf⟩ := pv_gd hf
    refine FV.zald dX10_isSo_141 sm_32 g22.1 g22.2 (j := (Int.toNat (pv_w (x20 - 1)))) rfl ?_
    refine EV.if_ne (tgt := 154) dX10_isSo_142 (by decide) (fun q23 => ?_) (fun q23 => ?_)
    · have hf := pv_gn hf q23
      refine EV.weak (L2 := [some (.inr (.inr (0))), some (.inl (a1)), some (.inl (x20)), some (.inl (v3)), none]) (And.intro rfl (And.intro rfl (And.intro rfl (And.intro rfl trivial)))) ?_
      exact tX10_isSo_154 hd (hk13)   hf
    · have hf := pv_gp hf q23
      refine EV.aload_n dX10_isSo_145 rfl rfl ?_
      refine FV.getF (v := 32) dX10_isSo_146 sm_0 fl_10_111 rfl rfl hvm_0_62 ?_
      refine EV.iload_n dX10_isSo_149 rfl rfl ?_
      obtain ⟨g24, hf⟩ := pv_gd hf
      refine FV.zald dX10_isSo_150 sm_32 g24.1 g24.2 (j := (Int.toNat (x20))) rfl ?_
      refine EV.if_eq (tgt := 158) dX10_isSo_151 (by decide) (fun q25 => ?_) (fun q25 => ?_)
      · have hf := pv_gp hf q25
        refine EV.iconst dX10_isSo_158 (by decide) (by decide) ?_
        refine EV.weak (L2 := [some (.inr (.inr (0))), some (.inl (a1)), some (.inl (x20)), some (.inl (v3)), none]) (And.intro rfl (And.intro rfl (And.intro rfl (And.intro rfl trivial)))) ?_
        exact tX10_isSo_159 hd (hk13)   hf
      · have hf := pv_gn hf q25
        refine EV.weak (L2 := [some (.inr (.inr (0))), some (.inl (a1)), some (.inl (x20)), some (.inl (v3)), none]) (And.intro rfl (And.intro rfl (And.intro rfl (And.intro rfl trivial)))) ?_
        exact tX10_isSo_154 hd (hk13)   hf
  · have hf := pv_gp hf q21
    refine EV.aload_n dX10_isSo_106 rfl rfl ?_
    refine FV.getF (v := 32) dX10_isSo_107 sm_0 fl_10_111 rfl rfl hvm_0_62 ?_
    refine EV.iload_n dX10_isSo_110 rfl rfl ?_
    refine EV.iconst dX10_isSo_111 (by decide) (by decide) ?_
    refine EV.isub dX10_isSo_112 ?_
    obtain ⟨g26, hf⟩ := pv_gd hf
    refine FV.zald dX10_isSo_113 sm_32 g26.1 g26.2 (j := (Int.toNat (pv_w (x20 - 1)))) rfl ?_
    refine EV.if_eq (tgt := 130) dX10_isSo_114 (by decide) (fun q27 => ?_) (fun q27 => ?_)
    · have hf := pv_gp hf q27
      refine EV.weak (L2 := [some (.inr (.inr (0))), some (.inl (a1)), some (.inl (x20)), some (.inl (v3)), none]) (And.intro rfl (And.intro rfl (And.intro rfl (And.intro rfl trivial)))) ?_
      exact tX10_isSo_130 hd (hk13)   hf
    · have hf := pv_gn hf q27
      refine EV.aload_n dX10_isSo_117 rfl rfl ?_
      refine FV.getF (v := 32) dX10_isSo_118 sm_0 fl_10_111 rfl rfl hvm_0_62 ?_
      refine EV.iload_n dX10_isSo_121 rfl rfl ?_
      obtain ⟨g28, hf⟩ := pv_gd hf
      refine FV.zald dX10_isSo_122 sm_32 g28.1 g28.2 (j := (Int.toNat (x20))) rfl ?_
      refine EV.if_eq (tgt := 130) dX10_isSo_123 (by decide) (fun q29 => ?_) (fun q29 => ?_)
      · have hf := pv_gp hf q29
        refine EV.weak (L2 := [some (.inr (.inr (0))), some (.inl (a1)), some (.inl (x20)), some (.inl (v3)), none]) (And.intro rfl (And.intro rfl (And.intro rfl (And.intro rfl trivial)))) ?_
        exact tX10_isSo_130 hd (hk13)   hf
      · have hf := pv_gn hf q29
        refine EV.iconst dX10_isSo_126 (by decide) (by decide) ?_
        refine EV.goto (tgt := 159) dX10_isSo_127 (by decide) ?_
        refine EV.weak (L2 := [some (.inr (.inr (0))), some (.inl (a1)), some (.inl (x20)), some (.inl (v3)), none]) (And.intro rfl (And.intro rfl (And.intro rfl (And.intro rfl trivial)))) ?_
        exact tX10_isSo_159 hd (hk13)   hf

set_option maxHeartbeats 4000000 in
set_option maxRecDepth 20000 in
theorem tX10_isSo_71 {d N : Nat} {k13 : Int → Int → pv_H → Option (pv_H × Int)} {a1 : Int} {v2 : Int} {v3 : Int} {s0 : Int} {s1 : Int} {h h' : pv_H} {r : Int} (hd : 3 ≤ d) (hk13 : ∀ (v2 : Int) (v3 : Int)  (hh : pv_H), k13 v2 v3 hh = some (h', r) → EV RX10 cX10_isSo 5 (some .boolean) false d pv_SM (MM h') (some (.inl r)) 13 [some (.inr (.inr (0))), some (.inl (a1)), some (.inl (v2)), some (.inl (v3)), none] [] pv_SM (MM hh))   (hf : fX10_isSo_71 N k13 a1 v2 v3 s0 s1 h = some (h', r)) : EV RX10 cX10_isSo 5 (some .boolean) false d pv_SM (MM h') (some (.inl r)) 71 [some (.inr (.inr (0))), some (.inl (a1)), some (.inl (v2)), some (.inl (v3)), none] [.inl (s0), .inl (s1), .inr (.inr (32))] pv_SM (MM h) := by
  unfold fX10_isSo_71 at hf
  obtain ⟨g31, hf⟩ := pv_gd hf
  obtain ⟨g32, hf⟩ := pv_gd hf
  obtain ⟨h33, eh33, hf⟩ := pv_bo hf
  refine FV.zast dX10_isSo_71 sm_32 g31.1 g31.2 g32 (j := (Int.toNat (s1))) rfl eh33 ?_
  refine EV.goto (tgt := 192) dX10_isSo_72 (by decide) ?_
  refine EV.weak (L2 := [some (.inr (.inr (0))), some (.inl (a1)), some (.inl (v2)), some (.inl (v3)), none]) (And.intro rfl (And.intro rfl (And.intro rfl (And.intro rfl trivial)))) ?_
  exact tX10_isSo_192 hd (hk13)   hf

set_option maxHeartbeats 4000000 in
set_option maxRecDepth 20000 in
theorem tX10_isSo_13 {d N : Nat}  {a1 : Int} {h' : pv_H} {r : Int} (hd : 3 ≤ d)   : ∀ (n : Nat) (v2 : Int) (v3 : Int)  (h : pv_H), fX10_isSo_13 N  a1 n v2 v3 h = some (h', r) → EV RX10 cX10_isSo 5 (some .boolean) false d pv_SM (MM h') (some (.inl r)) 13 [some (.inr (.inr (0))), some (.inl (a1)), some (.inl (v2)), some (.inl (v3)), none] [] pv_SM (MM h) := by
  intro n
  induction n with
  | zero =>
    intro v2 v3  h hf
    cases hf
  | succ n ih =>
    intro v2 v3  h hf
    rw [fX10_isSo_13] at hf
    refine EV.iload_n dX10_isSo_13 rfl rfl ?_
    refine EV.aload_n dX10_isSo_14 rfl rfl ?_
    refine FV.getF (v := 2) dX10_isSo_15 sm_0 fl_10_17 rfl rfl hvm_0_2 ?_
    refine EV.sipush dX10_isSo_18 (by decide) (by decide) ?_
    refine EV.iload_n dX10_isSo_21 rfl rfl ?_
    refine EV.iadd dX10_isSo_22 ?_
    obtain ⟨g3, hf⟩ := pv_gd hf
    refine FV.iald dX10_isSo_23 sm_2 g3.1 g3.2 (j := (Int.toNat (pv_w (2645 + a1)))) rfl ?_
    refine EV.icmp_ge (tgt := 198) dX10_isSo_24 (by decide) (fun q4 => ?_) (fun q4 => ?_)
    · have hf := pv_gp hf q4
      refine EV.aload_n dX10_isSo_198 rfl rfl ?_
      refine FV.getF (v := 32) dX10_isSo_199 sm_0 fl_10_111 rfl rfl hvm_0_62 ?_
      refine EV.iconst dX10_isSo_202 (by decide) (by decide) ?_
      refine FV.zald dX10_isSo_203 sm_32 (by decide) (by decide) (j := 0) rfl ?_
      obtain ⟨g5, hf⟩ := pv_gd hf
      exact FV.zret dX10_isSo_204 g5 hf
    · have hf := pv_gn hf q4
      refine EV.aload_n dX10_isSo_27 rfl rfl ?_
      refine FV.getF (v := 2) dX10_isSo_28 sm_0 fl_10_17 rfl rfl hvm_0_2 ?_
      refine EV.sipush dX10_isSo_31 (by decide) (by decide) ?_
      refine EV.iconst dX10_isSo_34 (by decide) (by decide) ?_
      refine EV.iload_n dX10_isSo_35 rfl rfl ?_
      refine EV.imul dX10_isSo_36 ?_
      refine EV.iadd dX10_isSo_37 ?_
      obtain ⟨g6, hf⟩ := pv_gd hf
      refine FV.iald dX10_isSo_38 sm_2 g6.1 g6.2 (j := (Int.toNat (pv_w (2653 + (pv_w (2 * v3)))))) rfl ?_
      obtain ⟨x7, ex7, hf⟩ := pv_bo hf
      refine FV.stiw (L2 := [some (.inr (.inr (0))), some (.inl (a1)), some (.inl (v2)), some (.inl (v3)), some (.inl (x7))]) dX10_isSo_39 (Nat.le_of_ble_eq_true rfl) ex7 rfl ?_
      refine EV.iload dX10_isSo_41 rfl ?_
      refine EV.bipush dX10_isSo_43 (by decide) (by decide) ?_
      refine EV.icmp_ne (tgt := 75) dX10_isSo_45 (by decide) (fun q8 => ?_) (fun q8 => ?_)
      · have hf := pv_gn hf q8
        refine EV.iload dX10_isSo_75 rfl ?_
        refine EV.bipush dX10_isSo_77 (by decide) (by decide) ?_
        refine EV.icmp_eq (tgt := 89) dX10_isSo_79 (by decide) (fun q9 => ?_) (fun q9 => ?_)
        · have hf := pv_gp hf q9
          refine EV.weak (L2 := [some (.inr (.inr (0))), some (.inl (a1)), some (.inl (v2)), some (.inl (v3)), some (.inl (x7))]) (And.intro rfl (And.intro rfl (And.intro rfl (And.intro rfl (And.intro rfl trivial))))) ?_
          exact tX10_isSo_89 hd (ih)   hf
        · have hf := pv_gn hf q9
          refine EV.iload dX10_isSo_82 rfl ?_
          refine EV.bipush dX10_isSo_84 (by decide) (by decide) ?_
          refine EV.icmp_ne (tgt := 163) dX10_isSo_86 (by decide) (fun q10 => ?_) (fun q10 => ?_)
          · have hf := pv_gn hf q10
            refine EV.aload_n dX10_isSo_163 rfl rfl ?_
            refine FV.getF (v := 32) dX10_isSo_164 sm_0 fl_10_111 rfl rfl hvm_0_62 ?_
            refine EV.iload_n dX10_isSo_167 rfl rfl ?_
            refine EV.aload_n dX10_isSo_168 rfl rfl ?_
            refine EV.iload dX10_isSo_169 rfl ?_
            refine EV.aload_n dX10_isSo_171 rfl rfl ?_
            refine FV.getF (v := 2) dX10_isSo_172 sm_0 fl_10_17 rfl rfl hvm_0_2 ?_
            refine EV.sipush dX10_isSo_175 (by decide) (by decide) ?_
            refine EV.iconst dX10_isSo_178 (by decide) (by decide) ?_
            refine EV.iload_n dX10_isSo_179 rfl rfl ?_
            refine EV.imul dX10_isSo_180 ?_
            refine EV.iadd dX10_isSo_181 ?_
            refine EV.iconst dX10_isSo_182 (by decide) (by decide) ?_
            refine EV.iadd dX10_isSo_183 ?_
            obtain ⟨g11, hf⟩ := pv_gd hf
            refine FV.iald dX10_isSo_184 sm_2 g11.1 g11.2 (j := (Int.toNat (pv_w ((pv_w (2653 + (pv_w (2 * v3)))) + 1)))) rfl ?_
            obtain ⟨r13, hc12, hf⟩ := pv_c1o hf
            refine EV.invV (As := [.inl (x7), .inl (h 2 (Int.toNat (pv_w ((pv_w (2653 + (pv_w (2 * v3)))) + 1))))]) (st := [.inl (v2), .inr (.inr (32))]) (d1 := d - 1) (sh1 := pv_SM) (h1 := MM h) (r1 := (some (.inl r13))) dX10_isSo_185 sm_0 (by decide) md_X10_fact ml_X10_446 im_X10_fact se_X10_fact (tX10_fact (by omega)  hc12) (by omega) rfl rfl (Nat.le_of_ble_eq_true rfl) ⟨[], (List.append_nil _).symm⟩ ?_
            refine EV.eqS (st2 := [.inl (r13), .inl (v2), .inr (.inr (32))]) rfl ?_
            obtain ⟨g14, hf⟩ := pv_gd hf
            obtain ⟨g15, hf⟩ := pv_gd hf
            obtain ⟨h16, eh16, hf⟩ := pv_bo hf
            refine FV.zast dX10_isSo_188 sm_32 g14.1 g14.2 g15 (j := (Int.toNat (v2))) rfl eh16 ?_
            obtain ⟨x17, ex17, hf⟩ := pv_bo hf
            refine FV.inc (L2 := [some (.inr (.inr (0))), some (.inl (a1)), some (.inl (x17)), some (.inl (v3)), some (.inl (x7))]) dX10_isSo_189 rfl (Nat.le_of_ble_eq_true rfl) ex17 rfl ?_
            refine EV.weak (L2 := [some (.inr (.inr (0))), some (.inl (a1)), some (.inl (x17)), some (.inl (v3)), none]) (And.intro rfl (And.intro rfl (And.intro rfl (And.intro rfl trivial)))) ?_
            exact tX10_isSo_192 hd (ih)   hf
          · have hf := pv_gp hf q10
            refine EV.weak (L2 := [some (.inr (.inr (0))), some (.inl (a1)), some (.inl (v2)), some (.inl (v3)), some (.inl (x7))]) (And.intro rfl (And.intro rfl (And.intro rfl (And.intro rfl (And.intro rfl trivial))))) ?_
            exact tX10_isSo_89 hd (ih)   hf
      · have hf := pv_gp hf q8
        refine EV.aload_n dX10_isSo_48 rfl rfl ?_
        refine FV.getF (v := 32) dX10_isSo_49 sm_0 fl_10_111 rfl rfl hvm_0_62 ?_
        refine EV.iload_n dX10_isSo_52 rfl rfl ?_
        refine EV.iconst dX10_isSo_53 (by decide) (by decide) ?_
        refine EV.isub dX10_isSo_54 ?_
        refine EV.aload_n dX10_isSo_55 rfl rfl ?_
        refine FV.getF (v := 32) dX10_isSo_56 sm_0 fl_10_111 rfl rfl hvm_0_62 ?_
        refine EV.iload_n dX10_isSo_59 rfl rfl ?_
        refine EV.iconst dX10_isSo_60 (by decide) (by decide) ?_
        refine EV.isub dX10_isSo_61 ?_
        obtain ⟨g18, hf⟩ := pv_gd hf
        refine FV.zald dX10_isSo_62 sm_32 g18.1 g18.2 (j := (Int.toNat (pv_w (v2 - 1)))) rfl ?_
        refine EV.if_ne (tgt := 70) dX10_isSo_63 (by decide) (fun q19 => ?_) (fun q19 => ?_)
        · have hf := pv_gn hf q19
          refine EV.iconst dX10_isSo_70 (by decide) (by decide) ?_
          refine EV.weak (L2 := [some (.inr (.inr (0))), some (.inl (a1)), some (.inl (v2)), some (.inl (v3)), none]) (And.intro rfl (And.intro rfl (And.intro rfl (And.intro rfl trivial)))) ?_
          exact tX10_isSo_71 hd (ih)   hf
        · have hf := pv_gp hf q19
          refine EV.iconst dX10_isSo_66 (by decide) (by decide) ?_
          refine EV.goto (tgt := 71) dX10_isSo_67 (by decide) ?_
          refine EV.weak (L2 := [some (.inr (.inr (0))), some (.inl (a1)), some (.inl (v2)), some (.inl (v3)), none]) (And.intro rfl (And.intro rfl (And.intro rfl (And.intro rfl trivial)))) ?_
          exact tX10_isSo_71 hd (ih)   hf

set_option maxHeartbeats 4000000 in
set_option maxRecDepth 20000 in
theorem tX10_isSo {d N : Nat} {a1 : Int} {h h' : pv_H} {r : Int} (hd : 3 ≤ d)  (hf : fX10_isSo N a1 h = some (h', r)) : CALL yX10_isSo cX10_isSo 5 (some .boolean) d pv_SM (MM h) [.inr (.inr (0)), .inl (a1)] pv_SM (MM h') (some (.inl r)) := by
  unfold fX10_isSo at hf
  refine EV.call (own := RX10) (ini := false) rfl rfl (fun q => by cases q) ⟨[], (List.append_nil _).symm⟩ (Nat.le_of_ble_eq_true rfl) ?_
  refine EV.eqL (L2 := [some (.inr (.inr (0))), some (.inl (a1)), none, none, none]) rfl ?_
  refine EV.iconst dX10_isSo_0 (by decide) (by decide) ?_
  refine FV.sti (L2 := [some (.inr (.inr (0))), some (.inl (a1)), some (.inl (0)), none, none]) dX10_isSo_1 rfl (Nat.le_of_ble_eq_true rfl) rfl rfl ?_
  refine EV.aload_n dX10_isSo_2 rfl rfl ?_
  refine FV.getF (v := 2) dX10_isSo_3 sm_0 fl_10_17 rfl rfl hvm_0_2 ?_
  refine EV.sipush dX10_isSo_6 (by decide) (by decide) ?_
  refine EV.iload_n dX10_isSo_9 rfl rfl ?_
  refine EV.iadd dX10_isSo_10 ?_
  obtain ⟨g1, hf⟩ := pv_gd hf
  refine FV.iald dX10_isSo_11 sm_2 g1.1 g1.2 (j := (Int.toNat (pv_w (2637 + a1)))) rfl ?_
  obtain ⟨x2, ex2, hf⟩ := pv_bo hf
  refine FV.sti (L2 := [some (.inr (.inr (0))), some (.inl (a1)), some (.inl (0)), some (.inl (x2)), none]) dX10_isSo_12 rfl (Nat.le_of_ble_eq_true rfl) ex2 rfl ?_
  refine EV.weak (L2 := [some (.inr (.inr (0))), some (.inl (a1)), some (.inl (0)), some (.inl (x2)), none]) (And.intro rfl (And.intro rfl (And.intro rfl (And.intro rfl trivial)))) ?_
  exact tX10_isSo_13 hd   _ _ _  _ hf

noncomputable def fX10_found_45 (N : Nat)  (a1 : Int) (a2 : Int) (a3 : Int) (a4 : Int) (a5 : Int)  (h : pv_H) : Option (pv_H × Int) :=
  pv_c2b (fX10_no N (-2) h) fun h19 r20 => some (h19, r20)

noncomputable def fX10_found_146 (N : Nat)  (a1 : Int) (a2 : Int) (a3 : Int) (a4 : Int) (a5 : Int) (s0 : Int) (h : pv_H) : Option (pv_H × Int) :=
  some (h, s0)

noncomputable def fX10_found_128 (N : Nat) (k81 : Int → Int → Int → pv_H → Option (pv_H × Int)) (a1 : Int) (a2 : Int) (a3 : Int) (a4 : Int) (a5 : Int) (v6 : Int) (v7 : Int) (v8 : Int) (h : pv_H) : Option (pv_H × Int) :=
  pv_b (pv_w (v8 + 1)) fun x32 => k81 (v6) (v7) (x32) h

noncomputable def fX10_found_126 (N : Nat) (k81 : Int → Int → Int → pv_H → Option (pv_H × Int)) (a1 : Int) (a2 : Int) (a3 : Int) (a4 : Int) (a5 : Int) (v6 : Int) (v8 : Int) (s0 : Int) (h : pv_H) : Option (pv_H × Int) :=
  fX10_found_128 N (k81) a1 a2 a3 a4 a5 (v6) (s0) (v8) h

noncomputable def fX10_found_81 (N : Nat)  (a1 : Int) (a2 : Int) (a3 : Int) (a4 : Int) (a5 : Int) : Nat → Int → Int → Int → pv_H → Option (pv_H × Int)
  | 0, _, _, _, _ => none
  | n + 1, v6, v7, v8, h => if a4 < v8 then (if a5 = 0 then (fX10_found_146 N  a1 a2 a3 a4 a5 (v6) h) else (fX10_found_146 N  a1 a2 a3 a4 a5 (v7) h)) else (pv_c2b (fX10_piecesOf N a2 a3 v8 1 (-1) h) fun h24 r25 => pv_c2b (fX10_isSo N a1 h24) fun h27 r28 => if r28 = 0 then (fX10_found_128 N (fun v6_ v7_ v8_ hh => fX10_found_81 N  a1 a2 a3 a4 a5 n v6_ v7_ v8_ hh) a1 a2 a3 a4 a5 (v6) (v7) (v8) h27) else (pv_b (pv_w (v6 + 1)) fun x30 => if v7 = (-1) then (fX10_found_126 N (fun v6_ v7_ v8_ hh => fX10_found_81 N  a1 a2 a3 a4 a5 n v6_ v7_ v8_ hh) a1 a2 a3 a4 a5 (x30) (v8) (v8) h27) else (fX10_found_126 N (fun v6_ v7_ v8_ hh => fX10_found_81 N  a1 a2 a3 a4 a5 n v6_ v7_ v8_ hh) a1 a2 a3 a4 a5 (x30) (v8) (v7) h27)))

noncomputable def fX10_found (N : Nat) (a1 : Int) (a2 : Int) (a3 : Int) (a4 : Int) (a5 : Int) (h : pv_H) : Option (pv_H × Int) :=
  pv_b (pv_up h 0 0 0) fun h1 => pv_c1 (fX10_within N a1 0 (pv_w ((h1 2 2636) - 1)) h1) fun r3 => if r3 = 0 then (fX10_found_45 N  a1 a2 a3 a4 a5  h1) else (pv_c1 (fX10_isBoth N a2 a3 h1) fun r6 => if r6 = 0 then (fX10_found_45 N  a1 a2 a3 a4 a5  h1) else (pv_c1 (fX10_within N a5 0 1 h1) fun r9 => if r9 = 0 then (fX10_found_45 N  a1 a2 a3 a4 a5  h1) else (pv_c1 (fX10_within N a4 1 100 h1) fun r12 => if r12 = 0 then (pv_c2b (fX10_no N (-3) h1) fun h16 r17 => some (h16, r17)) else (pv_b (-1) fun x14 => fX10_found_81 N  a1 a2 a3 a4 a5 N (0) (x14) (1) h1))))

set_option maxHeartbeats 4000000 in
set_option maxRecDepth 20000 in
theorem tX10_found_45 {d N : Nat}  {a1 : Int} {a2 : Int} {a3 : Int} {a4 : Int} {a5 : Int}  {h h' : pv_H} {r : Int} (hd : 6 ≤ d)    (hf : fX10_found_45 N  a1 a2 a3 a4 a5  h = some (h', r)) : EV RX10 cX10_found 9 (some .int) false d pv_SM (MM h') (some (.inl r)) 45 [some (.inr (.inr (0))), none, none, none, none, none, none, none, none] [] pv_SM (MM h) := by
  unfold fX10_found_45 at hf
  refine EV.aload_n dX10_found_45 rfl rfl ?_
  refine EV.bipush dX10_found_46 (by decide) (by decide) ?_
  obtain ⟨h19, r20, hc18, hf⟩ := pv_c2o hf
  refine EV.invV (As := [.inl (-2)]) (st := []) (d1 := d - 1) (sh1 := pv_SM) (h1 := MM h19) (r1 := (some (.inl r20))) dX10_found_48 sm_0 (by decide) md_X10_no ml_X10_131 im_X10_no se_X10_no (tX10_no (by omega)  hc18) (by omega) rfl rfl (Nat.le_of_ble_eq_true rfl) ⟨[], (List.append_nil _).symm⟩ ?_
  refine EV.eqS (st2 := [.inl (r20)]) rfl ?_
  exact FV.iret dX10_found_51 hf

set_option maxHeartbeats 4000000 in
set_option maxRecDepth 20000 in
theorem tX10_found_146 {d N : Nat}  {a1 : Int} {a2 : Int} {a3 : Int} {a4 : Int} {a5 : Int} {s0 : Int} {h h' : pv_H} {r : Int} (hd : 6 ≤ d)    (hf : fX10_found_146 N  a1 a2 a3 a4 a5 s0 h = some (h', r)) : EV RX10 cX10_found 9 (some .int) false d pv_SM (MM h') (some (.inl r)) 146 [none, none, none, none, none, none, none, none, none] [.inl (s0)] pv_SM (MM h) := by
  unfold fX10_found_146 at hf
  exact FV.iret dX10_found_146 hf

set_option maxHeartbeats 4000000 in
set_option maxRecDepth 20000 in
theorem tX10_found_128 {d N : Nat} {k81 : Int → Int → Int → pv_H → Option (pv_H × Int)} {a1 : Int} {a2 : Int} {a3 : Int} {a4 : Int} {a5 : Int} {v6 : Int} {v7 : Int} {v8 : Int} {h h' : pv_H} {r : Int} (hd : 6 ≤ d) (hk81 : ∀ (v6 : Int) (v7 : Int) (v8 : Int)  (hh : pv_H), k81 v6 v7 v8 hh = some (h', r) → EV RX10 cX10_found 9 (some .int) false d pv_SM (MM h') (some (.inl r)) 81 [some (.inr (.inr (0))), some (.inl (a1)), some (.inl (a2)), some (.inl (a3)), some (.inl (a4)), some (.inl (a5)), some (.inl (v6)), some (.inl (v7)), some (.inl (v8))] [] pv_SM (MM hh))   (hf : fX10_found_128 N k81 a1 a2 a3 a4 a5 v6 v7 v8 h = some (h', r)) : EV RX10 cX10_found 9 (some .int) false d pv_SM (MM h') (some (.inl r)) 128 [some (.inr (.inr (0))), some (.inl (a1)), some (.inl (a2)), some (.inl (a3)), some (.inl (a4)), some (.inl (a5)), some (.inl (v6)), some (.inl (v7)), some (.inl (v8))] [] pv_SM (MM h) := by
  unfold fX10_found_128 at hf
  obtain ⟨x32, ex32, hf⟩ := pv_bo hf
  refine FV.inc (L2 := [some (.inr (.inr (0))), some (.inl (a1)), some (.inl (a2)), some (.inl (a3)), some (.inl (a4)), some (.inl (a5)), some (.inl (v6)), some (.inl (v7)), some (.inl (x32))]) dX10_found_128 rfl (Nat.le_of_ble_eq_true rfl) ex32 rfl ?_
  refine EV.goto (tgt := 81) dX10_found_131 (by decide) ?_
  refine EV.weak (L2 := [some (.inr (.inr (0))), some (.inl (a1)), some (.inl (a2)), some (.inl (a3)), some (.inl (a4)), some (.inl (a5)), some (.inl (v6)), some (.inl (v7)), some (.inl (x32))]) (And.intro rfl (And.intro rfl (And.intro rfl (And.intro rfl (And.intro rfl (And.intro rfl (And.intro rfl (And.intro rfl (And.intro rfl trivial))))))))) ?_
  exact hk81 _ _ _  _ hf

set_option maxHeartbeats 4000000 in
set_option maxRecDepth 20000 in
theorem tX10_found_126 {d N : Nat} {k81 : Int → Int → Int → pv_H → Option (pv_H × Int)} {a1 : Int} {a2 : Int} {a3 : Int} {a4 : Int} {a5 : Int} {v6 : Int} {v8 : Int} {s0 : Int} {h h' : pv_H} {r : Int} (hd : 6 ≤ d) (hk81 : ∀ (v6 : Int) (v7 : Int) (v8 : Int)  (hh : pv_H), k81 v6 v7 v8 hh = some (h', r) → EV RX10 cX10_found 9 (some .int) false d pv_SM (MM h') (some (.inl r)) 81 [some (.inr (.inr (0))), some (.inl (a1)), some (.inl (a2)), some (.inl (a3)), some (.inl (a4)), some (.inl (a5)), some (.inl (v6)), some (.inl (v7)), some (.inl (v8))] [] pv_SM (MM hh))   (hf : fX10_found_126 N k81 a1 a2 a3 a4 a5 v6 v8 s0 h = some (h', r)) : EV RX10 cX10_found 9 (some .int) false d pv_SM (MM h') (some (.inl r)) 126 [some (.inr (.inr (0))), some (.inl (a1)), some (.inl (a2)), some (.inl (a3)), some (.inl (a4)), some (.inl (a5)), some (.inl (v6)), none, some (.inl (v8))] [.inl (s0)] pv_SM (MM h) := by
  unfold fX10_found_126 at hf
  refine FV.stiw (L2 := [some (.inr (.inr (0))), some (.inl (a1)), some (.inl (a2)), some (.inl (a3)), some (.inl (a4)), some (.inl (a5)), some (.inl (v6)), some (.inl (s0)), some (.inl (v8))]) dX10_found_126 (Nat.le_of_ble_eq_true rfl) rfl rfl ?_
  refine EV.weak (L2 := [some (.inr (.inr (0))), some (.inl (a1)), some (.inl (a2)), some (.inl (a3)), some (.inl (a4)), some (.inl (a5)), some (.inl (v6)), some (.inl (s0)), some (.inl (v8))]) (And.intro rfl (And.intro rfl (And.intro rfl (And.intro rfl (And.intro rfl (And.intro rfl (And.intro rfl (And.intro rfl (And.intro rfl trivial))))))))) ?_
  exact tX10_found_128 hd (hk81)   hf

set_option maxHeartbeats 4000000 in
set_option maxRecDepth 20000 in
theorem tX10_found_81 {d N : Nat}  {a1 : Int} {a2 : Int} {a3 : Int} {a4 : Int} {a5 : Int} {h' : pv_H} {r : Int} (hd : 6 ≤ d)   : ∀ (n : Nat) (v6 : Int) (v7 : Int) (v8 : Int)  (h : pv_H), fX10_found_81 N  a1 a2 a3 a4 a5 n v6 v7 v8 h = some (h', r) → EV RX10 cX10_found 9 (some .int) false d pv_SM (MM h') (some (.inl r)) 81 [some (.inr (.inr (0))), some (.inl (a1)), some (.inl (a2)), some (.inl (a3)), some (.inl (a4)), some (.inl (a5)), some (.inl (v6)), some (.inl (v7)), some (.inl (v8))] [] pv_SM (MM h) := by
  intro n
  induction n with
  | zero =>
    intro v6 v7 v8  h hf
    cases hf
  | succ n ih =>
    intro v6 v7 v8  h hf
    rw [fX10_found_81] at hf
    refine EV.iload dX10_found_81 rfl ?_
    refine EV.iload dX10_found_83 rfl ?_
    refine EV.icmp_gt (tgt := 134) dX10_found_85 (by decide) (fun q21 => ?_) (fun q21 => ?_)
    · have hf := pv_gp hf q21
      refine EV.iload dX10_found_134 rfl ?_
      refine EV.if_ne (tgt := 144) dX10_found_136 (by decide) (fun q22 => ?_) (fun q22 => ?_)
      · have hf := pv_gn hf q22
        refine EV.iload dX10_found_144 rfl ?_
        refine EV.weak (L2 := [none, none, none, none, none, none, none, none, none]) trivial ?_
        exact tX10_found_146 hd    hf
      · have hf := pv_gp hf q22
        refine EV.iload dX10_found_139 rfl ?_
        refine EV.goto (tgt := 146) dX10_found_141 (by decide) ?_
        refine EV.weak (L2 := [none, none, none, none, none, none, none, none, none]) trivial ?_
        exact tX10_found_146 hd    hf
    · have hf := pv_gn hf q21
      refine EV.aload_n dX10_found_88 rfl rfl ?_
      refine EV.iload_n dX10_found_89 rfl rfl ?_
      refine EV.iload_n dX10_found_90 rfl rfl ?_
      refine EV.iload dX10_found_91 rfl ?_
      refine EV.iconst dX10_found_93 (by decide) (by decide) ?_
      refine EV.iconst dX10_found_94 (by decide) (by decide) ?_
      obtain ⟨h24, r25, hc23, hf⟩ := pv_c2o hf
      refine EV.invV (As := [.inl (a2), .inl (a3), .inl (v8), .inl (1), .inl (-1)]) (st := []) (d1 := d - 1) (sh1 := pv_SM) (h1 := MM h24) (r1 := (some (.inl r25))) dX10_found_95 sm_0 (by decide) md_X10_piecesOf ml_X10_400 im_X10_piecesOf se_X10_piecesOf (tX10_piecesOf (by omega)  hc23) (by omega) rfl rfl (Nat.le_of_ble_eq_true rfl) ⟨[], (List.append_nil _).symm⟩ ?_
      refine EV.eqS (st2 := [.inl (r25)]) rfl ?_
      refine EV.pop dX10_found_98 rfl ?_
      refine EV.aload_n dX10_found_99 rfl rfl ?_
      refine EV.iload_n dX10_found_100 rfl rfl ?_
      obtain ⟨h27, r28, hc26, hf⟩ := pv_c2o hf
      refine EV.invV (As := [.inl (a1)]) (st := []) (d1 := d - 1) (sh1 := pv_SM) (h1 := MM h27) (r1 := (some (.inl r28))) dX10_found_101 sm_0 (by decide) md_X10_isSo ml_X10_449 im_X10_isSo se_X10_isSo (tX10_isSo (by omega)  hc26) (by omega) rfl rfl (Nat.le_of_ble_eq_true rfl) ⟨[], (List.append_nil _).symm⟩ ?_
      refine EV.eqS (st2 := [.inl (r28)]) rfl ?_
      refine EV.if_ne (tgt := 110) dX10_found_104 (by decide) (fun q29 => ?_) (fun q29 => ?_)
      · have hf := pv_gn hf q29
        obtain ⟨x30, ex30, hf⟩ := pv_bo hf
        refine FV.inc (L2 := [some (.inr (.inr (0))), some (.inl (a1)), some (.inl (a2)), some (.inl (a3)), some (.inl (a4)), some (.inl (a5)), some (.inl (x30)), some (.inl (v7)), some (.inl (v8))]) dX10_found_110 rfl (Nat.le_of_ble_eq_true rfl) ex30 rfl ?_
        refine EV.iload dX10_found_113 rfl ?_
        refine EV.iconst dX10_found_115 (by decide) (by decide) ?_
        refine EV.icmp_ne (tgt := 124) dX10_found_116 (by decide) (fun q31 => ?_) (fun q31 => ?_)
        · have hf := pv_gn hf q31
          refine EV.iload dX10_found_124 rfl ?_
          refine EV.weak (L2 := [some (.inr (.inr (0))), some (.inl (a1)), some (.inl (a2)), some (.inl (a3)), some (.inl (a4)), some (.inl (a5)), some (.inl (x30)), none, some (.inl (v8))]) (And.intro rfl (And.intro rfl (And.intro rfl (And.intro rfl (And.intro rfl (And.intro rfl (And.intro rfl (And.intro rfl trivial)))))))) ?_
          exact tX10_found_126 hd (ih)   hf
        · have hf := pv_gp hf q31
          refine EV.iload dX10_found_119 rfl ?_
          refine EV.goto (tgt := 126) dX10_found_121 (by decide) ?_
          refine EV.weak (L2 := [some (.inr (.inr (0))), some (.inl (a1)), some (.inl (a2)), some (.inl (a3)), some (.inl (a4)), some (.inl (a5)), some (.inl (x30)), none, some (.inl (v8))]) (And.intro rfl (And.intro rfl (And.intro rfl (And.intro rfl (And.intro rfl (And.intro rfl (And.intro rfl (And.intro rfl trivial)))))))) ?_
          exact tX10_found_126 hd (ih)   hf
      · have hf := pv_gp hf q29
        refine EV.goto (tgt := 128) dX10_found_107 (by decide) ?_
        refine EV.weak (L2 := [some (.inr (.inr (0))), some (.inl (a1)), some (.inl (a2)), some (.inl (a3)), some (.inl (a4)), some (.inl (a5)), some (.inl (v6)), some (.inl (v7)), some (.inl (v8))]) (And.intro rfl (And.intro rfl (And.intro rfl (And.intro rfl (And.intro rfl (And.intro rfl (And.intro rfl (And.intro rfl (And.intro rfl trivial))))))))) ?_
        exact tX10_found_128 hd (ih)   hf

set_option maxHeartbeats 4000000 in
set_option maxRecDepth 20000 in
theorem tX10_found {d N : Nat} {a1 : Int} {a2 : Int} {a3 : Int} {a4 : Int} {a5 : Int} {h h' : pv_H} {r : Int} (hd : 6 ≤ d)  (hf : fX10_found N a1 a2 a3 a4 a5 h = some (h', r)) : CALL yX10_found cX10_found 9 (some .int) d pv_SM (MM h) [.inr (.inr (0)), .inl (a1), .inl (a2), .inl (a3), .inl (a4), .inl (a5)] pv_SM (MM h') (some (.inl r)) := by
  unfold fX10_found at hf
  refine EV.call (own := RX10) (ini := false) rfl rfl (fun q => by cases q) ⟨[], (List.append_nil _).symm⟩ (Nat.le_of_ble_eq_true rfl) ?_
  refine EV.eqL (L2 := [some (.inr (.inr (0))), some (.inl (a1)), some (.inl (a2)), some (.inl (a3)), some (.inl (a4)), some (.inl (a5)), none, none, none]) rfl ?_
  refine EV.aload_n dX10_found_0 rfl rfl ?_
  refine EV.iconst dX10_found_1 (by decide) (by decide) ?_
  obtain ⟨h1, eh1, hf⟩ := pv_bo hf
  refine FV.putI dX10_found_2 sm_0 fl_10_1 rfl rfl eh1 ?_
  refine EV.iload_n dX10_found_5 rfl rfl ?_
  refine EV.i2l dX10_found_6 ?_
  refine EV.lconst (x := 0) dX10_found_7 (by decide) (by decide) (by decide) ?_
  refine EV.aload_n dX10_found_8 rfl rfl ?_
  refine FV.getF (v := 2) dX10_found_9 sm_0 fl_10_17 rfl rfl hvm_0_2 ?_
  refine EV.sipush dX10_found_12 (by decide) (by decide) ?_
  refine FV.iald dX10_found_15 sm_2 (by decide) (by decide) (j := 2636) rfl ?_
  refine EV.iconst dX10_found_16 (by decide) (by decide) ?_
  refine EV.isub dX10_found_17 ?_
  refine EV.i2l dX10_found_18 ?_
  obtain ⟨r3, hc2, hf⟩ := pv_c1o hf
  refine EV.invS (As := [.inr (.inl (a1)), .inr (.inl (0)), .inr (.inl (pv_w ((h1 2 2636) - 1)))]) (st := []) (d1 := d - 1) (sh1 := pv_SM) (h1 := MM h1) (r1 := (some (.inl r3))) dX10_found_19 md_X10_within ml_X10_193 st_X10_within (tX10_within (by omega)  hc2) (by omega) rfl rfl (Nat.le_of_ble_eq_true rfl) ⟨[], (List.append_nil _).symm⟩ ?_
  refine EV.eqS (st2 := [.inl (r3)]) rfl ?_
  refine EV.if_eq (tgt := 45) dX10_found_22 (by decide) (fun q4 => ?_) (fun q4 => ?_)
  · have hf := pv_gp hf q4
    refine EV.weak (L2 := [some (.inr (.inr (0))), none, none, none, none, none, none, none, none]) (And.intro rfl trivial) ?_
    exact tX10_found_45 hd    hf
  · have hf := pv_gn hf q4
    refine EV.aload_n dX10_found_25 rfl rfl ?_
    refine EV.iload_n dX10_found_26 rfl rfl ?_
    refine EV.iload_n dX10_found_27 rfl rfl ?_
    obtain ⟨r6, hc5, hf⟩ := pv_c1o hf
    refine EV.invV (As := [.inl (a2), .inl (a3)]) (st := []) (d1 := d - 1) (sh1 := pv_SM) (h1 := MM h1) (r1 := (some (.inl r6))) dX10_found_28 sm_0 (by decide) md_X10_isBoth ml_X10_396 im_X10_isBoth se_X10_isBoth (tX10_isBoth (by omega)  hc5) (by omega) rfl rfl (Nat.le_of_ble_eq_true rfl) ⟨[], (List.append_nil _).symm⟩ ?_
    refine EV.eqS (st2 := [.inl (r6)]) rfl ?_
    refine EV.if_eq (tgt := 45) dX10_found_31 (by decide) (fun q7 => ?_) (fun q7 => ?_)
    · have hf := pv_gp hf q7
      refine EV.weak (L2 := [some (.inr (.inr (0))), none, none, none, none, none, none, none, none]) (And.intro rfl trivial) ?_
      exact tX10_found_45 hd    hf
    · have hf := pv_gn hf q7
      refine EV.iload dX10_found_34 rfl ?_
      refine EV.i2l dX10_found_36 ?_
      refine EV.lconst (x := 0) dX10_found_37 (by decide) (by decide) (by decide) ?_
      refine EV.lconst (x := 1) dX10_found_38 (by decide) (by decide) (by decide) ?_
      obtain ⟨r9, hc8, hf⟩ := pv_c1o hf
      refine EV.invS (As := [.inr (.inl (a5)), .inr (.inl (0)), .inr (.inl (1))]) (st := []) (d1 := d - 1) (sh1 := pv_SM) (h1 := MM h1) (r1 := (some (.inl r9))) dX10_found_39 md_X10_within ml_X10_193 st_X10_within (tX10_within (by omega)  hc8) (by omega) rfl rfl (Nat.le_of_ble_eq_true rfl) ⟨[], (List.append_nil _).symm⟩ ?_
      refine EV.eqS (st2 := [.inl (r9)]) rfl ?_
      refine EV.if_ne (tgt := 52) dX10_found_42 (by decide) (fun q10 => ?_) (fun q10 => ?_)
      · have hf := pv_gn hf q10
        refine EV.iload dX10_found_52 rfl ?_
        refine EV.i2l dX10_found_54 ?_
        refine EV.lconst (x := 1) dX10_found_55 (by decide) (by decide) (by decide) ?_
        refine EV.ldc2 (n := 100) dX10_found_56 kl_X10_323 (by decide) (by decide) ?_
        obtain ⟨r12, hc11, hf⟩ := pv_c1o hf
        refine EV.invS (As := [.inr (.inl (a4)), .inr (.inl (1)), .inr (.inl (100))]) (st := []) (d1 := d - 1) (sh1 := pv_SM) (h1 := MM h1) (r1 := (some (.inl r12))) dX10_found_59 md_X10_within ml_X10_193 st_X10_within (tX10_within (by omega)  hc11) (by omega) rfl rfl (Nat.le_of_ble_eq_true rfl) ⟨[], (List.append_nil _).symm⟩ ?_
        refine EV.eqS (st2 := [.inl (r12)]) rfl ?_
        refine EV.if_ne (tgt := 72) dX10_found_62 (by decide) (fun q13 => ?_) (fun q13 => ?_)
        · have hf := pv_gn hf q13
          refine EV.iconst dX10_found_72 (by decide) (by decide) ?_
          refine FV.stiw (L2 := [some (.inr (.inr (0))), some (.inl (a1)), some (.inl (a2)), some (.inl (a3)), some (.inl (a4)), some (.inl (a5)), some (.inl (0)), none, none]) dX10_found_73 (Nat.le_of_ble_eq_true rfl) rfl rfl ?_
          refine EV.iconst dX10_found_75 (by decide) (by decide) ?_
          obtain ⟨x14, ex14, hf⟩ := pv_bo hf
          refine FV.stiw (L2 := [some (.inr (.inr (0))), some (.inl (a1)), some (.inl (a2)), some (.inl (a3)), some (.inl (a4)), some (.inl (a5)), some (.inl (0)), some (.inl (x14)), none]) dX10_found_76 (Nat.le_of_ble_eq_true rfl) ex14 rfl ?_
          refine EV.iconst dX10_found_78 (by decide) (by decide) ?_
          refine FV.stiw (L2 := [some (.inr (.inr (0))), some (.inl (a1)), some (.inl (a2)), some (.inl (a3)), some (.inl (a4)), some (.inl (a5)), some (.inl (0)), some (.inl (x14)), some (.inl (1))]) dX10_found_79 (Nat.le_of_ble_eq_true rfl) rfl rfl ?_
          refine EV.weak (L2 := [some (.inr (.inr (0))), some (.inl (a1)), some (.inl (a2)), some (.inl (a3)), some (.inl (a4)), some (.inl (a5)), some (.inl (0)), some (.inl (x14)), some (.inl (1))]) (And.intro rfl (And.intro rfl (And.intro rfl (And.intro rfl (And.intro rfl (And.intro rfl (And.intro rfl (And.intro rfl (And.intro rfl trivial))))))))) ?_
          exact tX10_found_81 hd   _ _ _ _  _ hf
        · have hf := pv_gp hf q13
          refine EV.aload_n dX10_found_65 rfl rfl ?_
          refine EV.bipush dX10_found_66 (by decide) (by decide) ?_
          obtain ⟨h16, r17, hc15, hf⟩ := pv_c2o hf
          refine EV.invV (As := [.inl (-3)]) (st := []) (d1 := d - 1) (sh1 := pv_SM) (h1 := MM h16) (r1 := (some (.inl r17))) dX10_found_68 sm_0 (by decide) md_X10_no ml_X10_131 im_X10_no se_X10_no (tX10_no (by omega)  hc15) (by omega) rfl rfl (Nat.le_of_ble_eq_true rfl) ⟨[], (List.append_nil _).symm⟩ ?_
          refine EV.eqS (st2 := [.inl (r17)]) rfl ?_
          exact FV.iret dX10_found_71 hf
      · have hf := pv_gp hf q10
        refine EV.weak (L2 := [some (.inr (.inr (0))), none, none, none, none, none, none, none, none]) (And.intro rfl trivial) ?_
        exact tX10_found_45 hd    hf

noncomputable def fX10_middle_27 (N : Nat)  (a1 : Int) (a2 : Int) (a3 : Int) (a4 : Int)  (h : pv_H) : Option (pv_H × Int) :=
  pv_c2b (fX10_no N (-2) h) fun h17 r18 => some (h17, r18)

noncomputable def fX10_middle_215 (N : Nat)  (a1 : Int) (a2 : Int) (a3 : Int) (a4 : Int) (s0 : Int) (h : pv_H) : Option (pv_H × Int) :=
  some (h, s0)

noncomputable def fX10_middle_175 (N : Nat) (k68 : Int → Int → Int → Int → Int → pv_H → Option (pv_H × Int)) (a1 : Int) (a2 : Int) (a3 : Int) (a4 : Int) (v5 : Int) (v6 : Int) (v7 : Int) (v8 : Int) (v9 : Int) (h : pv_H) : Option (pv_H × Int) :=
  pv_b (pv_w (v9 + 1)) fun x33 => k68 (v5) (v6) (v7) (v8) (x33) h

noncomputable def fX10_middle_167 (N : Nat) (k68 : Int → Int → Int → Int → Int → pv_H → Option (pv_H × Int)) (k97 : Int → Int → Int → Int → Int → Int → pv_H → Option (pv_H × Int)) (a1 : Int) (a2 : Int) (a3 : Int) (a4 : Int) (v5 : Int) (v6 : Int) (v7 : Int) (v9 : Int) (v10 : Int) (s0 : Int) (h : pv_H) : Option (pv_H × Int) :=
  pv_b (pv_w (v10 + 1)) fun x38 => k97 (v5) (v6) (v7) (s0) (v9) (x38) h

noncomputable def fX10_middle_141 (N : Nat) (k68 : Int → Int → Int → Int → Int → pv_H → Option (pv_H × Int)) (k97 : Int → Int → Int → Int → Int → Int → pv_H → Option (pv_H × Int)) (a1 : Int) (a2 : Int) (a3 : Int) (a4 : Int) (v5 : Int) (v6 : Int) (v8 : Int) (v9 : Int) (v10 : Int) (s0 : Int) (h : pv_H) : Option (pv_H × Int) :=
  if 0 ≤ v10 ∧ v10 < 61 then (if (h 24 (Int.toNat (v10))) ≤ v8 then (fX10_middle_167 N (k68) (k97) a1 a2 a3 a4 (v5) (v6) (s0) (v9) (v10) (v8) h) else (if 0 ≤ v10 ∧ v10 < 61 then (fX10_middle_167 N (k68) (k97) a1 a2 a3 a4 (v5) (v6) (s0) (v9) (v10) (h 24 (Int.toNat (v10))) h) else none)) else none

noncomputable def fX10_middle_129 (N : Nat) (k68 : Int → Int → Int → Int → Int → pv_H → Option (pv_H × Int)) (k97 : Int → Int → Int → Int → Int → Int → pv_H → Option (pv_H × Int)) (a1 : Int) (a2 : Int) (a3 : Int) (a4 : Int) (v5 : Int) (v6 : Int) (v8 : Int) (v9 : Int) (v10 : Int) (h : pv_H) : Option (pv_H × Int) :=
  if 0 ≤ v10 ∧ v10 < 61 then (fX10_middle_141 N (k68) (k97) a1 a2 a3 a4 (v5) (v6) (v8) (v9) (v10) (h 24 (Int.toNat (v10))) h) else none

noncomputable def fX10_middle_97 (N : Nat) (k68 : Int → Int → Int → Int → Int → pv_H → Option (pv_H × Int)) (a1 : Int) (a2 : Int) (a3 : Int) (a4 : Int) : Nat → Int → Int → Int → Int → Int → Int → pv_H → Option (pv_H × Int)
  | 0, _, _, _, _, _, _, _ => none
  | n + 1, v5, v6, v7, v8, v9, v10, h => if (pv_w ((h 0 42) - 1)) ≤ v10 then (fX10_middle_175 N (k68) a1 a2 a3 a4 (v5) (v6) (v7) (v8) (v9) h) else (pv_b (pv_w (v6 + 1)) fun x29 => if v7 = (-1) then (fX10_middle_129 N (k68) (fun v5_ v6_ v7_ v8_ v9_ v10_ hh => fX10_middle_97 N k68 a1 a2 a3 a4 n v5_ v6_ v7_ v8_ v9_ v10_ hh) a1 a2 a3 a4 (v5) (x29) (v8) (v9) (v10) h) else (if 0 ≤ v10 ∧ v10 < 61 then (if v7 ≤ (h 24 (Int.toNat (v10))) then (fX10_middle_141 N (k68) (fun v5_ v6_ v7_ v8_ v9_ v10_ hh => fX10_middle_97 N k68 a1 a2 a3 a4 n v5_ v6_ v7_ v8_ v9_ v10_ hh) a1 a2 a3 a4 (v5) (x29) (v8) (v9) (v10) (v7) h) else (fX10_middle_129 N (k68) (fun v5_ v6_ v7_ v8_ v9_ v10_ hh => fX10_middle_97 N k68 a1 a2 a3 a4 n v5_ v6_ v7_ v8_ v9_ v10_ hh) a1 a2 a3 a4 (v5) (x29) (v8) (v9) (v10) h)) else none))

noncomputable def fX10_middle_68 (N : Nat)  (a1 : Int) (a2 : Int) (a3 : Int) (a4 : Int) : Nat → Int → Int → Int → Int → Int → pv_H → Option (pv_H × Int)
  | 0, _, _, _, _, _, _ => none
  | n + 1, v5, v6, v7, v8, v9, h => if a3 < v9 then (if a4 = 0 then (fX10_middle_215 N  a1 a2 a3 a4 (v5) h) else (if a4 = 1 then (fX10_middle_215 N  a1 a2 a3 a4 (v6) h) else (if a4 = 2 then (fX10_middle_215 N  a1 a2 a3 a4 (v7) h) else (fX10_middle_215 N  a1 a2 a3 a4 (v8) h)))) else (pv_c2b (fX10_piecesOf N a1 a2 v9 1 (-1) h) fun h24 r25 => if 3 ≤ r25 then (pv_b (pv_w (v5 + 1)) fun x27 => fX10_middle_97 N (fun v5_ v6_ v7_ v8_ v9_ hh => fX10_middle_68 N  a1 a2 a3 a4 n v5_ v6_ v7_ v8_ v9_ hh) a1 a2 a3 a4 N (x27) (v6) (v7) (v8) (v9) (1) h24) else (fX10_middle_175 N (fun v5_ v6_ v7_ v8_ v9_ hh => fX10_middle_68 N  a1 a2 a3 a4 n v5_ v6_ v7_ v8_ v9_ hh) a1 a2 a3 a4 (v5) (v6) (v7) (v8) (v9) h24))

noncomputable def fX10_middle (N : Nat) (a1 : Int) (a2 : Int) (a3 : Int) (a4 : Int) (h : pv_H) : Option (pv_H × Int) :=
  pv_b (pv_up h 0 0 0) fun h1 => pv_c1 (fX10_isBoth N a1 a2 h1) fun r3 => if r3 = 0 then (fX10_middle_27 N  a1 a2 a3 a4  h1) else (pv_c1 (fX10_within N a4 0 3 h1) fun r6 => if r6 = 0 then (fX10_middle_27 N  a1 a2 a3 a4  h1) else (pv_c1 (fX10_within N a3 1 100 h1) fun r9 => if r9 = 0 then (pv_c2b (fX10_no N (-3) h1) fun h14 r15 => some (h14, r15)) else (pv_b (-1) fun x11 => pv_b (-1) fun x12 => fX10_middle_68 N  a1 a2 a3 a4 N (0) (0) (x11) (x12) (1) h1)))

set_option maxHeartbeats 4000000 in
set_option maxRecDepth 20000 in
theorem tX10_middle_27 {d N : Nat}  {a1 : Int} {a2 : Int} {a3 : Int} {a4 : Int}  {h h' : pv_H} {r : Int} (hd : 6 ≤ d)    (hf : fX10_middle_27 N  a1 a2 a3 a4  h = some (h', r)) : EV RX10 cX10_middle 11 (some .int) false d pv_SM (MM h') (some (.inl r)) 27 [some (.inr (.inr (0))), none, none, none, none, none, none, none, none, none, none] [] pv_SM (MM h) := by
  unfold fX10_middle_27 at hf
  refine EV.aload_n dX10_middle_27 rfl rfl ?_
  refine EV.bipush dX10_middle_28 (by decide) (by decide) ?_
  obtain ⟨h17, r18, hc16, hf⟩ := pv_c2o hf
  refine EV.invV (As := [.inl (-2)]) (st := []) (d1 := d - 1) (sh1 := pv_SM) (h1 := MM h17) (r1 := (some (.inl r18))) dX10_middle_30 sm_0 (by decide) md_X10_no ml_X10_131 im_X10_no se_X10_no (tX10_no (by omega)  hc16) (by omega) rfl rfl (Nat.le_of_ble_eq_true rfl) ⟨[], (List.append_nil _).symm⟩ ?_
  refine EV.eqS (st2 := [.inl (r18)]) rfl ?_
  exact FV.iret dX10_middle_33 hf

set_option maxHeartbeats 4000000 in
set_option maxRecDepth 20000 in
theorem tX10_middle_215 {d N : Nat}  {a1 : Int} {a2 : Int} {a3 : Int} {a4 : Int} {s0 : Int} {h h' : pv_H} {r : Int} (hd : 6 ≤ d)    (hf : fX10_middle_215 N  a1 a2 a3 a4 s0 h = some (h', r)) : EV RX10 cX10_middle 11 (some .int) false d pv_SM (MM h') (some (.inl r)) 215 [none, none, none, none, none, none, none, none, none, none, none] [.inl (s0)] pv_SM (MM h) := by
  unfold fX10_middle_215 at hf
  exact FV.iret dX10_middle_215 hf

set_option maxHeartbeats 4000000 in
set_option maxRecDepth 20000 in
theorem tX10_middle_175 {d N : Nat} {k68 : Int → Int → Int → Int → Int → pv_H → Option (pv_H × Int)} {a1 : Int} {a2 : Int} {a3 : Int} {a4 : Int} {v5 : Int} {v6 : Int} {v7 : Int} {v8 : Int} {v9 : Int} {h h' : pv_H} {r : Int} (hd : 6 ≤ d) (hk68 : ∀ (v5 : Int) (v6 : Int) (v7 : Int) (v8 : Int) (v9 : Int)  (hh : pv_H), k68 v5 v6 v7 v8 v9 hh = some (h', r) → EV RX10 cX10_middle 11 (some .int) false d pv_SM (MM h') (some (.inl r)) 68 [some (.inr (.inr (0))), some (.inl (a1)), some (.inl (a2)), some (.inl (a3)), some (.inl (a4)), some (.inl (v5)), some (.inl (v6)), some (.inl (v7)), some (.inl (v8)), some (.inl (v9)), none] [] pv_SM (MM hh))   (hf : fX10_middle_175 N k68 a1 a2 a3 a4 v5 v6 v7 v8 v9 h = some (h', r)) : EV RX10 cX10_middle 11 (some .int) false d pv_SM (MM h') (some (.inl r)) 175 [some (.inr (.inr (0))), some (.inl (a1)), some (.inl (a2)), some (.inl (a3)), some (.inl (a4)), some (.inl (v5)), some (.inl (v6)), some (.inl (v7)), some (.inl (v8)), some (.inl (v9)), none] [] pv_SM (MM h) := by
  unfold fX10_middle_175 at hf
  obtain ⟨x33, ex33, hf⟩ := pv_bo hf
  refine FV.inc (L2 := [some (.inr (.inr (0))), some (.inl (a1)), some (.inl (a2)), some (.inl (a3)), some (.inl (a4)), some (.inl (v5)), some (.inl (v6)), some (.inl (v7)), some (.inl (v8)), some (.inl (x33)), none]) dX10_middle_175 rfl (Nat.le_of_ble_eq_true rfl) ex33 rfl ?_
  refine EV.goto (tgt := 68) dX10_middle_178 (by decide) ?_
  refine EV.weak (L2 := [some (.inr (.inr (0))), some (.inl (a1)), some (.inl (a2)), some (.inl (a3)), some (.inl (a4)), some (.inl (v5)), some (.inl (v6)), some (.inl (v7)), some (.inl (v8)), some (.inl (x33)), none]) (And.intro rfl (And.intro rfl (And.intro rfl (And.intro rfl (And.intro rfl (And.intro rfl (And.intro rfl (And.intro rfl (And.intro rfl (And.intro rfl trivial)))))))))) ?_
  exact hk68 _ _ _ _ _  _ hf

set_option maxHeartbeats 4000000 in
set_option maxRecDepth 20000 in
theorem tX10_middle_167 {d N : Nat} {k68 : Int → Int → Int → Int → Int → pv_H → Option (pv_H × Int)} {k97 : Int → Int → Int → Int → Int → Int → pv_H → Option (pv_H × Int)} {a1 : Int} {a2 : Int} {a3 : Int} {a4 : Int} {v5 : Int} {v6 : Int} {v7 : Int} {v9 : Int} {v10 : Int} {s0 : Int} {h h' : pv_H} {r : Int} (hd : 6 ≤ d) (hk68 : ∀ (v5 : Int) (v6 : Int) (v7 : Int) (v8 : Int) (v9 : Int)  (hh : pv_H), k68 v5 v6 v7 v8 v9 hh = some (h', r) → EV RX10 cX10_middle 11 (some .int) false d pv_SM (MM h') (some (.inl r)) 68 [some (.inr (.inr (0))), some (.inl (a1)), some (.inl (a2)), some (.inl (a3)), some (.inl (a4)), some (.inl (v5)), some (.inl (v6)), some (.inl (v7)), some (.inl (v8)), some (.inl (v9)), none] [] pv_SM (MM hh)) (hk97 : ∀ (v5 : Int) (v6 : Int) (v7 : Int) (v8 : Int) (v9 : Int) (v10 : Int)  (hh : pv_H), k97 v5 v6 v7 v8 v9 v10 hh = some (h', r) → EV RX10 cX10_middle 11 (some .int) false d pv_SM (MM h') (some (.inl r)) 97 [some (.inr (.inr (0))), some (.inl (a1)), some (.inl (a2)), some (.inl (a3)), some (.inl (a4)), some (.inl (v5)), some (.inl (v6)), some (.inl (v7)), some (.inl (v8)), some (.inl (v9)), some (.inl (v10))] [] pv_SM (MM hh))   (hf : fX10_middle_167 N k68 k97 a1 a2 a3 a4 v5 v6 v7 v9 v10 s0 h = some (h', r)) : EV RX10 cX10_middle 11 (some .int) false d pv_SM (MM h') (some (.inl r)) 167 [some (.inr (.inr (0))), some (.inl (a1)), some (.inl (a2)), some (.inl (a3)), some (.inl (a4)), some (.inl (v5)), some (.inl (v6)), some (.inl (v7)), none, some (.inl (v9)), some (.inl (v10))] [.inl (s0)] pv_SM (MM h) := by
  unfold fX10_middle_167 at hf
  refine FV.stiw (L2 := [some (.inr (.inr (0))), some (.inl (a1)), some (.inl (a2)), some (.inl (a3)), some (.inl (a4)), some (.inl (v5)), some (.inl (v6)), some (.inl (v7)), some (.inl (s0)), some (.inl (v9)), some (.inl (v10))]) dX10_middle_167 (Nat.le_of_ble_eq_true rfl) rfl rfl ?_
  obtain ⟨x38, ex38, hf⟩ := pv_bo hf
  refine FV.inc (L2 := [some (.inr (.inr (0))), some (.inl (a1)), some (.inl (a2)), some (.inl (a3)), some (.inl (a4)), some (.inl (v5)), some (.inl (v6)), some (.inl (v7)), some (.inl (s0)), some (.inl (v9)), some (.inl (x38))]) dX10_middle_169 rfl (Nat.le_of_ble_eq_true rfl) ex38 rfl ?_
  refine EV.goto (tgt := 97) dX10_middle_172 (by decide) ?_
  refine EV.weak (L2 := [some (.inr (.inr (0))), some (.inl (a1)), some (.inl (a2)), some (.inl (a3)), some (.inl (a4)), some (.inl (v5)), some (.inl (v6)), some (.inl (v7)), some (.inl (s0)), some (.inl (v9)), some (.inl (x38))]) (And.intro rfl (And.intro rfl (And.intro rfl (And.intro rfl (And.intro rfl (And.intro rfl (And.intro rfl (And.intro rfl (And.intro rfl (And.intro rfl (And.intro rfl trivial))))))))))) ?_
  exact hk97 _ _ _ _ _ _  _ hf

set_option maxHeartbeats 4000000 in
set_option maxRecDepth 20000 in
theorem tX10_middle_141 {d N : Nat} {k68 : Int → Int → Int → Int → Int → pv_H → Option (pv_H × Int)} {k97 : Int → Int → Int → Int → Int → Int → pv_H → Option (pv_H × Int)} {a1 : Int} {a2 : Int} {a3 : Int} {a4 : Int} {v5 : Int} {v6 : Int} {v8 : Int} {v9 : Int} {v10 : Int} {s0 : Int} {h h' : pv_H} {r : Int} (hd : 6 ≤ d) (hk68 : ∀ (v5 : Int) (v6 : Int) (v7 : Int) (v8 : Int) (v9 : Int)  (hh : pv_H), k68 v5 v6 v7 v8 v9 hh = some (h', r) → EV RX10 cX10_middle 11 (some .int) false d pv_SM (MM h') (some (.inl r)) 68 [some (.inr (.inr (0))), some (.inl (a1)), some (.inl (a2)), some (.inl (a3)), some (.inl (a4)), some (.inl (v5)), some (.inl (v6)), some (.inl (v7)), some (.inl (v8)), some (.inl (v9)), none] [] pv_SM (MM hh)) (hk97 : ∀ (v5 : Int) (v6 : Int) (v7 : Int) (v8 : Int) (v9 : Int) (v10 : Int)  (hh : pv_H), k97 v5 v6 v7 v8 v9 v10 hh = some (h', r) → EV RX10 cX10_middle 11 (some .int) false d pv_SM (MM h') (some (.inl r)) 97 [some (.inr (.inr (0))), some (.inl (a1)), some (.inl (a2)), some (.inl (a3)), some (.inl (a4)), some (.inl (v5)), some (.inl (v6)), some (.inl (v7)), some (.inl (v8)), some (.inl (v9)), some (.inl (v10))] [] pv_SM (MM hh))   (hf : fX10_middle_141 N k68 k97 a1 a2 a3 a4 v5 v6 v8 v9 v10 s0 h = some (h', r)) : EV RX10 cX10_middle 11 (some .int) false d pv_SM (MM h') (some (.inl r)) 141 [some (.inr (.inr (0))), some (.inl (a1)), some (.inl (a2)), some (.inl (a3)), some (.inl (a4)), some (.inl (v5)), some (.inl (v6)), none, some (.inl (v8)), some (.inl (v9)), some (.inl (v10))] [.inl (s0)] pv_SM (MM h) := by
  unfold fX10_middle_141 at hf
  refine FV.stiw (L2 := [some (.inr (.inr (0))), some (.inl (a1)), some (.inl (a2)), some (.inl (a3)), some (.inl (a4)), some (.inl (v5)), some (.inl (v6)), some (.inl (s0)), some (.inl (v8)), some (.inl (v9)), some (.inl (v10))]) dX10_middle_141 (Nat.le_of_ble_eq_true rfl) rfl rfl ?_
  refine EV.aload_n dX10_middle_143 rfl rfl ?_
  refine FV.getF (v := 24) dX10_middle_144 sm_0 fl_10_87 rfl rfl hvm_0_51 ?_
  refine EV.iload dX10_middle_147 rfl ?_
  obtain ⟨g35, hf⟩ := pv_gd hf
  refine FV.iald dX10_middle_149 sm_24 g35.1 g35.2 (j := (Int.toNat (v10))) rfl ?_
  refine EV.iload dX10_middle_150 rfl ?_
  refine EV.icmp_le (tgt := 165) dX10_middle_152 (by decide) (fun q36 => ?_) (fun q36 => ?_)
  · have hf := pv_gp hf q36
    refine EV.iload dX10_middle_165 rfl ?_
    refine EV.weak (L2 := [some (.inr (.inr (0))), some (.inl (a1)), some (.inl (a2)), some (.inl (a3)), some (.inl (a4)), some (.inl (v5)), some (.inl (v6)), some (.inl (s0)), none, some (.inl (v9)), some (.inl (v10))]) (And.intro rfl (And.intro rfl (And.intro rfl (And.intro rfl (And.intro rfl (And.intro rfl (And.intro rfl (And.intro rfl (And.intro rfl (And.intro rfl trivial)))))))))) ?_
    exact tX10_middle_167 hd (hk68) (hk97)   hf
  · have hf := pv_gn hf q36
    refine EV.aload_n dX10_middle_155 rfl rfl ?_
    refine FV.getF (v := 24) dX10_middle_156 sm_0 fl_10_87 rfl rfl hvm_0_51 ?_
    refine EV.iload dX10_middle_159 rfl ?_
    obtain ⟨g37, hf⟩ := pv_gd hf
    refine FV.iald dX10_middle_161 sm_24 g37.1 g37.2 (j := (Int.toNat (v10))) rfl ?_
    refine EV.goto (tgt := 167) dX10_middle_162 (by decide) ?_
    refine EV.weak (L2 := [some (.inr (.inr (0))), some (.inl (a1)), some (.inl (a2)), some (.inl (a3)), some (.inl (a4)), some (.inl (v5)), some (.inl (v6)), some (.inl (s0)), none, some (.inl (v9)), some (.inl (v10))]) (And.intro rfl (And.intro rfl (And.intro rfl (And.intro rfl (And.intro rfl (And.intro rfl (And.intro rfl (And.intro rfl (And.intro rfl (And.intro rfl trivial)))))))))) ?_
    exact tX10_middle_167 hd (hk68) (hk97)   hf

set_option maxHeartbeats 4000000 in
set_option maxRecDepth 20000 in
theorem tX10_middle_129 {d N : Nat} {k68 : Int → Int → Int → Int → Int → pv_H → Option (pv_H × Int)} {k97 : Int → Int → Int → Int → Int → Int → pv_H → Option (pv_H × Int)} {a1 : Int} {a2 : Int} {a3 : Int} {a4 : Int} {v5 : Int} {v6 : Int} {v8 : Int} {v9 : Int} {v10 : Int} {h h' : pv_H} {r : Int} (hd : 6 ≤ d) (hk68 : ∀ (v5 : Int) (v6 : Int) (v7 : Int) (v8 : Int) (v9 : Int)  (hh : pv_H), k68 v5 v6 v7 v8 v9 hh = some (h', r) → EV RX10 cX10_middle 11 (some .int) false d pv_SM (MM h') (some (.inl r)) 68 [some (.inr (.inr (0))), some (.inl (a1)), some (.inl (a2)), some (.inl (a3)), some (.inl (a4)), some (.inl (v5)), some (.inl (v6)), some (.inl (v7)), some (.inl (v8)), some (.inl (v9)), none] [] pv_SM (MM hh)) (hk97 : ∀ (v5 : Int) (v6 : Int) (v7 : Int) (v8 : Int) (v9 : Int) (v10 : Int)  (hh : pv_H), k97 v5 v6 v7 v8 v9 v10 hh = some (h', r) → EV RX10 cX10_middle 11 (some .int) false d pv_SM (MM h') (some (.inl r)) 97 [some (.inr (.inr (0))), some (.inl (a1)), some (.inl (a2)), some (.inl (a3)), some (.inl (a4)), some (.inl (v5)), some (.inl (v6)), some (.inl (v7)), some (.inl (v8)), some (.inl (v9)), some (.inl (v10))] [] pv_SM (MM hh))   (hf : fX10_middle_129 N k68 k97 a1 a2 a3 a4 v5 v6 v8 v9 v10 h = some (h', r)) : EV RX10 cX10_middle 11 (some .int) false d pv_SM (MM h') (some (.inl r)) 129 [some (.inr (.inr (0))), some (.inl (a1)), some (.inl (a2)), some (.inl (a3)), some (.inl (a4)), some (.inl (v5)), some (.inl (v6)), none, some (.inl (v8)), some (.inl (v9)), some (.inl (v10))] [] pv_SM (MM h) := by
  unfold fX10_middle_129 at hf
  refine EV.aload_n dX10_middle_129 rfl rfl ?_
  refine FV.getF (v := 24) dX10_middle_130 sm_0 fl_10_87 rfl rfl hvm_0_51 ?_
  refine EV.iload dX10_middle_133 rfl ?_
  obtain ⟨g34, hf⟩ := pv_gd hf
  refine FV.iald dX10_middle_135 sm_24 g34.1 g34.2 (j := (Int.toNat (v10))) rfl ?_
  refine EV.goto (tgt := 141) dX10_middle_136 (by decide) ?_
  refine EV.weak (L2 := [some (.inr (.inr (0))), some (.inl (a1)), some (.inl (a2)), some (.inl (a3)), some (.inl (a4)), some (.inl (v5)), some (.inl (v6)), none, some (.inl (v8)), some (.inl (v9)), some (.inl (v10))]) (And.intro rfl (And.intro rfl (And.intro rfl (And.intro rfl (And.intro rfl (And.intro rfl (And.intro rfl (And.intro rfl (And.intro rfl (And.intro rfl trivial)))))))))) ?_
  exact tX10_middle_141 hd (hk68) (hk97)   hf

set_option maxHeartbeats 4000000 in
set_option maxRecDepth 20000 in
theorem tX10_middle_97 {d N : Nat} {k68 : Int → Int → Int → Int → Int → pv_H → Option (pv_H × Int)} {a1 : Int} {a2 : Int} {a3 : Int} {a4 : Int} {h' : pv_H} {r : Int} (hd : 6 ≤ d) (hk68 : ∀ (v5 : Int) (v6 : Int) (v7 : Int) (v8 : Int) (v9 : Int)  (hh : pv_H), k68 v5 v6 v7 v8 v9 hh = some (h', r) → EV RX10 cX10_middle 11 (some .int) false d pv_SM (MM h') (some (.inl r)) 68 [some (.inr (.inr (0))), some (.inl (a1)), some (.inl (a2)), some (.inl (a3)), some (.inl (a4)), some (.inl (v5)), some (.inl (v6)), some (.inl (v7)), some (.inl (v8)), some (.inl (v9)), none] [] pv_SM (MM hh))  : ∀ (n : Nat) (v5 : Int) (v6 : Int) (v7 : Int) (v8 : Int) (v9 : Int) (v10 : Int)  (h : pv_H), fX10_middle_97 N k68 a1 a2 a3 a4 n v5 v6 v7 v8 v9 v10 h = some (h', r) → EV RX10 cX10_middle 11 (some .int) false d pv_SM (MM h') (some (.inl r)) 97 [some (.inr (.inr (0))), some (.inl (a1)), some (.inl (a2)), some (.inl (a3)), some (.inl (a4)), some (.inl (v5)), some (.inl (v6)), some (.inl (v7)), some (.inl (v8)), some (.inl (v9)), some (.inl (v10))] [] pv_SM (MM h) := by
  intro n
  induction n with
  | zero =>
    intro v5 v6 v7 v8 v9 v10  h hf
    cases hf
  | succ n ih =>
    intro v5 v6 v7 v8 v9 v10  h hf
    rw [fX10_middle_97] at hf
    refine EV.iload dX10_middle_97 rfl ?_
    refine EV.aload_n dX10_middle_99 rfl rfl ?_
    refine FV.getI dX10_middle_100 sm_0 fl_10_390 rfl ?_
    refine EV.iconst dX10_middle_103 (by decide) (by decide) ?_
    refine EV.isub dX10_middle_104 ?_
    refine EV.icmp_ge (tgt := 175) dX10_middle_105 (by decide) (fun q28 => ?_) (fun q28 => ?_)
    · have hf := pv_gp hf q28
      refine EV.weak (L2 := [some (.inr (.inr (0))), some (.inl (a1)), some (.inl (a2)), some (.inl (a3)), some (.inl (a4)), some (.inl (v5)), some (.inl (v6)), some (.inl (v7)), some (.inl (v8)), some (.inl (v9)), none]) (And.intro rfl (And.intro rfl (And.intro rfl (And.intro rfl (And.intro rfl (And.intro rfl (And.intro rfl (And.intro rfl (And.intro rfl (And.intro rfl trivial)))))))))) ?_
      exact tX10_middle_175 hd (hk68)   hf
    · have hf := pv_gn hf q28
      obtain ⟨x29, ex29, hf⟩ := pv_bo hf
      refine FV.inc (L2 := [some (.inr (.inr (0))), some (.inl (a1)), some (.inl (a2)), some (.inl (a3)), some (.inl (a4)), some (.inl (v5)), some (.inl (x29)), some (.inl (v7)), some (.inl (v8)), some (.inl (v9)), some (.inl (v10))]) dX10_middle_108 rfl (Nat.le_of_ble_eq_true rfl) ex29 rfl ?_
      refine EV.iload dX10_middle_111 rfl ?_
      refine EV.iconst dX10_middle_113 (by decide) (by decide) ?_
      refine EV.icmp_eq (tgt := 129) dX10_middle_114 (by decide) (fun q30 => ?_) (fun q30 => ?_)
      · have hf := pv_gp hf q30
        refine EV.weak (L2 := [some (.inr (.inr (0))), some (.inl (a1)), some (.inl (a2)), some (.inl (a3)), some (.inl (a4)), some (.inl (v5)), some (.inl (x29)), none, some (.inl (v8)), some (.inl (v9)), some (.inl (v10))]) (And.intro rfl (And.intro rfl (And.intro rfl (And.intro rfl (And.intro rfl (And.intro rfl (And.intro rfl (And.intro rfl (And.intro rfl (And.intro rfl trivial)))))))))) ?_
        exact tX10_middle_129 hd (hk68) (ih)   hf
      · have hf := pv_gn hf q30
        refine EV.aload_n dX10_middle_117 rfl rfl ?_
        refine FV.getF (v := 24) dX10_middle_118 sm_0 fl_10_87 rfl rfl hvm_0_51 ?_
        refine EV.iload dX10_middle_121 rfl ?_
        obtain ⟨g31, hf⟩ := pv_gd hf
        refine FV.iald dX10_middle_123 sm_24 g31.1 g31.2 (j := (Int.toNat (v10))) rfl ?_
        refine EV.iload dX10_middle_124 rfl ?_
        refine EV.icmp_ge (tgt := 139) dX10_middle_126 (by decide) (fun q32 => ?_) (fun q32 => ?_)
        · have hf := pv_gp hf q32
          refine EV.iload dX10_middle_139 rfl ?_
          refine EV.weak (L2 := [some (.inr (.inr (0))), some (.inl (a1)), some (.inl (a2)), some (.inl (a3)), some (.inl (a4)), some (.inl (v5)), some (.inl (x29)), none, some (.inl (v8)), some (.inl (v9)), some (.inl (v10))]) (And.intro rfl (And.intro rfl (And.intro rfl (And.intro rfl (And.intro rfl (And.intro rfl (And.intro rfl (And.intro rfl (And.intro rfl (And.intro rfl trivial)))))))))) ?_
          exact tX10_middle_141 hd (hk68) (ih)   hf
        · have hf := pv_gn hf q32
          refine EV.weak (L2 := [some (.inr (.inr (0))), some (.inl (a1)), some (.inl (a2)), some (.inl (a3)), some (.inl (a4)), some (.inl (v5)), some (.inl (x29)), none, some (.inl (v8)), some (.inl (v9)), some (.inl (v10))]) (And.intro rfl (And.intro rfl (And.intro rfl (And.intro rfl (And.intro rfl (And.intro rfl (And.intro rfl (And.intro rfl (And.intro rfl (And.intro rfl trivial)))))))))) ?_
          exact tX10_middle_129 hd (hk68) (ih)   hf

set_option maxHeartbeats 4000000 in
set_option maxRecDepth 20000 in
theorem tX10_middle_68 {d N : Nat}  {a1 : Int} {a2 : Int} {a3 : Int} {a4 : Int} {h' : pv_H} {r : Int} (hd : 6 ≤ d)   : ∀ (n : Nat) (v5 : Int) (v6 : Int) (v7 : Int) (v8 : Int) (v9 : Int)  (h : pv_H), fX10_middle_68 N  a1 a2 a3 a4 n v5 v6 v7 v8 v9 h = some (h', r) → EV RX10 cX10_middle 11 (some .int) false d pv_SM (MM h') (some (.inl r)) 68 [some (.inr (.inr (0))), some (.inl (a1)), some (.inl (a2)), some (.inl (a3)), some (.inl (a4)), some (.inl (v5)), some (.inl (v6)), some (.inl (v7)), some (.inl (v8)), some (.inl (v9)), none] [] pv_SM (MM h) := by
  intro n
  induction n with
  | zero =>
    intro v5 v6 v7 v8 v9  h hf
    cases hf
  | succ n ih =>
    intro v5 v6 v7 v8 v9  h hf
    rw [fX10_middle_68] at hf
    refine EV.iload dX10_middle_68 rfl ?_
    refine EV.iload_n dX10_middle_70 rfl rfl ?_
    refine EV.icmp_gt (tgt := 181) dX10_middle_71 (by decide) (fun q19 => ?_) (fun q19 => ?_)
    · have hf := pv_gp hf q19
      refine EV.iload dX10_middle_181 rfl ?_
      refine EV.if_ne (tgt := 191) dX10_middle_183 (by decide) (fun q20 => ?_) (fun q20 => ?_)
      · have hf := pv_gn hf q20
        refine EV.iload dX10_middle_191 rfl ?_
        refine EV.iconst dX10_middle_193 (by decide) (by decide) ?_
        refine EV.icmp_ne (tgt := 202) dX10_middle_194 (by decide) (fun q21 => ?_) (fun q21 => ?_)
        · have hf := pv_gn hf q21
          refine EV.iload dX10_middle_202 rfl ?_
          refine EV.iconst dX10_middle_204 (by decide) (by decide) ?_
          refine EV.icmp_ne (tgt := 213) dX10_middle_205 (by decide) (fun q22 => ?_) (fun q22 => ?_)
          · have hf := pv_gn hf q22
            refine EV.iload dX10_middle_213 rfl ?_
            refine EV.weak (L2 := [none, none, none, none, none, none, none, none, none, none, none]) trivial ?_
            exact tX10_middle_215 hd    hf
          · have hf := pv_gp hf q22
            refine EV.iload dX10_middle_208 rfl ?_
            refine EV.goto (tgt := 215) dX10_middle_210 (by decide) ?_
            refine EV.weak (L2 := [none, none, none, none, none, none, none, none, none, none, none]) trivial ?_
            exact tX10_middle_215 hd    hf
        · have hf := pv_gp hf q21
          refine EV.iload dX10_middle_197 rfl ?_
          refine EV.goto (tgt := 215) dX10_middle_199 (by decide) ?_
          refine EV.weak (L2 := [none, none, none, none, none, none, none, none, none, none, none]) trivial ?_
          exact tX10_middle_215 hd    hf
      · have hf := pv_gp hf q20
        refine EV.iload dX10_middle_186 rfl ?_
        refine EV.goto (tgt := 215) dX10_middle_188 (by decide) ?_
        refine EV.weak (L2 := [none, none, none, none, none, none, none, none, none, none, none]) trivial ?_
        exact tX10_middle_215 hd    hf
    · have hf := pv_gn hf q19
      refine EV.aload_n dX10_middle_74 rfl rfl ?_
      refine EV.iload_n dX10_middle_75 rfl rfl ?_
      refine EV.iload_n dX10_middle_76 rfl rfl ?_
      refine EV.iload dX10_middle_77 rfl ?_
      refine EV.iconst dX10_middle_79 (by decide) (by decide) ?_
      refine EV.iconst dX10_middle_80 (by decide) (by decide) ?_
      obtain ⟨h24, r25, hc23, hf⟩ := pv_c2o hf
      refine EV.invV (As := [.inl (a1), .inl (a2), .inl (v9), .inl (1), .inl (-1)]) (st := []) (d1 := d - 1) (sh1 := pv_SM) (h1 := MM h24) (r1 := (some (.inl r25))) dX10_middle_81 sm_0 (by decide) md_X10_piecesOf ml_X10_400 im_X10_piecesOf se_X10_piecesOf (tX10_piecesOf (by omega)  hc23) (by omega) rfl rfl (Nat.le_of_ble_eq_true rfl) ⟨[], (List.append_nil _).symm⟩ ?_
      refine EV.eqS (st2 := [.inl (r25)]) rfl ?_
      refine EV.iconst dX10_middle_84 (by decide) (by decide) ?_
      refine EV.icmp_ge (tgt := 91) dX10_middle_85 (by decide) (fun q26 => ?_) (fun q26 => ?_)
      · have hf := pv_gp hf q26
        obtain ⟨x27, ex27, hf⟩ := pv_bo hf
        refine FV.inc (L2 := [some (.inr (.inr (0))), some (.inl (a1)), some (.inl (a2)), some (.inl (a3)), some (.inl (a4)), some (.inl (x27)), some (.inl (v6)), some (.inl (v7)), some (.inl (v8)), some (.inl (v9)), none]) dX10_middle_91 rfl (Nat.le_of_ble_eq_true rfl) ex27 rfl ?_
        refine EV.iconst dX10_middle_94 (by decide) (by decide) ?_
        refine FV.stiw (L2 := [some (.inr (.inr (0))), some (.inl (a1)), some (.inl (a2)), some (.inl (a3)), some (.inl (a4)), some (.inl (x27)), some (.inl (v6)), some (.inl (v7)), some (.inl (v8)), some (.inl (v9)), some (.inl (1))]) dX10_middle_95 (Nat.le_of_ble_eq_true rfl) rfl rfl ?_
        refine EV.weak (L2 := [some (.inr (.inr (0))), some (.inl (a1)), some (.inl (a2)), some (.inl (a3)), some (.inl (a4)), some (.inl (x27)), some (.inl (v6)), some (.inl (v7)), some (.inl (v8)), some (.inl (v9)), some (.inl (1))]) (And.intro rfl (And.intro rfl (And.intro rfl (And.intro rfl (And.intro rfl (And.intro rfl (And.intro rfl (And.intro rfl (And.intro rfl (And.intro rfl (And.intro rfl trivial))))))))))) ?_
        exact tX10_middle_97 hd (ih)  _ _ _ _ _ _ _  _ hf
      · have hf := pv_gn hf q26
        refine EV.goto (tgt := 175) dX10_middle_88 (by decide) ?_
        refine EV.weak (L2 := [some (.inr (.inr (0))), some (.inl (a1)), some (.inl (a2)), some (.inl (a3)), some (.inl (a4)), some (.inl (v5)), some (.inl (v6)), some (.inl (v7)), some (.inl (v8)), some (.inl (v9)), none]) (And.intro rfl (And.intro rfl (And.intro rfl (And.intro rfl (And.intro rfl (And.intro rfl (And.intro rfl (And.intro rfl (And.intro rfl (And.intro rfl trivial)))))))))) ?_
        exact tX10_middle_175 hd (ih)   hf

set_option maxHeartbeats 4000000 in
set_option maxRecDepth 20000 in
theorem tX10_middle {d N : Nat} {a1 : Int} {a2 : Int} {a3 : Int} {a4 : Int} {h h' : pv_H} {r : Int} (hd : 6 ≤ d)  (hf : fX10_middle N a1 a2 a3 a4 h = some (h', r)) : CALL yX10_middle cX10_middle 11 (some .int) d pv_SM (MM h) [.inr (.inr (0)), .inl (a1), .inl (a2), .inl (a3), .inl (a4)] pv_SM (MM h') (some (.inl r)) := by
  unfold fX10_middle at hf
  refine EV.call (own := RX10) (ini := false) rfl rfl (fun q => by cases q) ⟨[], (List.append_nil _).symm⟩ (Nat.le_of_ble_eq_true rfl) ?_
  refine EV.eqL (L2 := [some (.inr (.inr (0))), some (.inl (a1)), some (.inl (a2)), some (.inl (a3)), some (.inl (a4)), none, none, none, none, none, none]) rfl ?_
  refine EV.aload_n dX10_middle_0 rfl rfl ?_
  refine EV.iconst dX10_middle_1 (by decide) (by decide) ?_
  obtain ⟨h1, eh1, hf⟩ := pv_bo hf
  refine FV.putI dX10_middle_2 sm_0 fl_10_1 rfl rfl eh1 ?_
  refine EV.aload_n dX10_middle_5 rfl rfl ?_
  refine EV.iload_n dX10_middle_6 rfl rfl ?_
  refine EV.iload_n dX10_middle_7 rfl rfl ?_
  obtain ⟨r3, hc2, hf⟩ := pv_c1o hf
  refine EV.invV (As := [.inl (a1), .inl (a2)]) (st := []) (d1 := d - 1) (sh1 := pv_SM) (h1 := MM h1) (r1 := (some (.inl r3))) dX10_middle_8 sm_0 (by decide) md_X10_isBoth ml_X10_396 im_X10_isBoth se_X10_isBoth (tX10_isBoth (by omega)  hc2) (by omega) rfl rfl (Nat.le_of_ble_eq_true rfl) ⟨[], (List.append_nil _).symm⟩ ?_
  refine EV.eqS (st2 := [.inl (r3)]) rfl ?_
  refine EV.if_eq (tgt := 27) dX10_middle_11 (by decide) (fun q4 => ?_) (fun q4 => ?_)
  · have hf := pv_gp hf q4
    refine EV.weak (L2 := [some (.inr (.inr (0))), none, none, none, none, none, none, none, none, none, none]) (And.intro rfl trivial) ?_
    exact tX10_middle_27 hd    hf
  · have hf := pv_gn hf q4
    refine EV.iload dX10_middle_14 rfl ?_
    refine EV.i2l dX10_middle_16 ?_
    refine EV.lconst (x := 0) dX10_middle_17 (by decide) (by decide) (by decide) ?_
    refine EV.ldc2 (n := 3) dX10_middle_18 kl_X10_250 (by decide) (by decide) ?_
    obtain ⟨r6, hc5, hf⟩ := pv_c1o hf
    refine EV.invS (As := [.inr (.inl (a4)), .inr (.inl (0)), .inr (.inl (3))]) (st := []) (d1 := d - 1) (sh1 := pv_SM) (h1 := MM h1) (r1 := (some (.inl r6))) dX10_middle_21 md_X10_within ml_X10_193 st_X10_within (tX10_within (by omega)  hc5) (by omega) rfl rfl (Nat.le_of_ble_eq_true rfl) ⟨[], (List.append_nil _).symm⟩ ?_
    refine EV.eqS (st2 := [.inl (r6)]) rfl ?_
    refine EV.if_ne (tgt := 34) dX10_middle_24 (by decide) (fun q7 => ?_) (fun q7 => ?_)
    · have hf := pv_gn hf q7
      refine EV.iload_n dX10_middle_34 rfl rfl ?_
      refine EV.i2l dX10_middle_35 ?_
      refine EV.lconst (x := 1) dX10_middle_36 (by decide) (by decide) (by decide) ?_
      refine EV.ldc2 (n := 100) dX10_middle_37 kl_X10_323 (by decide) (by decide) ?_
      obtain ⟨r9, hc8, hf⟩ := pv_c1o hf
      refine EV.invS (As := [.inr (.inl (a3)), .inr (.inl (1)), .inr (.inl (100))]) (st := []) (d1 := d - 1) (sh1 := pv_SM) (h1 := MM h1) (r1 := (some (.inl r9))) dX10_middle_40 md_X10_within ml_X10_193 st_X10_within (tX10_within (by omega)  hc8) (by omega) rfl rfl (Nat.le_of_ble_eq_true rfl) ⟨[], (List.append_nil _).symm⟩ ?_
      refine EV.eqS (st2 := [.inl (r9)]) rfl ?_
      refine EV.if_ne (tgt := 53) dX10_middle_43 (by decide) (fun q10 => ?_) (fun q10 => ?_)
      · have hf := pv_gn hf q10
        refine EV.iconst dX10_middle_53 (by decide) (by decide) ?_
        refine FV.stiw (L2 := [some (.inr (.inr (0))), some (.inl (a1)), some (.inl (a2)), some (.inl (a3)), some (.inl (a4)), some (.inl (0)), none, none, none, none, none]) dX10_middle_54 (Nat.le_of_ble_eq_true rfl) rfl rfl ?_
        refine EV.iconst dX10_middle_56 (by decide) (by decide) ?_
        refine FV.stiw (L2 := [some (.inr (.inr (0))), some (.inl (a1)), some (.inl (a2)), some (.inl (a3)), some (.inl (a4)), some (.inl (0)), some (.inl (0)), none, none, none, none]) dX10_middle_57 (Nat.le_of_ble_eq_true rfl) rfl rfl ?_
        refine EV.iconst dX10_middle_59 (by decide) (by decide) ?_
        obtain ⟨x11, ex11, hf⟩ := pv_bo hf
        refine FV.stiw (L2 := [some (.inr (.inr (0))), some (.inl (a1)), some (.inl (a2)), some (.inl (a3)), some (.inl (a4)), some (.inl (0)), some (.inl (0)), some (.inl (x11)), none, none, none]) dX10_middle_60 (Nat.le_of_ble_eq_true rfl) ex11 rfl ?_
        refine EV.iconst dX10_middle_62 (by decide) (by decide) ?_
        obtain ⟨x12, ex12, hf⟩ := pv_bo hf
        refine FV.stiw (L2 := [some (.inr (.inr (0))), some (.inl (a1)), some (.inl (a2)), some (.inl (a3)), some (.inl (a4)), some (.inl (0)), some (.inl (0)), some (.inl (x11)), some (.inl (x12)), none, none]) dX10_middle_63 (Nat.le_of_ble_eq_true rfl) ex12 rfl ?_
        refine EV.iconst dX10_middle_65 (by decide) (by decide) ?_
        refine FV.stiw (L2 := [some (.inr (.inr (0))), some (.inl (a1)), some (.inl (a2)), some (.inl (a3)), some (.inl (a4)), some (.inl (0)), some (.inl (0)), some (.inl (x11)), some (.inl (x12)), some (.inl (1)), none]) dX10_middle_66 (Nat.le_of_ble_eq_true rfl) rfl rfl ?_
        refine EV.weak (L2 := [some (.inr (.inr (0))), some (.inl (a1)), some (.inl (a2)), some (.inl (a3)), some (.inl (a4)), some (.inl (0)), some (.inl (0)), some (.inl (x11)), some (.inl (x12)), some (.inl (1)), none]) (And.intro rfl (And.intro rfl (And.intro rfl (And.intro rfl (And.intro rfl (And.intro rfl (And.intro rfl (And.intro rfl (And.intro rfl (And.intro rfl trivial)))))))))) ?_
        exact tX10_middle_68 hd   _ _ _ _ _ _  _ hf
      · have hf := pv_gp hf q10
        refine EV.aload_n dX10_middle_46 rfl rfl ?_
        refine EV.bipush dX10_middle_47 (by decide) (by decide) ?_
        obtain ⟨h14, r15, hc13, hf⟩ := pv_c2o hf
        refine EV.invV (As := [.inl (-3)]) (st := []) (d1 := d - 1) (sh1 := pv_SM) (h1 := MM h14) (r1 := (some (.inl r15))) dX10_middle_49 sm_0 (by decide) md_X10_no ml_X10_131 im_X10_no se_X10_no (tX10_no (by omega)  hc13) (by omega) rfl rfl (Nat.le_of_ble_eq_true rfl) ⟨[], (List.append_nil _).symm⟩ ?_
        refine EV.eqS (st2 := [.inl (r15)]) rfl ?_
        exact FV.iret dX10_middle_52 hf
    · have hf := pv_gp hf q7
      refine EV.weak (L2 := [some (.inr (.inr (0))), none, none, none, none, none, none, none, none, none, none]) (And.intro rfl trivial) ?_
      exact tX10_middle_27 hd    hf

noncomputable def fX10_isFilmed_46 (N : Nat)  (a1 : Int) : Nat → Int → Int → pv_H → Option (Int)
  | 0, _, _, _ => none
  | n + 1, v2, v3, h => if v2 ≤ v3 then (some (1)) else (if 0 ≤ pv_w ((pv_w (60 * a1)) + v3) ∧ pv_w ((pv_w (60 * a1)) + v3) < 240 then (if 0 ≤ v3 ∧ v3 < 60 then (if (pv_cmp (h 35 (Int.toNat (pv_w ((pv_w (60 * a1)) + v3)))) (h 21 (Int.toNat (v3)))) = 0 then (pv_b (pv_w (v3 + 1)) fun x11 => fX10_isFilmed_46 N  a1 n (v2) (x11) h) else (some (0))) else none) else none)

noncomputable def fX10_isFilmed_34 (N : Nat)  (a1 : Int) (v2 : Int) (h : pv_H) : Option (Int) :=
  if v2 = (h 0 38) then (fX10_isFilmed_46 N  a1 N (v2) (0) h) else (some (0))

noncomputable def fX10_isFilmed_2 (N : Nat)  (a1 : Int) : Nat → Int → pv_H → Option (Int)
  | 0, _, _ => none
  | n + 1, v2, h => if 0 ≤ a1 ∧ a1 < 4 then (if (h 34 (Int.toNat (a1))) ≤ v2 then (fX10_isFilmed_34 N  a1 (v2) h) else (if 0 ≤ pv_w ((pv_w (60 * a1)) + v2) ∧ pv_w ((pv_w (60 * a1)) + v2) < 240 then (if (pv_cmp (h 35 (Int.toNat (pv_w ((pv_w (60 * a1)) + v2)))) 0) < 0 then (fX10_isFilmed_34 N  a1 (v2) h) else (pv_b (pv_w (v2 + 1)) fun x5 => fX10_isFilmed_2 N  a1 n (x5) h)) else none)) else none

noncomputable def fX10_isFilmed (N : Nat) (a1 : Int) (h : pv_H) : Option (Int) :=
  fX10_isFilmed_2 N  a1 N (0) h

set_option maxHeartbeats 4000000 in
set_option maxRecDepth 20000 in
theorem tX10_isFilmed_46 {d N : Nat}  {a1 : Int} {h : pv_H} {r : Int} (hd : 1 ≤ d)   : ∀ (n : Nat) (v2 : Int) (v3 : Int) , fX10_isFilmed_46 N  a1 n v2 v3 h = some r → EV RX10 cX10_isFilmed 4 (some .boolean) false d pv_SM (MM h) (some (.inl r)) 46 [some (.inr (.inr (0))), some (.inl (a1)), some (.inl (v2)), some (.inl (v3))] [] pv_SM (MM h) := by
  intro n
  induction n with
  | zero =>
    intro v2 v3   hf
    cases hf
  | succ n ih =>
    intro v2 v3   hf
    rw [fX10_isFilmed_46] at hf
    refine EV.iload_n dX10_isFilmed_46 rfl rfl ?_
    refine EV.iload_n dX10_isFilmed_47 rfl rfl ?_
    refine EV.icmp_ge (tgt := 81) dX10_isFilmed_48 (by decide) (fun q7 => ?_) (fun q7 => ?_)
    · have hf := pv_gp hf q7
      refine EV.iconst dX10_isFilmed_81 (by decide) (by decide) ?_
      exact FV.zretp dX10_isFilmed_82 (by decide) hf
    · have hf := pv_gn hf q7
      refine EV.aload_n dX10_isFilmed_51 rfl rfl ?_
      refine FV.getF (v := 35) dX10_isFilmed_52 sm_0 fl_10_120 rfl rfl hvm_0_65 ?_
      refine EV.bipush dX10_isFilmed_55 (by decide) (by decide) ?_
      refine EV.iload_n dX10_isFilmed_57 rfl rfl ?_
      refine EV.imul dX10_isFilmed_58 ?_
      refine EV.iload_n dX10_isFilmed_59 rfl rfl ?_
      refine EV.iadd dX10_isFilmed_60 ?_
      obtain ⟨g8, hf⟩ := pv_gd hf
      refine FV.lald dX10_isFilmed_61 sm_35 g8.1 g8.2 (j := (Int.toNat (pv_w ((pv_w (60 * a1)) + v3)))) rfl ?_
      refine EV.aload_n dX10_isFilmed_62 rfl rfl ?_
      refine FV.getF (v := 21) dX10_isFilmed_63 sm_0 fl_10_78 rfl rfl hvm_0_48 ?_
      refine EV.iload_n dX10_isFilmed_66 rfl rfl ?_
      obtain ⟨g9, hf⟩ := pv_gd hf
      refine FV.iald dX10_isFilmed_67 sm_21 g9.1 g9.2 (j := (Int.toNat (v3))) rfl ?_
      refine EV.i2l dX10_isFilmed_68 ?_
      refine EV.lcmp dX10_isFilmed_69 ?_
      refine EV.if_eq (tgt := 75) dX10_isFilmed_70 (by decide) (fun q10 => ?_) (fun q10 => ?_)
      · have hf := pv_gp hf q10
        obtain ⟨x11, ex11, hf⟩ := pv_bo hf
        refine FV.inc (L2 := [some (.inr (.inr (0))), some (.inl (a1)), some (.inl (v2)), some (.inl (x11))]) dX10_isFilmed_75 rfl (Nat.le_of_ble_eq_true rfl) ex11 rfl ?_
        refine EV.goto (tgt := 46) dX10_isFilmed_78 (by decide) ?_
        refine EV.weak (L2 := [some (.inr (.inr (0))), some (.inl (a1)), some (.inl (v2)), some (.inl (x11))]) (And.intro rfl (And.intro rfl (And.intro rfl (And.intro rfl trivial)))) ?_
        exact ih _ _   hf
      · have hf := pv_gn hf q10
        refine EV.iconst dX10_isFilmed_73 (by decide) (by decide) ?_
        exact FV.zretp dX10_isFilmed_74 (by decide) hf

set_option maxHeartbeats 4000000 in
set_option maxRecDepth 20000 in
theorem tX10_isFilmed_34 {d N : Nat}  {a1 : Int} {v2 : Int} {h : pv_H} {r : Int} (hd : 1 ≤ d)    (hf : fX10_isFilmed_34 N  a1 v2 h = some r) : EV RX10 cX10_isFilmed 4 (some .boolean) false d pv_SM (MM h) (some (.inl r)) 34 [some (.inr (.inr (0))), some (.inl (a1)), some (.inl (v2)), none] [] pv_SM (MM h) := by
  unfold fX10_isFilmed_34 at hf
  refine EV.iload_n dX10_isFilmed_34 rfl rfl ?_
  refine EV.aload_n dX10_isFilmed_35 rfl rfl ?_
  refine FV.getI dX10_isFilmed_36 sm_0 fl_10_328 rfl ?_
  refine EV.icmp_eq (tgt := 44) dX10_isFilmed_39 (by decide) (fun q6 => ?_) (fun q6 => ?_)
  · have hf := pv_gp hf q6
    refine EV.iconst dX10_isFilmed_44 (by decide) (by decide) ?_
    refine FV.sti (L2 := [some (.inr (.inr (0))), some (.inl (a1)), some (.inl (v2)), some (.inl (0))]) dX10_isFilmed_45 rfl (Nat.le_of_ble_eq_true rfl) rfl rfl ?_
    refine EV.weak (L2 := [some (.inr (.inr (0))), some (.inl (a1)), some (.inl (v2)), some (.inl (0))]) (And.intro rfl (And.intro rfl (And.intro rfl (And.intro rfl trivial)))) ?_
    exact tX10_isFilmed_46 hd   _ _ _   hf
  · have hf := pv_gn hf q6
    refine EV.iconst dX10_isFilmed_42 (by decide) (by decide) ?_
    exact FV.zretp dX10_isFilmed_43 (by decide) hf

set_option maxHeartbeats 4000000 in
set_option maxRecDepth 20000 in
theorem tX10_isFilmed_2 {d N : Nat}  {a1 : Int} {h : pv_H} {r : Int} (hd : 1 ≤ d)   : ∀ (n : Nat) (v2 : Int) , fX10_isFilmed_2 N  a1 n v2 h = some r → EV RX10 cX10_isFilmed 4 (some .boolean) false d pv_SM (MM h) (some (.inl r)) 2 [some (.inr (.inr (0))), some (.inl (a1)), some (.inl (v2)), none] [] pv_SM (MM h) := by
  intro n
  induction n with
  | zero =>
    intro v2   hf
    cases hf
  | succ n ih =>
    intro v2   hf
    rw [fX10_isFilmed_2] at hf
    refine EV.iload_n dX10_isFilmed_2 rfl rfl ?_
    refine EV.aload_n dX10_isFilmed_3 rfl rfl ?_
    refine FV.getF (v := 34) dX10_isFilmed_4 sm_0 fl_10_117 rfl rfl hvm_0_64 ?_
    refine EV.iload_n dX10_isFilmed_7 rfl rfl ?_
    obtain ⟨g1, hf⟩ := pv_gd hf
    refine FV.iald dX10_isFilmed_8 sm_34 g1.1 g1.2 (j := (Int.toNat (a1))) rfl ?_
    refine EV.icmp_ge (tgt := 34) dX10_isFilmed_9 (by decide) (fun q2 => ?_) (fun q2 => ?_)
    · have hf := pv_gp hf q2
      refine EV.weak (L2 := [some (.inr (.inr (0))), some (.inl (a1)), some (.inl (v2)), none]) (And.intro rfl (And.intro rfl (And.intro rfl trivial))) ?_
      exact tX10_isFilmed_34 hd    hf
    · have hf := pv_gn hf q2
      refine EV.aload_n dX10_isFilmed_12 rfl rfl ?_
      refine FV.getF (v := 35) dX10_isFilmed_13 sm_0 fl_10_120 rfl rfl hvm_0_65 ?_
      refine EV.bipush dX10_isFilmed_16 (by decide) (by decide) ?_
      refine EV.iload_n dX10_isFilmed_18 rfl rfl ?_
      refine EV.imul dX10_isFilmed_19 ?_
      refine EV.iload_n dX10_isFilmed_20 rfl rfl ?_
      refine EV.iadd dX10_isFilmed_21 ?_
      obtain ⟨g3, hf⟩ := pv_gd hf
      refine FV.lald dX10_isFilmed_22 sm_35 g3.1 g3.2 (j := (Int.toNat (pv_w ((pv_w (60 * a1)) + v2)))) rfl ?_
      refine EV.lconst (x := 0) dX10_isFilmed_23 (by decide) (by decide) (by decide) ?_
      refine EV.lcmp dX10_isFilmed_24 ?_
      refine EV.if_lt (tgt := 34) dX10_isFilmed_25 (by decide) (fun q4 => ?_) (fun q4 => ?_)
      · have hf := pv_gp hf q4
        refine EV.weak (L2 := [some (.inr (.inr (0))), some (.inl (a1)), some (.inl (v2)), none]) (And.intro rfl (And.intro rfl (And.intro rfl trivial))) ?_
        exact tX10_isFilmed_34 hd    hf
      · have hf := pv_gn hf q4
        obtain ⟨x5, ex5, hf⟩ := pv_bo hf
        refine FV.inc (L2 := [some (.inr (.inr (0))), some (.inl (a1)), some (.inl (x5)), none]) dX10_isFilmed_28 rfl (Nat.le_of_ble_eq_true rfl) ex5 rfl ?_
        refine EV.goto (tgt := 2) dX10_isFilmed_31 (by decide) ?_
        refine EV.weak (L2 := [some (.inr (.inr (0))), some (.inl (a1)), some (.inl (x5)), none]) (And.intro rfl (And.intro rfl (And.intro rfl trivial))) ?_
        exact ih _   hf

set_option maxHeartbeats 4000000 in
set_option maxRecDepth 20000 in
theorem tX10_isFilmed {d N : Nat} {a1 : Int} {h : pv_H} {r : Int} (hd : 1 ≤ d)  (hf : fX10_isFilmed N a1 h = some r) : CALL yX10_isFilmed cX10_isFilmed 4 (some .boolean) d pv_SM (MM h) [.inr (.inr (0)), .inl (a1)] pv_SM (MM h) (some (.inl r)) := by
  unfold fX10_isFilmed at hf
  refine EV.call (own := RX10) (ini := false) rfl rfl (fun q => by cases q) ⟨[], (List.append_nil _).symm⟩ (Nat.le_of_ble_eq_true rfl) ?_
  refine EV.eqL (L2 := [some (.inr (.inr (0))), some (.inl (a1)), none, none]) rfl ?_
  refine EV.iconst dX10_isFilmed_0 (by decide) (by decide) ?_
  refine FV.sti (L2 := [some (.inr (.inr (0))), some (.inl (a1)), some (.inl (0)), none]) dX10_isFilmed_1 rfl (Nat.le_of_ble_eq_true rfl) rfl rfl ?_
  refine EV.weak (L2 := [some (.inr (.inr (0))), some (.inl (a1)), some (.inl (0)), none]) (And.intro rfl (And.intro rfl (And.intro rfl trivial))) ?_
  exact tX10_isFilmed_2 hd   _ _   hf

noncomputable def fX10_filmed_37 (N : Nat)  (a1 : Int) (a2 : Int) (a3 : Int) (a4 : Int) (a5 : Int)  (h : pv_H) : Option (pv_H × Int) :=
  pv_c2b (fX10_no N (-2) h) fun h24 r25 => some (h24, r25)

noncomputable def fX10_filmed_155 (N : Nat)  (a1 : Int) (a2 : Int) (a3 : Int) (a4 : Int) (a5 : Int) (s0 : Int) (h : pv_H) : Option (pv_H × Int) :=
  some (h, s0)

noncomputable def fX10_filmed_137 (N : Nat) (k90 : Int → Int → Int → pv_H → Option (pv_H × Int)) (a1 : Int) (a2 : Int) (a3 : Int) (a4 : Int) (a5 : Int) (v6 : Int) (v7 : Int) (v8 : Int) (h : pv_H) : Option (pv_H × Int) :=
  pv_b (pv_w (v8 + 1)) fun x36 => k90 (v6) (v7) (x36) h

noncomputable def fX10_filmed_135 (N : Nat) (k90 : Int → Int → Int → pv_H → Option (pv_H × Int)) (a1 : Int) (a2 : Int) (a3 : Int) (a4 : Int) (a5 : Int) (v6 : Int) (v8 : Int) (s0 : Int) (h : pv_H) : Option (pv_H × Int) :=
  fX10_filmed_137 N (k90) a1 a2 a3 a4 a5 (v6) (s0) (v8) h

noncomputable def fX10_filmed_90 (N : Nat)  (a1 : Int) (a2 : Int) (a3 : Int) (a4 : Int) (a5 : Int) : Nat → Int → Int → Int → pv_H → Option (pv_H × Int)
  | 0, _, _, _, _ => none
  | n + 1, v6, v7, v8, h => if a4 < v8 then (if a5 = 0 then (fX10_filmed_155 N  a1 a2 a3 a4 a5 (v6) h) else (fX10_filmed_155 N  a1 a2 a3 a4 a5 (v7) h)) else (pv_c2b (fX10_piecesOf N a1 a2 v8 1 (-1) h) fun h29 r30 => pv_c1 (fX10_isFilmed N a3 h29) fun r32 => if r32 = 0 then (fX10_filmed_137 N (fun v6_ v7_ v8_ hh => fX10_filmed_90 N  a1 a2 a3 a4 a5 n v6_ v7_ v8_ hh) a1 a2 a3 a4 a5 (v6) (v7) (v8) h29) else (pv_b (pv_w (v6 + 1)) fun x34 => if v7 = (-1) then (fX10_filmed_135 N (fun v6_ v7_ v8_ hh => fX10_filmed_90 N  a1 a2 a3 a4 a5 n v6_ v7_ v8_ hh) a1 a2 a3 a4 a5 (x34) (v8) (v8) h29) else (fX10_filmed_135 N (fun v6_ v7_ v8_ hh => fX10_filmed_90 N  a1 a2 a3 a4 a5 n v6_ v7_ v8_ hh) a1 a2 a3 a4 a5 (x34) (v8) (v7) h29)))

noncomputable def fX10_filmed (N : Nat) (a1 : Int) (a2 : Int) (a3 : Int) (a4 : Int) (a5 : Int) (h : pv_H) : Option (pv_H × Int) :=
  pv_b (pv_up h 0 0 0) fun h1 => pv_c1 (fX10_isBoth N a1 a2 h1) fun r3 => if r3 = 0 then (fX10_filmed_37 N  a1 a2 a3 a4 a5  h1) else (pv_c1 (fX10_within N a3 0 3 h1) fun r6 => if r6 = 0 then (fX10_filmed_37 N  a1 a2 a3 a4 a5  h1) else (pv_c1 (fX10_within N a5 0 1 h1) fun r9 => if r9 = 0 then (fX10_filmed_37 N  a1 a2 a3 a4 a5  h1) else (pv_c1 (fX10_within N a4 1 100 h1) fun r12 => if r12 = 0 then (pv_c2b (fX10_no N (-3) h1) fun h21 r22 => some (h21, r22)) else (if 0 ≤ a3 ∧ a3 < 4 then (if (h1 33 (Int.toNat (a3))) = (-1) then (pv_c2b (fX10_no N (-6) h1) fun h18 r19 => some (h18, r19)) else (pv_b (-1) fun x16 => fX10_filmed_90 N  a1 a2 a3 a4 a5 N (0) (x16) (1) h1)) else none))))

set_option maxHeartbeats 4000000 in
set_option maxRecDepth 20000 in
theorem tX10_filmed_37 {d N : Nat}  {a1 : Int} {a2 : Int} {a3 : Int} {a4 : Int} {a5 : Int}  {h h' : pv_H} {r : Int} (hd : 6 ≤ d)    (hf : fX10_filmed_37 N  a1 a2 a3 a4 a5  h = some (h', r)) : EV RX10 cX10_filmed 9 (some .int) false d pv_SM (MM h') (some (.inl r)) 37 [some (.inr (.inr (0))), none, none, none, none, none, none, none, none] [] pv_SM (MM h) := by
  unfold fX10_filmed_37 at hf
  refine EV.aload_n dX10_filmed_37 rfl rfl ?_
  refine EV.bipush dX10_filmed_38 (by decide) (by decide) ?_
  obtain ⟨h24, r25, hc23, hf⟩ := pv_c2o hf
  refine EV.invV (As := [.inl (-2)]) (st := []) (d1 := d - 1) (sh1 := pv_SM) (h1 := MM h24) (r1 := (some (.inl r25))) dX10_filmed_40 sm_0 (by decide) md_X10_no ml_X10_131 im_X10_no se_X10_no (tX10_no (by omega)  hc23) (by omega) rfl rfl (Nat.le_of_ble_eq_true rfl) ⟨[], (List.append_nil _).symm⟩ ?_
  refine EV.eqS (st2 := [.inl (r25)]) rfl ?_
  exact FV.iret dX10_filmed_43 hf

set_option maxHeartbeats 4000000 in
set_option maxRecDepth 20000 in
theorem tX10_filmed_155 {d N : Nat}  {a1 : Int} {a2 : Int} {a3 : Int} {a4 : Int} {a5 : Int} {s0 : Int} {h h' : pv_H} {r : Int} (hd : 6 ≤ d)    (hf : fX10_filmed_155 N  a1 a2 a3 a4 a5 s0 h = some (h', r)) : EV RX10 cX10_filmed 9 (some .int) false d pv_SM (MM h') (some (.inl r)) 155 [none, none, none, none, none, none, none, none, none] [.inl (s0)] pv_SM (MM h) := by
  unfold fX10_filmed_155 at hf
  exact FV.iret dX10_filmed_155 hf

set_option maxHeartbeats 4000000 in
set_option maxRecDepth 20000 in
theorem tX10_filmed_137 {d N : Nat} {k90 : Int → Int → Int → pv_H → Option (pv_H × Int)} {a1 : Int} {a2 : Int} {a3 : Int} {a4 : Int} {a5 : Int} {v6 : Int} {v7 : Int} {v8 : Int} {h h' : pv_H} {r : Int} (hd : 6 ≤ d) (hk90 : ∀ (v6 : Int) (v7 : Int) (v8 : Int)  (hh : pv_H), k90 v6 v7 v8 hh = some (h', r) → EV RX10 cX10_filmed 9 (some .int) false d pv_SM (MM h') (some (.inl r)) 90 [some (.inr (.inr (0))), some (.inl (a1)), some (.inl (a2)), some (.inl (a3)), some (.inl (a4)), some (.inl (a5)), some (.inl (v6)), some (.inl (v7)), some (.inl (v8))] [] pv_SM (MM hh))   (hf : fX10_filmed_137 N k90 a1 a2 a3 a4 a5 v6 v7 v8 h = some (h', r)) : EV RX10 cX10_filmed 9 (some .int) false d pv_SM (MM h') (some (.inl r)) 137 [some (.inr (.inr (0))), some (.inl (a1)), some (.inl (a2)), some (.inl (a3)), some (.inl (a4)), some (.inl (a5)), some (.inl (v6)), some (.inl (v7)), some (.inl (v8))] [] pv_SM (MM h) := by
  unfold fX10_filmed_137 at hf
  obtain ⟨x36, ex36, hf⟩ := pv_bo hf
  refine FV.inc (L2 := [some (.inr (.inr (0))), some (.inl (a1)), some (.inl (a2)), some (.inl (a3)), some (.inl (a4)), some (.inl (a5)), some (.inl (v6)), some (.inl (v7)), some (.inl (x36))]) dX10_filmed_137 rfl (Nat.le_of_ble_eq_true rfl) ex36 rfl ?_
  refine EV.goto (tgt := 90) dX10_filmed_140 (by decide) ?_
  refine EV.weak (L2 := [some (.inr (.inr (0))), some (.inl (a1)), some (.inl (a2)), some (.inl (a3)), some (.inl (a4)), some (.inl (a5)), some (.inl (v6)), some (.inl (v7)), some (.inl (x36))]) (And.intro rfl (And.intro rfl (And.intro rfl (And.intro rfl (And.intro rfl (And.intro rfl (And.intro rfl (And.intro rfl (And.intro rfl trivial))))))))) ?_
  exact hk90 _ _ _  _ hf

set_option maxHeartbeats 4000000 in
set_option maxRecDepth 20000 in
theorem tX10_filmed_135 {d N : Nat} {k90 : Int → Int → Int → pv_H → Option (pv_H × Int)} {a1 : Int} {a2 : Int} {a3 : Int} {a4 : Int} {a5 : Int} {v6 : Int} {v8 : Int} {s0 : Int} {h h' : pv_H} {r : Int} (hd : 6 ≤ d) (hk90 : ∀ (v6 : Int) (v7 : Int) (v8 : Int)  (hh : pv_H), k90 v6 v7 v8 hh = some (h', r) → EV RX10 cX10_filmed 9 (some .int) false d pv_SM (MM h') (some (.inl r)) 90 [some (.inr (.inr (0))), some (.inl (a1)), some (.inl (a2)), some (.inl (a3)), some (.inl (a4)), some (.inl (a5)), some (.inl (v6)), some (.inl (v7)), some (.inl (v8))] [] pv_SM (MM hh))   (hf : fX10_filmed_135 N k90 a1 a2 a3 a4 a5 v6 v8 s0 h = some (h', r)) : EV RX10 cX10_filmed 9 (some .int) false d pv_SM (MM h') (some (.inl r)) 135 [some (.inr (.inr (0))), some (.inl (a1)), some (.inl (a2)), some (.inl (a3)), some (.inl (a4)), some (.inl (a5)), some (.inl (v6)), none, some (.inl (v8))] [.inl (s0)] pv_SM (MM h) := by
  unfold fX10_filmed_135 at hf
  refine FV.stiw (L2 := [some (.inr (.inr (0))), some (.inl (a1)), some (.inl (a2)), some (.inl (a3)), some (.inl (a4)), some (.inl (a5)), some (.inl (v6)), some (.inl (s0)), some (.inl (v8))]) dX10_filmed_135 (Nat.le_of_ble_eq_true rfl) rfl rfl ?_
  refine EV.weak (L2 := [some (.inr (.inr (0))), some (.inl (a1)), some (.inl (a2)), some (.inl (a3)), some (.inl (a4)), some (.inl (a5)), some (.inl (v6)), some (.inl (s0)), some (.inl (v8))]) (And.intro rfl (And.intro rfl (And.intro rfl (And.intro rfl (And.intro rfl (And.intro rfl (And.intro rfl (And.intro rfl (And.intro rfl trivial))))))))) ?_
  exact tX10_filmed_137 hd (hk90)   hf

set_option maxHeartbeats 4000000 in
set_option maxRecDepth 20000 in
theorem tX10_filmed_90 {d N : Nat}  {a1 : Int} {a2 : Int} {a3 : Int} {a4 : Int} {a5 : Int} {h' : pv_H} {r : Int} (hd : 6 ≤ d)   : ∀ (n : Nat) (v6 : Int) (v7 : Int) (v8 : Int)  (h : pv_H), fX10_filmed_90 N  a1 a2 a3 a4 a5 n v6 v7 v8 h = some (h', r) → EV RX10 cX10_filmed 9 (some .int) false d pv_SM (MM h') (some (.inl r)) 90 [some (.inr (.inr (0))), some (.inl (a1)), some (.inl (a2)), some (.inl (a3)), some (.inl (a4)), some (.inl (a5)), some (.inl (v6)), some (.inl (v7)), some (.inl (v8))] [] pv_SM (MM h) := by
  intro n
  induction n with
  | zero =>
    intro v6 v7 v8  h hf
    cases hf
  | succ n ih =>
    intro v6 v7 v8  h hf
    rw [fX10_filmed_90] at hf
    refine EV.iload dX10_filmed_90 rfl ?_
    refine EV.iload dX10_filmed_92 rfl ?_
    refine EV.icmp_gt (tgt := 143) dX10_filmed_94 (by decide) (fun q26 => ?_) (fun q26 => ?_)
    · have hf := pv_gp hf q26
      refine EV.iload dX10_filmed_143 rfl ?_
      refine EV.if_ne (tgt := 153) dX10_filmed_145 (by decide) (fun q27 => ?_) (fun q27 => ?_)
      · have hf := pv_gn hf q27
        refine EV.iload dX10_filmed_153 rfl ?_
        refine EV.weak (L2 := [none, none, none, none, none, none, none, none, none]) trivial ?_
        exact tX10_filmed_155 hd    hf
      · have hf := pv_gp hf q27
        refine EV.iload dX10_filmed_148 rfl ?_
        refine EV.goto (tgt := 155) dX10_filmed_150 (by decide) ?_
        refine EV.weak (L2 := [none, none, none, none, none, none, none, none, none]) trivial ?_
        exact tX10_filmed_155 hd    hf
    · have hf := pv_gn hf q26
      refine EV.aload_n dX10_filmed_97 rfl rfl ?_
      refine EV.iload_n dX10_filmed_98 rfl rfl ?_
      refine EV.iload_n dX10_filmed_99 rfl rfl ?_
      refine EV.iload dX10_filmed_100 rfl ?_
      refine EV.iconst dX10_filmed_102 (by decide) (by decide) ?_
      refine EV.iconst dX10_filmed_103 (by decide) (by decide) ?_
      obtain ⟨h29, r30, hc28, hf⟩ := pv_c2o hf
      refine EV.invV (As := [.inl (a1), .inl (a2), .inl (v8), .inl (1), .inl (-1)]) (st := []) (d1 := d - 1) (sh1 := pv_SM) (h1 := MM h29) (r1 := (some (.inl r30))) dX10_filmed_104 sm_0 (by decide) md_X10_piecesOf ml_X10_400 im_X10_piecesOf se_X10_piecesOf (tX10_piecesOf (by omega)  hc28) (by omega) rfl rfl (Nat.le_of_ble_eq_true rfl) ⟨[], (List.append_nil _).symm⟩ ?_
      refine EV.eqS (st2 := [.inl (r30)]) rfl ?_
      refine EV.pop dX10_filmed_107 rfl ?_
      refine EV.aload_n dX10_filmed_108 rfl rfl ?_
      refine EV.iload_n dX10_filmed_109 rfl rfl ?_
      obtain ⟨r32, hc31, hf⟩ := pv_c1o hf
      refine EV.invV (As := [.inl (a3)]) (st := []) (d1 := d - 1) (sh1 := pv_SM) (h1 := MM h29) (r1 := (some (.inl r32))) dX10_filmed_110 sm_0 (by decide) md_X10_isFilmed ml_X10_452 im_X10_isFilmed se_X10_isFilmed (tX10_isFilmed (by omega)  hc31) (by omega) rfl rfl (Nat.le_of_ble_eq_true rfl) ⟨[], (List.append_nil _).symm⟩ ?_
      refine EV.eqS (st2 := [.inl (r32)]) rfl ?_
      refine EV.if_ne (tgt := 119) dX10_filmed_113 (by decide) (fun q33 => ?_) (fun q33 => ?_)
      · have hf := pv_gn hf q33
        obtain ⟨x34, ex34, hf⟩ := pv_bo hf
        refine FV.inc (L2 := [some (.inr (.inr (0))), some (.inl (a1)), some (.inl (a2)), some (.inl (a3)), some (.inl (a4)), some (.inl (a5)), some (.inl (x34)), some (.inl (v7)), some (.inl (v8))]) dX10_filmed_119 rfl (Nat.le_of_ble_eq_true rfl) ex34 rfl ?_
        refine EV.iload dX10_filmed_122 rfl ?_
        refine EV.iconst dX10_filmed_124 (by decide) (by decide) ?_
        refine EV.icmp_ne (tgt := 133) dX10_filmed_125 (by decide) (fun q35 => ?_) (fun q35 => ?_)
        · have hf := pv_gn hf q35
          refine EV.iload dX10_filmed_133 rfl ?_
          refine EV.weak (L2 := [some (.inr (.inr (0))), some (.inl (a1)), some (.inl (a2)), some (.inl (a3)), some (.inl (a4)), some (.inl (a5)), some (.inl (x34)), none, some (.inl (v8))]) (And.intro rfl (And.intro rfl (And.intro rfl (And.intro rfl (And.intro rfl (And.intro rfl (And.intro rfl (And.intro rfl trivial)))))))) ?_
          exact tX10_filmed_135 hd (ih)   hf
        · have hf := pv_gp hf q35
          refine EV.iload dX10_filmed_128 rfl ?_
          refine EV.goto (tgt := 135) dX10_filmed_130 (by decide) ?_
          refine EV.weak (L2 := [some (.inr (.inr (0))), some (.inl (a1)), some (.inl (a2)), some (.inl (a3)), some (.inl (a4)), some (.inl (a5)), some (.inl (x34)), none, some (.inl (v8))]) (And.intro rfl (And.intro rfl (And.intro rfl (And.intro rfl (And.intro rfl (And.intro rfl (And.intro rfl (And.intro rfl trivial)))))))) ?_
          exact tX10_filmed_135 hd (ih)   hf
      · have hf := pv_gp hf q33
        refine EV.goto (tgt := 137) dX10_filmed_116 (by decide) ?_
        refine EV.weak (L2 := [some (.inr (.inr (0))), some (.inl (a1)), some (.inl (a2)), some (.inl (a3)), some (.inl (a4)), some (.inl (a5)), some (.inl (v6)), some (.inl (v7)), some (.inl (v8))]) (And.intro rfl (And.intro rfl (And.intro rfl (And.intro rfl (And.intro rfl (And.intro rfl (And.intro rfl (And.intro rfl (And.intro rfl trivial))))))))) ?_
        exact tX10_filmed_137 hd (ih)   hf

set_option maxHeartbeats 4000000 in
set_option maxRecDepth 20000 in
theorem tX10_filmed {d N : Nat} {a1 : Int} {a2 : Int} {a3 : Int} {a4 : Int} {a5 : Int} {h h' : pv_H} {r : Int} (hd : 6 ≤ d)  (hf : fX10_filmed N a1 a2 a3 a4 a5 h = some (h', r)) : CALL yX10_filmed cX10_filmed 9 (some .int) d pv_SM (MM h) [.inr (.inr (0)), .inl (a1), .inl (a2), .inl (a3), .inl (a4), .inl (a5)] pv_SM (MM h') (some (.inl r)) := by
  unfold fX10_filmed at hf
  refine EV.call (own := RX10) (ini := false) rfl rfl (fun q => by cases q) ⟨[], (List.append_nil _).symm⟩ (Nat.le_of_ble_eq_true rfl) ?_
  refine EV.eqL (L2 := [some (.inr (.inr (0))), some (.inl (a1)), some (.inl (a2)), some (.inl (a3)), some (.inl (a4)), some (.inl (a5)), none, none, none]) rfl ?_
  refine EV.aload_n dX10_filmed_0 rfl rfl ?_
  refine EV.iconst dX10_filmed_1 (by decide) (by decide) ?_
  obtain ⟨h1, eh1, hf⟩ := pv_bo hf
  refine FV.putI dX10_filmed_2 sm_0 fl_10_1 rfl rfl eh1 ?_
  refine EV.aload_n dX10_filmed_5 rfl rfl ?_
  refine EV.iload_n dX10_filmed_6 rfl rfl ?_
  refine EV.iload_n dX10_filmed_7 rfl rfl ?_
  obtain ⟨r3, hc2, hf⟩ := pv_c1o hf
  refine EV.invV (As := [.inl (a1), .inl (a2)]) (st := []) (d1 := d - 1) (sh1 := pv_SM) (h1 := MM h1) (r1 := (some (.inl r3))) dX10_filmed_8 sm_0 (by decide) md_X10_isBoth ml_X10_396 im_X10_isBoth se_X10_isBoth (tX10_isBoth (by omega)  hc2) (by omega) rfl rfl (Nat.le_of_ble_eq_true rfl) ⟨[], (List.append_nil _).symm⟩ ?_
  refine EV.eqS (st2 := [.inl (r3)]) rfl ?_
  refine EV.if_eq (tgt := 37) dX10_filmed_11 (by decide) (fun q4 => ?_) (fun q4 => ?_)
  · have hf := pv_gp hf q4
    refine EV.weak (L2 := [some (.inr (.inr (0))), none, none, none, none, none, none, none, none]) (And.intro rfl trivial) ?_
    exact tX10_filmed_37 hd    hf
  · have hf := pv_gn hf q4
    refine EV.iload_n dX10_filmed_14 rfl rfl ?_
    refine EV.i2l dX10_filmed_15 ?_
    refine EV.lconst (x := 0) dX10_filmed_16 (by decide) (by decide) (by decide) ?_
    refine EV.ldc2 (n := 3) dX10_filmed_17 kl_X10_250 (by decide) (by decide) ?_
    obtain ⟨r6, hc5, hf⟩ := pv_c1o hf
    refine EV.invS (As := [.inr (.inl (a3)), .inr (.inl (0)), .inr (.inl (3))]) (st := []) (d1 := d - 1) (sh1 := pv_SM) (h1 := MM h1) (r1 := (some (.inl r6))) dX10_filmed_20 md_X10_within ml_X10_193 st_X10_within (tX10_within (by omega)  hc5) (by omega) rfl rfl (Nat.le_of_ble_eq_true rfl) ⟨[], (List.append_nil _).symm⟩ ?_
    refine EV.eqS (st2 := [.inl (r6)]) rfl ?_
    refine EV.if_eq (tgt := 37) dX10_filmed_23 (by decide) (fun q7 => ?_) (fun q7 => ?_)
    · have hf := pv_gp hf q7
      refine EV.weak (L2 := [some (.inr (.inr (0))), none, none, none, none, none, none, none, none]) (And.intro rfl trivial) ?_
      exact tX10_filmed_37 hd    hf
    · have hf := pv_gn hf q7
      refine EV.iload dX10_filmed_26 rfl ?_
      refine EV.i2l dX10_filmed_28 ?_
      refine EV.lconst (x := 0) dX10_filmed_29 (by decide) (by decide) (by decide) ?_
      refine EV.lconst (x := 1) dX10_filmed_30 (by decide) (by decide) (by decide) ?_
      obtain ⟨r9, hc8, hf⟩ := pv_c1o hf
      refine EV.invS (As := [.inr (.inl (a5)), .inr (.inl (0)), .inr (.inl (1))]) (st := []) (d1 := d - 1) (sh1 := pv_SM) (h1 := MM h1) (r1 := (some (.inl r9))) dX10_filmed_31 md_X10_within ml_X10_193 st_X10_within (tX10_within (by omega)  hc8) (by omega) rfl rfl (Nat.le_of_ble_eq_true rfl) ⟨[], (List.append_nil _).symm⟩ ?_
      refine EV.eqS (st2 := [.inl (r9)]) rfl ?_
      refine EV.if_ne (tgt := 44) dX10_filmed_34 (by decide) (fun q10 => ?_) (fun q10 => ?_)
      · have hf := pv_gn hf q10
        refine EV.iload dX10_filmed_44 rfl ?_
        refine EV.i2l dX10_filmed_46 ?_
        refine EV.lconst (x := 1) dX10_filmed_47 (by decide) (by decide) (by decide) ?_
        refine EV.ldc2 (n := 100) dX10_filmed_48 kl_X10_323 (by decide) (by decide) ?_
        obtain ⟨r12, hc11, hf⟩ := pv_c1o hf
        refine EV.invS (As := [.inr (.inl (a4)), .inr (.inl (1)), .inr (.inl (100))]) (st := []) (d1 := d - 1) (sh1 := pv_SM) (h1 := MM h1) (r1 := (some (.inl r12))) dX10_filmed_51 md_X10_within ml_X10_193 st_X10_within (tX10_within (by omega)  hc11) (by omega) rfl rfl (Nat.le_of_ble_eq_true rfl) ⟨[], (List.append_nil _).symm⟩ ?_
        refine EV.eqS (st2 := [.inl (r12)]) rfl ?_
        refine EV.if_ne (tgt := 64) dX10_filmed_54 (by decide) (fun q13 => ?_) (fun q13 => ?_)
        · have hf := pv_gn hf q13
          refine EV.aload_n dX10_filmed_64 rfl rfl ?_
          refine FV.getF (v := 33) dX10_filmed_65 sm_0 fl_10_114 rfl rfl hvm_0_63 ?_
          refine EV.iload_n dX10_filmed_68 rfl rfl ?_
          obtain ⟨g14, hf⟩ := pv_gd hf
          refine FV.iald dX10_filmed_69 sm_33 g14.1 g14.2 (j := (Int.toNat (a3))) rfl ?_
          refine EV.iconst dX10_filmed_70 (by decide) (by decide) ?_
          refine EV.icmp_ne (tgt := 81) dX10_filmed_71 (by decide) (fun q15 => ?_) (fun q15 => ?_)
          · have hf := pv_gn hf q15
            refine EV.iconst dX10_filmed_81 (by decide) (by decide) ?_
            refine FV.stiw (L2 := [some (.inr (.inr (0))), some (.inl (a1)), some (.inl (a2)), some (.inl (a3)), some (.inl (a4)), some (.inl (a5)), some (.inl (0)), none, none]) dX10_filmed_82 (Nat.le_of_ble_eq_true rfl) rfl rfl ?_
            refine EV.iconst dX10_filmed_84 (by decide) (by decide) ?_
            obtain ⟨x16, ex16, hf⟩ := pv_bo hf
            refine FV.stiw (L2 := [some (.inr (.inr (0))), some (.inl (a1)), some (.inl (a2)), some (.inl (a3)), some (.inl (a4)), some (.inl (a5)), some (.inl (0)), some (.inl (x16)), none]) dX10_filmed_85 (Nat.le_of_ble_eq_true rfl) ex16 rfl ?_
            refine EV.iconst dX10_filmed_87 (by decide) (by decide) ?_
            refine FV.stiw (L2 := [some (.inr (.inr (0))), some (.inl (a1)), some (.inl (a2)), some (.inl (a3)), some (.inl (a4)), some (.inl (a5)), some (.inl (0)), some (.inl (x16)), some (.inl (1))]) dX10_filmed_88 (Nat.le_of_ble_eq_true rfl) rfl rfl ?_
            refine EV.weak (L2 := [some (.inr (.inr (0))), some (.inl (a1)), some (.inl (a2)), some (.inl (a3)), some (.inl (a4)), some (.inl (a5)), some (.inl (0)), some (.inl (x16)), some (.inl (1))]) (And.intro rfl (And.intro rfl (And.intro rfl (And.intro rfl (And.intro rfl (And.intro rfl (And.intro rfl (And.intro rfl (And.intro rfl trivial))))))))) ?_
            exact tX10_filmed_90 hd   _ _ _ _  _ hf
          · have hf := pv_gp hf q15
            refine EV.aload_n dX10_filmed_74 rfl rfl ?_
            refine EV.bipush dX10_filmed_75 (by decide) (by decide) ?_
            obtain ⟨h18, r19, hc17, hf⟩ := pv_c2o hf
            refine EV.invV (As := [.inl (-6)]) (st := []) (d1 := d - 1) (sh1 := pv_SM) (h1 := MM h18) (r1 := (some (.inl r19))) dX10_filmed_77 sm_0 (by decide) md_X10_no ml_X10_131 im_X10_no se_X10_no (tX10_no (by omega)  hc17) (by omega) rfl rfl (Nat.le_of_ble_eq_true rfl) ⟨[], (List.append_nil _).symm⟩ ?_
            refine EV.eqS (st2 := [.inl (r19)]) rfl ?_
            exact FV.iret dX10_filmed_80 hf
        · have hf := pv_gp hf q13
          refine EV.aload_n dX10_filmed_57 rfl rfl ?_
          refine EV.bipush dX10_filmed_58 (by decide) (by decide) ?_
          obtain ⟨h21, r22, hc20, hf⟩ := pv_c2o hf
          refine EV.invV (As := [.inl (-3)]) (st := []) (d1 := d - 1) (sh1 := pv_SM) (h1 := MM h21) (r1 := (some (.inl r22))) dX10_filmed_60 sm_0 (by decide) md_X10_no ml_X10_131 im_X10_no se_X10_no (tX10_no (by omega)  hc20) (by omega) rfl rfl (Nat.le_of_ble_eq_true rfl) ⟨[], (List.append_nil _).symm⟩ ?_
          refine EV.eqS (st2 := [.inl (r22)]) rfl ?_
          exact FV.iret dX10_filmed_63 hf
      · have hf := pv_gp hf q10
        refine EV.weak (L2 := [some (.inr (.inr (0))), none, none, none, none, none, none, none, none]) (And.intro rfl trivial) ?_
        exact tX10_filmed_37 hd    hf

noncomputable def fX10_swapped_36 (N : Nat)  (a1 : Int) (a2 : Int) (a3 : Int) : Nat → Int → Int → pv_H → Option (pv_H × Int)
  | 0, _, _, _ => none
  | n + 1, v4, v5, h => if (h 0 19) ≤ v5 then (pv_c1 (fX10_does N a2 1 h) fun h13 => pv_c1 (fX10_draws N a3 h13) fun h15 => pv_c1 (fX10_runs N (-1) h15) fun h17 => some (h17, h17 0 42)) else (pv_b (pv_w ((pv_w ((pv_w (v4 + (h 0 19))) - 1)) - v5)) fun x18 => if 0 ≤ pv_w (x18 + 2) ∧ pv_w (x18 + 2) < 9159 then (if 0 ≤ v5 ∧ v5 < 60 then (pv_b (pv_up h 6 (Int.toNat (v5)) (h 2 (Int.toNat (pv_w (x18 + 2))))) fun h21 => if 0 ≤ pv_w (x18 + 62) ∧ pv_w (x18 + 62) < 9159 then (if 0 ≤ v5 ∧ v5 < 60 then (pv_b (pv_up h21 7 (Int.toNat (v5)) (h21 2 (Int.toNat (pv_w (x18 + 62))))) fun h24 => if 0 ≤ pv_w (x18 + 122) ∧ pv_w (x18 + 122) < 9159 then (if 0 ≤ v5 ∧ v5 < 60 then (pv_b (pv_up h24 8 (Int.toNat (v5)) (h24 2 (Int.toNat (pv_w (x18 + 122))))) fun h27 => if 0 ≤ pv_w (x18 + 182) ∧ pv_w (x18 + 182) < 9159 then (if 0 ≤ v5 ∧ v5 < 60 then (pv_b (pv_up h27 9 (Int.toNat (v5)) (h27 2 (Int.toNat (pv_w (x18 + 182))))) fun h30 => pv_b (pv_w (v5 + 1)) fun x31 => fX10_swapped_36 N  a1 a2 a3 n (v4) (x31) h30) else none) else none) else none) else none) else none) else none) else none) else none)

noncomputable def fX10_swapped (N : Nat) (a1 : Int) (a2 : Int) (a3 : Int) (h : pv_H) : Option (pv_H × Int) :=
  pv_b (pv_up h 0 0 0) fun h1 => pv_c1 (fX10_isBoth N a1 a2 h1) fun r3 => if r3 = 0 then (pv_c2b (fX10_no N (-2) h1) fun h9 r10 => some (h9, r10)) else (pv_c1 (fX10_takes N a1 h1) fun h6 => pv_b (pv_w (242 * a1)) fun x7 => fX10_swapped_36 N  a1 a2 a3 N (x7) (0) h6)

set_option maxHeartbeats 4000000 in
set_option maxRecDepth 20000 in
theorem tX10_swapped_36 {d N : Nat}  {a1 : Int} {a2 : Int} {a3 : Int} {h' : pv_H} {r : Int} (hd : 5 ≤ d)   : ∀ (n : Nat) (v4 : Int) (v5 : Int)  (h : pv_H), fX10_swapped_36 N  a1 a2 a3 n v4 v5 h = some (h', r) → EV RX10 cX10_swapped 7 (some .int) false d pv_SM (MM h') (some (.inl r)) 36 [some (.inr (.inr (0))), none, some (.inl (a2)), some (.inl (a3)), some (.inl (v4)), some (.inl (v5)), none] [] pv_SM (MM h) := by
  intro n
  induction n with
  | zero =>
    intro v4 v5  h hf
    cases hf
  | succ n ih =>
    intro v4 v5  h hf
    rw [fX10_swapped_36] at hf
    refine EV.iload dX10_swapped_36 rfl ?_
    refine EV.aload_n dX10_swapped_38 rfl rfl ?_
    refine FV.getI dX10_swapped_39 sm_0 fl_10_267 rfl ?_
    refine EV.icmp_ge (tgt := 133) dX10_swapped_42 (by decide) (fun q11 => ?_) (fun q11 => ?_)
    · have hf := pv_gp hf q11
      refine EV.aload_n dX10_swapped_133 rfl rfl ?_
      refine EV.iload_n dX10_swapped_134 rfl rfl ?_
      refine EV.iconst dX10_swapped_135 (by decide) (by decide) ?_
      obtain ⟨h13, hc12, hf⟩ := pv_c1o hf
      refine EV.invV (As := [.inl (a2), .inl (1)]) (st := []) (d1 := d - 1) (sh1 := pv_SM) (h1 := MM h13) (r1 := none) dX10_swapped_136 sm_0 (by decide) md_X10_does ml_X10_317 im_X10_does se_X10_does (tX10_does (by omega)  hc12) (by omega) rfl rfl (Nat.le_of_ble_eq_true rfl) ⟨[], (List.append_nil _).symm⟩ ?_
      refine EV.aload_n dX10_swapped_139 rfl rfl ?_
      refine EV.iload_n dX10_swapped_140 rfl rfl ?_
      obtain ⟨h15, hc14, hf⟩ := pv_c1o hf
      refine EV.invV (As := [.inl (a3)]) (st := []) (d1 := d - 1) (sh1 := pv_SM) (h1 := MM h15) (r1 := none) dX10_swapped_141 sm_0 (by decide) md_X10_draws ml_X10_285 im_X10_draws se_X10_draws (tX10_draws (by omega)  hc14) (by omega) rfl rfl (Nat.le_of_ble_eq_true rfl) ⟨[], (List.append_nil _).symm⟩ ?_
      refine EV.aload_n dX10_swapped_144 rfl rfl ?_
      refine EV.iconst dX10_swapped_145 (by decide) (by decide) ?_
      obtain ⟨h17, hc16, hf⟩ := pv_c1o hf
      refine EV.invV (As := [.inl (-1)]) (st := []) (d1 := d - 1) (sh1 := pv_SM) (h1 := MM h17) (r1 := none) dX10_swapped_146 sm_0 (by decide) md_X10_runs ml_X10_393 im_X10_runs se_X10_runs (tX10_runs (by omega)  hc16) (by omega) rfl rfl (Nat.le_of_ble_eq_true rfl) ⟨[], (List.append_nil _).symm⟩ ?_
      refine EV.aload_n dX10_swapped_149 rfl rfl ?_
      refine FV.getI dX10_swapped_150 sm_0 fl_10_390 rfl ?_
      exact FV.iret dX10_swapped_153 hf
    · have hf := pv_gn hf q11
      refine EV.iload dX10_swapped_45 rfl ?_
      refine EV.aload_n dX10_swapped_47 rfl rfl ?_
      refine FV.getI dX10_swapped_48 sm_0 fl_10_267 rfl ?_
      refine EV.iadd dX10_swapped_51 ?_
      refine EV.iconst dX10_swapped_52 (by decide) (by decide) ?_
      refine EV.isub dX10_swapped_53 ?_
      refine EV.iload dX10_swapped_54 rfl ?_
      refine EV.isub dX10_swapped_56 ?_
      obtain ⟨x18, ex18, hf⟩ := pv_bo hf
      refine FV.stiw (L2 := [some (.inr (.inr (0))), none, some (.inl (a2)), some (.inl (a3)), some (.inl (v4)), some (.inl (v5)), some (.inl (x18))]) dX10_swapped_57 (Nat.le_of_ble_eq_true rfl) ex18 rfl ?_
      refine EV.aload_n dX10_swapped_59 rfl rfl ?_
      refine FV.getF (v := 6) dX10_swapped_60 sm_0 fl_10_33 rfl rfl hvm_0_21 ?_
      refine EV.iload dX10_swapped_63 rfl ?_
      refine EV.aload_n dX10_swapped_65 rfl rfl ?_
      refine FV.getF (v := 2) dX10_swapped_66 sm_0 fl_10_17 rfl rfl hvm_0_2 ?_
      refine EV.iload dX10_swapped_69 rfl ?_
      refine EV.iconst dX10_swapped_71 (by decide) (by decide) ?_
      refine EV.iadd dX10_swapped_72 ?_
      obtain ⟨g19, hf⟩ := pv_gd hf
      refine FV.iald dX10_swapped_73 sm_2 g19.1 g19.2 (j := (Int.toNat (pv_w (x18 + 2)))) rfl ?_
      obtain ⟨g20, hf⟩ := pv_gd hf
      obtain ⟨h21, eh21, hf⟩ := pv_bo hf
      refine FV.iast dX10_swapped_74 sm_6 g20.1 g20.2 (j := (Int.toNat (v5))) rfl eh21 ?_
      refine EV.aload_n dX10_swapped_75 rfl rfl ?_
      refine FV.getF (v := 7) dX10_swapped_76 sm_0 fl_10_36 rfl rfl hvm_0_22 ?_
      refine EV.iload dX10_swapped_79 rfl ?_
      refine EV.aload_n dX10_swapped_81 rfl rfl ?_
      refine FV.getF (v := 2) dX10_swapped_82 sm_0 fl_10_17 rfl rfl hvm_0_2 ?_
      refine EV.iload dX10_swapped_85 rfl ?_
      refine EV.bipush dX10_swapped_87 (by decide) (by decide) ?_
      refine EV.iadd dX10_swapped_89 ?_
      obtain ⟨g22, hf⟩ := pv_gd hf
      refine FV.iald dX10_swapped_90 sm_2 g22.1 g22.2 (j := (Int.toNat (pv_w (x18 + 62)))) rfl ?_
      obtain ⟨g23, hf⟩ := pv_gd hf
      obtain ⟨h24, eh24, hf⟩ := pv_bo hf
      refine FV.iast dX10_swapped_91 sm_7 g23.1 g23.2 (j := (Int.toNat (v5))) rfl eh24 ?_
      refine EV.aload_n dX10_swapped_92 rfl rfl ?_
      refine FV.getF (v := 8) dX10_swapped_93 sm_0 fl_10_39 rfl rfl hvm_0_23 ?_
      refine EV.iload dX10_swapped_96 rfl ?_
      refine EV.aload_n dX10_swapped_98 rfl rfl ?_
      refine FV.getF (v := 2) dX10_swapped_99 sm_0 fl_10_17 rfl rfl hvm_0_2 ?_
      refine EV.iload dX10_swapped_102 rfl ?_
      refine EV.bipush dX10_swapped_104 (by decide) (by decide) ?_
      refine EV.iadd dX10_swapped_106 ?_
      obtain ⟨g25, hf⟩ := pv_gd hf
      refine FV.iald dX10_swapped_107 sm_2 g25.1 g25.2 (j := (Int.toNat (pv_w (x18 + 122)))) rfl ?_
      obtain ⟨g26, hf⟩ := pv_gd hf
      obtain ⟨h27, eh27, hf⟩ := pv_bo hf
      refine FV.iast dX10_swapped_108 sm_8 g26.1 g26.2 (j := (Int.toNat (v5))) rfl eh27 ?_
      refine EV.aload_n dX10_swapped_109 rfl rfl ?_
      refine FV.getF (v := 9) dX10_swapped_110 sm_0 fl_10_42 rfl rfl hvm_0_24 ?_
      refine EV.iload dX10_swapped_113 rfl ?_
      refine EV.aload_n dX10_swapped_115 rfl rfl ?_
      refine FV.getF (v := 2) dX10_swapped_116 sm_0 fl_10_17 rfl rfl hvm_0_2 ?_
      refine EV.iload dX10_swapped_119 rfl ?_
      refine EV.sipush dX10_swapped_121 (by decide) (by decide) ?_
      refine EV.iadd dX10_swapped_124 ?_
      obtain ⟨g28, hf⟩ := pv_gd hf
      refine FV.iald dX10_swapped_125 sm_2 g28.1 g28.2 (j := (Int.toNat (pv_w (x18 + 182)))) rfl ?_
      obtain ⟨g29, hf⟩ := pv_gd hf
      obtain ⟨h30, eh30, hf⟩ := pv_bo hf
      refine FV.iast dX10_swapped_126 sm_9 g29.1 g29.2 (j := (Int.toNat (v5))) rfl eh30 ?_
      obtain ⟨x31, ex31, hf⟩ := pv_bo hf
      refine FV.inc (L2 := [some (.inr (.inr (0))), none, some (.inl (a2)), some (.inl (a3)), some (.inl (v4)), some (.inl (x31)), some (.inl (x18))]) dX10_swapped_127 rfl (Nat.le_of_ble_eq_true rfl) ex31 rfl ?_
      refine EV.goto (tgt := 36) dX10_swapped_130 (by decide) ?_
      refine EV.weak (L2 := [some (.inr (.inr (0))), none, some (.inl (a2)), some (.inl (a3)), some (.inl (v4)), some (.inl (x31)), none]) (And.intro rfl (And.intro rfl (And.intro rfl (And.intro rfl (And.intro rfl trivial))))) ?_
      exact ih _ _  _ hf

set_option maxHeartbeats 4000000 in
set_option maxRecDepth 20000 in
theorem tX10_swapped {d N : Nat} {a1 : Int} {a2 : Int} {a3 : Int} {h h' : pv_H} {r : Int} (hd : 5 ≤ d)  (hf : fX10_swapped N a1 a2 a3 h = some (h', r)) : CALL yX10_swapped cX10_swapped 7 (some .int) d pv_SM (MM h) [.inr (.inr (0)), .inl (a1), .inl (a2), .inl (a3)] pv_SM (MM h') (some (.inl r)) := by
  unfold fX10_swapped at hf
  refine EV.call (own := RX10) (ini := false) rfl rfl (fun q => by cases q) ⟨[], (List.append_nil _).symm⟩ (Nat.le_of_ble_eq_true rfl) ?_
  refine EV.eqL (L2 := [some (.inr (.inr (0))), some (.inl (a1)), some (.inl (a2)), some (.inl (a3)), none, none, none]) rfl ?_
  refine EV.aload_n dX10_swapped_0 rfl rfl ?_
  refine EV.iconst dX10_swapped_1 (by decide) (by decide) ?_
  obtain ⟨h1, eh1, hf⟩ := pv_bo hf
  refine FV.putI dX10_swapped_2 sm_0 fl_10_1 rfl rfl eh1 ?_
  refine EV.aload_n dX10_swapped_5 rfl rfl ?_
  refine EV.iload_n dX10_swapped_6 rfl rfl ?_
  refine EV.iload_n dX10_swapped_7 rfl rfl ?_
  obtain ⟨r3, hc2, hf⟩ := pv_c1o hf
  refine EV.invV (As := [.inl (a1), .inl (a2)]) (st := []) (d1 := d - 1) (sh1 := pv_SM) (h1 := MM h1) (r1 := (some (.inl r3))) dX10_swapped_8 sm_0 (by decide) md_X10_isBoth ml_X10_396 im_X10_isBoth se_X10_isBoth (tX10_isBoth (by omega)  hc2) (by omega) rfl rfl (Nat.le_of_ble_eq_true rfl) ⟨[], (List.append_nil _).symm⟩ ?_
  refine EV.eqS (st2 := [.inl (r3)]) rfl ?_
  refine EV.if_ne (tgt := 21) dX10_swapped_11 (by decide) (fun q4 => ?_) (fun q4 => ?_)
  · have hf := pv_gn hf q4
    refine EV.aload_n dX10_swapped_21 rfl rfl ?_
    refine EV.iload_n dX10_swapped_22 rfl rfl ?_
    obtain ⟨h6, hc5, hf⟩ := pv_c1o hf
    refine EV.invV (As := [.inl (a1)]) (st := []) (d1 := d - 1) (sh1 := pv_SM) (h1 := MM h6) (r1 := none) dX10_swapped_23 sm_0 (by decide) md_X10_takes ml_X10_282 im_X10_takes se_X10_takes (tX10_takes (by omega)  hc5) (by omega) rfl rfl (Nat.le_of_ble_eq_true rfl) ⟨[], (List.append_nil _).symm⟩ ?_
    refine EV.sipush dX10_swapped_26 (by decide) (by decide) ?_
    refine EV.iload_n dX10_swapped_29 rfl rfl ?_
    refine EV.imul dX10_swapped_30 ?_
    obtain ⟨x7, ex7, hf⟩ := pv_bo hf
    refine FV.stiw (L2 := [some (.inr (.inr (0))), some (.inl (a1)), some (.inl (a2)), some (.inl (a3)), some (.inl (x7)), none, none]) dX10_swapped_31 (Nat.le_of_ble_eq_true rfl) ex7 rfl ?_
    refine EV.iconst dX10_swapped_33 (by decide) (by decide) ?_
    refine FV.stiw (L2 := [some (.inr (.inr (0))), some (.inl (a1)), some (.inl (a2)), some (.inl (a3)), some (.inl (x7)), some (.inl (0)), none]) dX10_swapped_34 (Nat.le_of_ble_eq_true rfl) rfl rfl ?_
    refine EV.weak (L2 := [some (.inr (.inr (0))), none, some (.inl (a2)), some (.inl (a3)), some (.inl (x7)), some (.inl (0)), none]) (And.intro rfl (And.intro rfl (And.intro rfl (And.intro rfl (And.intro rfl trivial))))) ?_
    exact tX10_swapped_36 hd   _ _ _  _ hf
  · have hf := pv_gp hf q4
    refine EV.aload_n dX10_swapped_14 rfl rfl ?_
    refine EV.bipush dX10_swapped_15 (by decide) (by decide) ?_
    obtain ⟨h9, r10, hc8, hf⟩ := pv_c2o hf
    refine EV.invV (As := [.inl (-2)]) (st := []) (d1 := d - 1) (sh1 := pv_SM) (h1 := MM h9) (r1 := (some (.inl r10))) dX10_swapped_17 sm_0 (by decide) md_X10_no ml_X10_131 im_X10_no se_X10_no (tX10_no (by omega)  hc8) (by omega) rfl rfl (Nat.le_of_ble_eq_true rfl) ⟨[], (List.append_nil _).symm⟩ ?_
    refine EV.eqS (st2 := [.inl (r10)]) rfl ?_
    exact FV.iret dX10_swapped_20 hf

noncomputable def fX10_grid_67 (N : Nat) (k27 : Int → Int → pv_H → Option (pv_H × Int)) (k37 : Int → Int → Int → pv_H → Option (pv_H × Int)) (a1 : Int) (a2 : Int) (a3 : Int) (v5 : Int) (v6 : Int) (s0 : Int) (s1 : Int) (h : pv_H) : Option (pv_H × Int) :=
  pv_b (pv_w (s1 + s0)) fun x15 => pv_b (pv_w (v6 + 50)) fun x16 => k37 (x15) (v5) (x16) h

noncomputable def fX10_grid_37 (N : Nat) (k27 : Int → Int → pv_H → Option (pv_H × Int)) (a1 : Int) (a2 : Int) (a3 : Int) : Nat → Int → Int → Int → pv_H → Option (pv_H × Int)
  | 0, _, _, _, _ => none
  | n + 1, v4, v5, v6, h => if 1000 ≤ v6 then (pv_b (pv_w (v5 + 1)) fun x10 => k27 (v4) (x10) h) else (pv_c2b (fX10_piecesOf N a1 a2 a3 v5 v6 h) fun h12 r13 => if r13 = 2 then (fX10_grid_67 N (k27) (fun v4_ v5_ v6_ hh => fX10_grid_37 N k27 a1 a2 a3 n v4_ v5_ v6_ hh) a1 a2 a3 (v5) (v6) (1) (v4) h12) else (fX10_grid_67 N (k27) (fun v4_ v5_ v6_ hh => fX10_grid_37 N k27 a1 a2 a3 n v4_ v5_ v6_ hh) a1 a2 a3 (v5) (v6) (0) (v4) h12))

noncomputable def fX10_grid_27 (N : Nat)  (a1 : Int) (a2 : Int) (a3 : Int) : Nat → Int → Int → pv_H → Option (pv_H × Int)
  | 0, _, _, _ => none
  | n + 1, v4, v5, h => if 10 ≤ v5 then (some (h, v4)) else (fX10_grid_37 N (fun v4_ v5_ hh => fX10_grid_27 N  a1 a2 a3 n v4_ v5_ hh) a1 a2 a3 N (v4) (v5) (0) h)

noncomputable def fX10_grid (N : Nat) (a1 : Int) (a2 : Int) (a3 : Int) (h : pv_H) : Option (pv_H × Int) :=
  pv_b (pv_up h 0 0 0) fun h1 => pv_c1 (fX10_isBoth N a1 a2 h1) fun r3 => if r3 = 0 then (pv_c2b (fX10_no N (-2) h1) fun h6 r7 => some (h6, r7)) else (fX10_grid_27 N  a1 a2 a3 N (0) (1) h1)

set_option maxHeartbeats 4000000 in
set_option maxRecDepth 20000 in
theorem tX10_grid_67 {d N : Nat} {k27 : Int → Int → pv_H → Option (pv_H × Int)} {k37 : Int → Int → Int → pv_H → Option (pv_H × Int)} {a1 : Int} {a2 : Int} {a3 : Int} {v5 : Int} {v6 : Int} {s0 : Int} {s1 : Int} {h h' : pv_H} {r : Int} (hd : 6 ≤ d) (hk27 : ∀ (v4 : Int) (v5 : Int)  (hh : pv_H), k27 v4 v5 hh = some (h', r) → EV RX10 cX10_grid 7 (some .int) false d pv_SM (MM h') (some (.inl r)) 27 [some (.inr (.inr (0))), some (.inl (a1)), some (.inl (a2)), some (.inl (a3)), some (.inl (v4)), some (.inl (v5)), none] [] pv_SM (MM hh)) (hk37 : ∀ (v4 : Int) (v5 : Int) (v6 : Int)  (hh : pv_H), k37 v4 v5 v6 hh = some (h', r) → EV RX10 cX10_grid 7 (some .int) false d pv_SM (MM h') (some (.inl r)) 37 [some (.inr (.inr (0))), some (.inl (a1)), some (.inl (a2)), some (.inl (a3)), some (.inl (v4)), some (.inl (v5)), some (.inl (v6))] [] pv_SM (MM hh))   (hf : fX10_grid_67 N k27 k37 a1 a2 a3 v5 v6 s0 s1 h = some (h', r)) : EV RX10 cX10_grid 7 (some .int) false d pv_SM (MM h') (some (.inl r)) 67 [some (.inr (.inr (0))), some (.inl (a1)), some (.inl (a2)), some (.inl (a3)), none, some (.inl (v5)), some (.inl (v6))] [.inl (s0), .inl (s1)] pv_SM (MM h) := by
  unfold fX10_grid_67 at hf
  refine EV.iadd dX10_grid_67 ?_
  obtain ⟨x15, ex15, hf⟩ := pv_bo hf
  refine FV.stiw (L2 := [some (.inr (.inr (0))), some (.inl (a1)), some (.inl (a2)), some (.inl (a3)), some (.inl (x15)), some (.inl (v5)), some (.inl (v6))]) dX10_grid_68 (Nat.le_of_ble_eq_true rfl) ex15 rfl ?_
  obtain ⟨x16, ex16, hf⟩ := pv_bo hf
  refine FV.inc (L2 := [some (.inr (.inr (0))), some (.inl (a1)), some (.inl (a2)), some (.inl (a3)), some (.inl (x15)), some (.inl (v5)), some (.inl (x16))]) dX10_grid_70 rfl (Nat.le_of_ble_eq_true rfl) ex16 rfl ?_
  refine EV.goto (tgt := 37) dX10_grid_73 (by decide) ?_
  refine EV.weak (L2 := [some (.inr (.inr (0))), some (.inl (a1)), some (.inl (a2)), some (.inl (a3)), some (.inl (x15)), some (.inl (v5)), some (.inl (x16))]) (And.intro rfl (And.intro rfl (And.intro rfl (And.intro rfl (And.intro rfl (And.intro rfl (And.intro rfl trivial))))))) ?_
  exact hk37 _ _ _  _ hf

set_option maxHeartbeats 4000000 in
set_option maxRecDepth 20000 in
theorem tX10_grid_37 {d N : Nat} {k27 : Int → Int → pv_H → Option (pv_H × Int)} {a1 : Int} {a2 : Int} {a3 : Int} {h' : pv_H} {r : Int} (hd : 6 ≤ d) (hk27 : ∀ (v4 : Int) (v5 : Int)  (hh : pv_H), k27 v4 v5 hh = some (h', r) → EV RX10 cX10_grid 7 (some .int) false d pv_SM (MM h') (some (.inl r)) 27 [some (.inr (.inr (0))), some (.inl (a1)), some (.inl (a2)), some (.inl (a3)), some (.inl (v4)), some (.inl (v5)), none] [] pv_SM (MM hh))  : ∀ (n : Nat) (v4 : Int) (v5 : Int) (v6 : Int)  (h : pv_H), fX10_grid_37 N k27 a1 a2 a3 n v4 v5 v6 h = some (h', r) → EV RX10 cX10_grid 7 (some .int) false d pv_SM (MM h') (some (.inl r)) 37 [some (.inr (.inr (0))), some (.inl (a1)), some (.inl (a2)), some (.inl (a3)), some (.inl (v4)), some (.inl (v5)), some (.inl (v6))] [] pv_SM (MM h) := by
  intro n
  induction n with
  | zero =>
    intro v4 v5 v6  h hf
    cases hf
  | succ n ih =>
    intro v4 v5 v6  h hf
    rw [fX10_grid_37] at hf
    refine EV.iload dX10_grid_37 rfl ?_
    refine EV.sipush dX10_grid_39 (by decide) (by decide) ?_
    refine EV.icmp_ge (tgt := 76) dX10_grid_42 (by decide) (fun q9 => ?_) (fun q9 => ?_)
    · have hf := pv_gp hf q9
      obtain ⟨x10, ex10, hf⟩ := pv_bo hf
      refine FV.inc (L2 := [some (.inr (.inr (0))), some (.inl (a1)), some (.inl (a2)), some (.inl (a3)), some (.inl (v4)), some (.inl (x10)), some (.inl (v6))]) dX10_grid_76 rfl (Nat.le_of_ble_eq_true rfl) ex10 rfl ?_
      refine EV.goto (tgt := 27) dX10_grid_79 (by decide) ?_
      refine EV.weak (L2 := [some (.inr (.inr (0))), some (.inl (a1)), some (.inl (a2)), some (.inl (a3)), some (.inl (v4)), some (.inl (x10)), none]) (And.intro rfl (And.intro rfl (And.intro rfl (And.intro rfl (And.intro rfl (And.intro rfl trivial)))))) ?_
      exact hk27 _ _  _ hf
    · have hf := pv_gn hf q9
      refine EV.iload dX10_grid_45 rfl ?_
      refine EV.aload_n dX10_grid_47 rfl rfl ?_
      refine EV.iload_n dX10_grid_48 rfl rfl ?_
      refine EV.iload_n dX10_grid_49 rfl rfl ?_
      refine EV.iload_n dX10_grid_50 rfl rfl ?_
      refine EV.iload dX10_grid_51 rfl ?_
      refine EV.iload dX10_grid_53 rfl ?_
      obtain ⟨h12, r13, hc11, hf⟩ := pv_c2o hf
      refine EV.invV (As := [.inl (a1), .inl (a2), .inl (a3), .inl (v5), .inl (v6)]) (st := [.inl (v4)]) (d1 := d - 1) (sh1 := pv_SM) (h1 := MM h12) (r1 := (some (.inl r13))) dX10_grid_55 sm_0 (by decide) md_X10_piecesOf ml_X10_400 im_X10_piecesOf se_X10_piecesOf (tX10_piecesOf (by omega)  hc11) (by omega) rfl rfl (Nat.le_of_ble_eq_true rfl) ⟨[], (List.append_nil _).symm⟩ ?_
      refine EV.eqS (st2 := [.inl (r13), .inl (v4)]) rfl ?_
      refine EV.iconst dX10_grid_58 (by decide) (by decide) ?_
      refine EV.icmp_ne (tgt := 66) dX10_grid_59 (by decide) (fun q14 => ?_) (fun q14 => ?_)
      · have hf := pv_gn hf q14
        refine EV.iconst dX10_grid_66 (by decide) (by decide) ?_
        refine EV.weak (L2 := [some (.inr (.inr (0))), some (.inl (a1)), some (.inl (a2)), some (.inl (a3)), none, some (.inl (v5)), some (.inl (v6))]) (And.intro rfl (And.intro rfl (And.intro rfl (And.intro rfl (And.intro rfl (And.intro rfl trivial)))))) ?_
        exact tX10_grid_67 hd (hk27) (ih)   hf
      · have hf := pv_gp hf q14
        refine EV.iconst dX10_grid_62 (by decide) (by decide) ?_
        refine EV.goto (tgt := 67) dX10_grid_63 (by decide) ?_
        refine EV.weak (L2 := [some (.inr (.inr (0))), some (.inl (a1)), some (.inl (a2)), some (.inl (a3)), none, some (.inl (v5)), some (.inl (v6))]) (And.intro rfl (And.intro rfl (And.intro rfl (And.intro rfl (And.intro rfl (And.intro rfl trivial)))))) ?_
        exact tX10_grid_67 hd (hk27) (ih)   hf

set_option maxHeartbeats 4000000 in
set_option maxRecDepth 20000 in
theorem tX10_grid_27 {d N : Nat}  {a1 : Int} {a2 : Int} {a3 : Int} {h' : pv_H} {r : Int} (hd : 6 ≤ d)   : ∀ (n : Nat) (v4 : Int) (v5 : Int)  (h : pv_H), fX10_grid_27 N  a1 a2 a3 n v4 v5 h = some (h', r) → EV RX10 cX10_grid 7 (some .int) false d pv_SM (MM h') (some (.inl r)) 27 [some (.inr (.inr (0))), some (.inl (a1)), some (.inl (a2)), some (.inl (a3)), some (.inl (v4)), some (.inl (v5)), none] [] pv_SM (MM h) := by
  intro n
  induction n with
  | zero =>
    intro v4 v5  h hf
    cases hf
  | succ n ih =>
    intro v4 v5  h hf
    rw [fX10_grid_27] at hf
    refine EV.iload dX10_grid_27 rfl ?_
    refine EV.bipush dX10_grid_29 (by decide) (by decide) ?_
    refine EV.icmp_ge (tgt := 82) dX10_grid_31 (by decide) (fun q8 => ?_) (fun q8 => ?_)
    · have hf := pv_gp hf q8
      refine EV.iload dX10_grid_82 rfl ?_
      exact FV.iret dX10_grid_84 hf
    · have hf := pv_gn hf q8
      refine EV.iconst dX10_grid_34 (by decide) (by decide) ?_
      refine FV.stiw (L2 := [some (.inr (.inr (0))), some (.inl (a1)), some (.inl (a2)), some (.inl (a3)), some (.inl (v4)), some (.inl (v5)), some (.inl (0))]) dX10_grid_35 (Nat.le_of_ble_eq_true rfl) rfl rfl ?_
      refine EV.weak (L2 := [some (.inr (.inr (0))), some (.inl (a1)), some (.inl (a2)), some (.inl (a3)), some (.inl (v4)), some (.inl (v5)), some (.inl (0))]) (And.intro rfl (And.intro rfl (And.intro rfl (And.intro rfl (And.intro rfl (And.intro rfl (And.intro rfl trivial))))))) ?_
      exact tX10_grid_37 hd (ih)  _ _ _ _  _ hf

set_option maxHeartbeats 4000000 in
set_option maxRecDepth 20000 in
theorem tX10_grid {d N : Nat} {a1 : Int} {a2 : Int} {a3 : Int} {h h' : pv_H} {r : Int} (hd : 6 ≤ d)  (hf : fX10_grid N a1 a2 a3 h = some (h', r)) : CALL yX10_grid cX10_grid 7 (some .int) d pv_SM (MM h) [.inr (.inr (0)), .inl (a1), .inl (a2), .inl (a3)] pv_SM (MM h') (some (.inl r)) := by
  unfold fX10_grid at hf
  refine EV.call (own := RX10) (ini := false) rfl rfl (fun q => by cases q) ⟨[], (List.append_nil _).symm⟩ (Nat.le_of_ble_eq_true rfl) ?_
  refine EV.eqL (L2 := [some (.inr (.inr (0))), some (.inl (a1)), some (.inl (a2)), some (.inl (a3)), none, none, none]) rfl ?_
  refine EV.aload_n dX10_grid_0 rfl rfl ?_
  refine EV.iconst dX10_grid_1 (by decide) (by decide) ?_
  obtain ⟨h1, eh1, hf⟩ := pv_bo hf
  refine FV.putI dX10_grid_2 sm_0 fl_10_1 rfl rfl eh1 ?_
  refine EV.aload_n dX10_grid_5 rfl rfl ?_
  refine EV.iload_n dX10_grid_6 rfl rfl ?_
  refine EV.iload_n dX10_grid_7 rfl rfl ?_
  obtain ⟨r3, hc2, hf⟩ := pv_c1o hf
  refine EV.invV (As := [.inl (a1), .inl (a2)]) (st := []) (d1 := d - 1) (sh1 := pv_SM) (h1 := MM h1) (r1 := (some (.inl r3))) dX10_grid_8 sm_0 (by decide) md_X10_isBoth ml_X10_396 im_X10_isBoth se_X10_isBoth (tX10_isBoth (by omega)  hc2) (by omega) rfl rfl (Nat.le_of_ble_eq_true rfl) ⟨[], (List.append_nil _).symm⟩ ?_
  refine EV.eqS (st2 := [.inl (r3)]) rfl ?_
  refine EV.if_ne (tgt := 21) dX10_grid_11 (by decide) (fun q4 => ?_) (fun q4 => ?_)
  · have hf := pv_gn hf q4
    refine EV.iconst dX10_grid_21 (by decide) (by decide) ?_
    refine FV.stiw (L2 := [some (.inr (.inr (0))), some (.inl (a1)), some (.inl (a2)), some (.inl (a3)), some (.inl (0)), none, none]) dX10_grid_22 (Nat.le_of_ble_eq_true rfl) rfl rfl ?_
    refine EV.iconst dX10_grid_24 (by decide) (by decide) ?_
    refine FV.stiw (L2 := [some (.inr (.inr (0))), some (.inl (a1)), some (.inl (a2)), some (.inl (a3)), some (.inl (0)), some (.inl (1)), none]) dX10_grid_25 (Nat.le_of_ble_eq_true rfl) rfl rfl ?_
    refine EV.weak (L2 := [some (.inr (.inr (0))), some (.inl (a1)), some (.inl (a2)), some (.inl (a3)), some (.inl (0)), some (.inl (1)), none]) (And.intro rfl (And.intro rfl (And.intro rfl (And.intro rfl (And.intro rfl (And.intro rfl trivial)))))) ?_
    exact tX10_grid_27 hd   _ _ _  _ hf
  · have hf := pv_gp hf q4
    refine EV.aload_n dX10_grid_14 rfl rfl ?_
    refine EV.bipush dX10_grid_15 (by decide) (by decide) ?_
    obtain ⟨h6, r7, hc5, hf⟩ := pv_c2o hf
    refine EV.invV (As := [.inl (-2)]) (st := []) (d1 := d - 1) (sh1 := pv_SM) (h1 := MM h6) (r1 := (some (.inl r7))) dX10_grid_17 sm_0 (by decide) md_X10_no ml_X10_131 im_X10_no se_X10_no (tX10_no (by omega)  hc5) (by omega) rfl rfl (Nat.le_of_ble_eq_true rfl) ⟨[], (List.append_nil _).symm⟩ ?_
    refine EV.eqS (st2 := [.inl (r7)]) rfl ?_
    exact FV.iret dX10_grid_20 hf

noncomputable def fX10_brokenBy_2 (N : Nat)  (a1 : Int) : Nat → Int → pv_H → Option (Int)
  | 0, _, _ => none
  | n + 1, v2, h => if (h 2 1126) ≤ v2 then (some (0)) else (if 0 ≤ pv_w (1134 + v2) ∧ pv_w (1134 + v2) < 9159 then (if (h 2 (Int.toNat (pv_w (1134 + v2)))) = a1 then (if 0 ≤ pv_w (1314 + v2) ∧ pv_w (1314 + v2) < 9159 then (some (h 2 (Int.toNat (pv_w (1314 + v2))))) else none) else (pv_b (pv_w (v2 + 1)) fun x4 => fX10_brokenBy_2 N  a1 n (x4) h)) else none)

noncomputable def fX10_brokenBy (N : Nat) (a1 : Int) (h : pv_H) : Option (Int) :=
  fX10_brokenBy_2 N  a1 N (0) h

set_option maxHeartbeats 4000000 in
set_option maxRecDepth 20000 in
theorem tX10_brokenBy_2 {d N : Nat}  {a1 : Int} {h : pv_H} {r : Int} (hd : 1 ≤ d)   : ∀ (n : Nat) (v2 : Int) , fX10_brokenBy_2 N  a1 n v2 h = some r → EV RX10 cX10_brokenBy 3 (some .int) false d pv_SM (MM h) (some (.inl r)) 2 [some (.inr (.inr (0))), some (.inl (a1)), some (.inl (v2))] [] pv_SM (MM h) := by
  intro n
  induction n with
  | zero =>
    intro v2   hf
    cases hf
  | succ n ih =>
    intro v2   hf
    rw [fX10_brokenBy_2] at hf
    refine EV.iload_n dX10_brokenBy_2 rfl rfl ?_
    refine EV.aload_n dX10_brokenBy_3 rfl rfl ?_
    refine FV.getF (v := 2) dX10_brokenBy_4 sm_0 fl_10_17 rfl rfl hvm_0_2 ?_
    refine EV.sipush dX10_brokenBy_7 (by decide) (by decide) ?_
    refine FV.iald dX10_brokenBy_10 sm_2 (by decide) (by decide) (j := 1126) rfl ?_
    refine EV.icmp_ge (tgt := 45) dX10_brokenBy_11 (by decide) (fun q1 => ?_) (fun q1 => ?_)
    · have hf := pv_gp hf q1
      refine EV.iconst dX10_brokenBy_45 (by decide) (by decide) ?_
      exact FV.iretp dX10_brokenBy_46 hf
    · have hf := pv_gn hf q1
      refine EV.aload_n dX10_brokenBy_14 rfl rfl ?_
      refine FV.getF (v := 2) dX10_brokenBy_15 sm_0 fl_10_17 rfl rfl hvm_0_2 ?_
      refine EV.sipush dX10_brokenBy_18 (by decide) (by decide) ?_
      refine EV.iload_n dX10_brokenBy_21 rfl rfl ?_
      refine EV.iadd dX10_brokenBy_22 ?_
      obtain ⟨g2, hf⟩ := pv_gd hf
      refine FV.iald dX10_brokenBy_23 sm_2 g2.1 g2.2 (j := (Int.toNat (pv_w (1134 + v2)))) rfl ?_
      refine EV.iload_n dX10_brokenBy_24 rfl rfl ?_
      refine EV.icmp_ne (tgt := 39) dX10_brokenBy_25 (by decide) (fun q3 => ?_) (fun q3 => ?_)
      · have hf := pv_gn hf q3
        obtain ⟨x4, ex4, hf⟩ := pv_bo hf
        refine FV.inc (L2 := [some (.inr (.inr (0))), some (.inl (a1)), some (.inl (x4))]) dX10_brokenBy_39 rfl (Nat.le_of_ble_eq_true rfl) ex4 rfl ?_
        refine EV.goto (tgt := 2) dX10_brokenBy_42 (by decide) ?_
        refine EV.weak (L2 := [some (.inr (.inr (0))), some (.inl (a1)), some (.inl (x4))]) (And.intro rfl (And.intro rfl (And.intro rfl trivial))) ?_
        exact ih _   hf
      · have hf := pv_gp hf q3
        refine EV.aload_n dX10_brokenBy_28 rfl rfl ?_
        refine FV.getF (v := 2) dX10_brokenBy_29 sm_0 fl_10_17 rfl rfl hvm_0_2 ?_
        refine EV.sipush dX10_brokenBy_32 (by decide) (by decide) ?_
        refine EV.iload_n dX10_brokenBy_35 rfl rfl ?_
        refine EV.iadd dX10_brokenBy_36 ?_
        obtain ⟨g5, hf⟩ := pv_gd hf
        refine FV.iald dX10_brokenBy_37 sm_2 g5.1 g5.2 (j := (Int.toNat (pv_w (1314 + v2)))) rfl ?_
        exact FV.iretp dX10_brokenBy_38 hf

set_option maxHeartbeats 4000000 in
set_option maxRecDepth 20000 in
theorem tX10_brokenBy {d N : Nat} {a1 : Int} {h : pv_H} {r : Int} (hd : 1 ≤ d)  (hf : fX10_brokenBy N a1 h = some r) : CALL yX10_brokenBy cX10_brokenBy 3 (some .int) d pv_SM (MM h) [.inr (.inr (0)), .inl (a1)] pv_SM (MM h) (some (.inl r)) := by
  unfold fX10_brokenBy at hf
  refine EV.call (own := RX10) (ini := false) rfl rfl (fun q => by cases q) ⟨[], (List.append_nil _).symm⟩ (Nat.le_of_ble_eq_true rfl) ?_
  refine EV.eqL (L2 := [some (.inr (.inr (0))), some (.inl (a1)), none]) rfl ?_
  refine EV.iconst dX10_brokenBy_0 (by decide) (by decide) ?_
  refine FV.sti (L2 := [some (.inr (.inr (0))), some (.inl (a1)), some (.inl (0))]) dX10_brokenBy_1 rfl (Nat.le_of_ble_eq_true rfl) rfl rfl ?_
  refine EV.weak (L2 := [some (.inr (.inr (0))), some (.inl (a1)), some (.inl (0))]) (And.intro rfl (And.intro rfl (And.intro rfl trivial))) ?_
  exact tX10_brokenBy_2 hd   _ _   hf

noncomputable def fX10_flies_28 (N : Nat)  (a1 : Int)  (h : pv_H) : Option (pv_H × Int) :=
  pv_c2b (fX10_no N (-2) h) fun h8 r9 => some (h8, r9)

noncomputable def fX10_flies_53 (N : Nat)  (a1 : Int) : Nat → Int → Int → pv_H → Option (pv_H × Int)
  | 0, _, _, _ => none
  | n + 1, v2, v3, h => if a1 ≤ v3 then (pv_c1 (fX10_brokenBy N (pv_w (v2 - 1)) h) fun r18 => if 0 ≤ pv_w (1374 + a1) ∧ pv_w (1374 + a1) < 9159 then (pv_c1 (fX10_brokenBy N (pv_w ((pv_w (v2 + (h 2 (Int.toNat (pv_w (1374 + a1)))))) - 1)) h) fun r21 => if 0 ≤ pv_w (1374 + a1) ∧ pv_w (1374 + a1) < 9159 then (if ¬ (h 2 (Int.toNat (pv_w (1374 + a1)))) = 0 then (some (h, pv_w (Int.tdiv (pv_w (r18 + r21)) (h 2 (Int.toNat (pv_w (1374 + a1))))))) else none) else none) else none) else (if 0 ≤ pv_w (1374 + v3) ∧ pv_w (1374 + v3) < 9159 then (pv_b (pv_w (v2 + (h 2 (Int.toNat (pv_w (1374 + v3)))))) fun x25 => pv_b (pv_w (v3 + 1)) fun x26 => fX10_flies_53 N  a1 n (x25) (x26) h) else none)

noncomputable def fX10_flies_35 (N : Nat)  (a1 : Int)  (h : pv_H) : Option (pv_H × Int) :=
  pv_c1 (fX10_isKept N  h) fun r11 => if r11 = 0 then (pv_c2b (fX10_no N (-5) h) fun h14 r15 => some (h14, r15)) else (fX10_flies_53 N  a1 N (0) (0) h)

noncomputable def fX10_flies (N : Nat) (a1 : Int) (h : pv_H) : Option (pv_H × Int) :=
  pv_b (pv_up h 0 0 0) fun h1 => if a1 < 0 then (fX10_flies_28 N  a1  h1) else (pv_c1 (fX10_isKept N  h1) fun r4 => if r4 = 0 then (fX10_flies_35 N  a1  h1) else (if a1 < (h1 2 1127) then (fX10_flies_35 N  a1  h1) else (fX10_flies_28 N  a1  h1)))

set_option maxHeartbeats 4000000 in
set_option maxRecDepth 20000 in
theorem tX10_flies_28 {d N : Nat}  {a1 : Int}  {h h' : pv_H} {r : Int} (hd : 2 ≤ d)    (hf : fX10_flies_28 N  a1  h = some (h', r)) : EV RX10 cX10_flies 4 (some .int) false d pv_SM (MM h') (some (.inl r)) 28 [some (.inr (.inr (0))), none, none, none] [] pv_SM (MM h) := by
  unfold fX10_flies_28 at hf
  refine EV.aload_n dX10_flies_28 rfl rfl ?_
  refine EV.bipush dX10_flies_29 (by decide) (by decide) ?_
  obtain ⟨h8, r9, hc7, hf⟩ := pv_c2o hf
  refine EV.invV (As := [.inl (-2)]) (st := []) (d1 := d - 1) (sh1 := pv_SM) (h1 := MM h8) (r1 := (some (.inl r9))) dX10_flies_31 sm_0 (by decide) md_X10_no ml_X10_131 im_X10_no se_X10_no (tX10_no (by omega)  hc7) (by omega) rfl rfl (Nat.le_of_ble_eq_true rfl) ⟨[], (List.append_nil _).symm⟩ ?_
  refine EV.eqS (st2 := [.inl (r9)]) rfl ?_
  exact FV.iret dX10_flies_34 hf

set_option maxHeartbeats 4000000 in
set_option maxRecDepth 20000 in
theorem tX10_flies_53 {d N : Nat}  {a1 : Int} {h' : pv_H} {r : Int} (hd : 2 ≤ d)   : ∀ (n : Nat) (v2 : Int) (v3 : Int)  (h : pv_H), fX10_flies_53 N  a1 n v2 v3 h = some (h', r) → EV RX10 cX10_flies 4 (some .int) false d pv_SM (MM h') (some (.inl r)) 53 [some (.inr (.inr (0))), some (.inl (a1)), some (.inl (v2)), some (.inl (v3))] [] pv_SM (MM h) := by
  intro n
  induction n with
  | zero =>
    intro v2 v3  h hf
    cases hf
  | succ n ih =>
    intro v2 v3  h hf
    rw [fX10_flies_53] at hf
    refine EV.iload_n dX10_flies_53 rfl rfl ?_
    refine EV.iload_n dX10_flies_54 rfl rfl ?_
    refine EV.icmp_ge (tgt := 77) dX10_flies_55 (by decide) (fun q16 => ?_) (fun q16 => ?_)
    · have hf := pv_gp hf q16
      refine EV.aload_n dX10_flies_77 rfl rfl ?_
      refine EV.iload_n dX10_flies_78 rfl rfl ?_
      refine EV.iconst dX10_flies_79 (by decide) (by decide) ?_
      refine EV.isub dX10_flies_80 ?_
      obtain ⟨r18, hc17, hf⟩ := pv_c1o hf
      refine EV.invV (As := [.inl (pv_w (v2 - 1))]) (st := []) (d1 := d - 1) (sh1 := pv_SM) (h1 := MM h) (r1 := (some (.inl r18))) dX10_flies_81 sm_0 (by decide) md_X10_brokenBy ml_X10_455 im_X10_brokenBy se_X10_brokenBy (tX10_brokenBy (by omega)  hc17) (by omega) rfl rfl (Nat.le_of_ble_eq_true rfl) ⟨[], (List.append_nil _).symm⟩ ?_
      refine EV.eqS (st2 := [.inl (r18)]) rfl ?_
      refine EV.aload_n dX10_flies_84 rfl rfl ?_
      refine EV.iload_n dX10_flies_85 rfl rfl ?_
      refine EV.aload_n dX10_flies_86 rfl rfl ?_
      refine FV.getF (v := 2) dX10_flies_87 sm_0 fl_10_17 rfl rfl hvm_0_2 ?_
      refine EV.sipush dX10_flies_90 (by decide) (by decide) ?_
      refine EV.iload_n dX10_flies_93 rfl rfl ?_
      refine EV.iadd dX10_flies_94 ?_
      obtain ⟨g19, hf⟩ := pv_gd hf
      refine FV.iald dX10_flies_95 sm_2 g19.1 g19.2 (j := (Int.toNat (pv_w (1374 + a1)))) rfl ?_
      refine EV.iadd dX10_flies_96 ?_
      refine EV.iconst dX10_flies_97 (by decide) (by decide) ?_
      refine EV.isub dX10_flies_98 ?_
      obtain ⟨r21, hc20, hf⟩ := pv_c1o hf
      refine EV.invV (As := [.inl (pv_w ((pv_w (v2 + (h 2 (Int.toNat (pv_w (1374 + a1)))))) - 1))]) (st := [.inl (r18)]) (d1 := d - 1) (sh1 := pv_SM) (h1 := MM h) (r1 := (some (.inl r21))) dX10_flies_99 sm_0 (by decide) md_X10_brokenBy ml_X10_455 im_X10_brokenBy se_X10_brokenBy (tX10_brokenBy (by omega)  hc20) (by omega) rfl rfl (Nat.le_of_ble_eq_true rfl) ⟨[], (List.append_nil _).symm⟩ ?_
      refine EV.eqS (st2 := [.inl (r21), .inl (r18)]) rfl ?_
      refine EV.iadd dX10_flies_102 ?_
      refine EV.aload_n dX10_flies_103 rfl rfl ?_
      refine FV.getF (v := 2) dX10_flies_104 sm_0 fl_10_17 rfl rfl hvm_0_2 ?_
      refine EV.sipush dX10_flies_107 (by decide) (by decide) ?_
      refine EV.iload_n dX10_flies_110 rfl rfl ?_
      refine EV.iadd dX10_flies_111 ?_
      obtain ⟨g22, hf⟩ := pv_gd hf
      refine FV.iald dX10_flies_112 sm_2 g22.1 g22.2 (j := (Int.toNat (pv_w (1374 + a1)))) rfl ?_
      obtain ⟨g23, hf⟩ := pv_gd hf
      refine EV.idiv dX10_flies_113 g23 ?_
      exact FV.iret dX10_flies_114 hf
    · have hf := pv_gn hf q16
      refine EV.iload_n dX10_flies_58 rfl rfl ?_
      refine EV.aload_n dX10_flies_59 rfl rfl ?_
      refine FV.getF (v := 2) dX10_flies_60 sm_0 fl_10_17 rfl rfl hvm_0_2 ?_
      refine EV.sipush dX10_flies_63 (by decide) (by decide) ?_
      refine EV.iload_n dX10_flies_66 rfl rfl ?_
      refine EV.iadd dX10_flies_67 ?_
      obtain ⟨g24, hf⟩ := pv_gd hf
      refine FV.iald dX10_flies_68 sm_2 g24.1 g24.2 (j := (Int.toNat (pv_w (1374 + v3)))) rfl ?_
      refine EV.iadd dX10_flies_69 ?_
      obtain ⟨x25, ex25, hf⟩ := pv_bo hf
      refine FV.sti (L2 := [some (.inr (.inr (0))), some (.inl (a1)), some (.inl (x25)), some (.inl (v3))]) dX10_flies_70 rfl (Nat.le_of_ble_eq_true rfl) ex25 rfl ?_
      obtain ⟨x26, ex26, hf⟩ := pv_bo hf
      refine FV.inc (L2 := [some (.inr (.inr (0))), some (.inl (a1)), some (.inl (x25)), some (.inl (x26))]) dX10_flies_71 rfl (Nat.le_of_ble_eq_true rfl) ex26 rfl ?_
      refine EV.goto (tgt := 53) dX10_flies_74 (by decide) ?_
      refine EV.weak (L2 := [some (.inr (.inr (0))), some (.inl (a1)), some (.inl (x25)), some (.inl (x26))]) (And.intro rfl (And.intro rfl (And.intro rfl (And.intro rfl trivial)))) ?_
      exact ih _ _  _ hf

set_option maxHeartbeats 4000000 in
set_option maxRecDepth 20000 in
theorem tX10_flies_35 {d N : Nat}  {a1 : Int}  {h h' : pv_H} {r : Int} (hd : 2 ≤ d)    (hf : fX10_flies_35 N  a1  h = some (h', r)) : EV RX10 cX10_flies 4 (some .int) false d pv_SM (MM h') (some (.inl r)) 35 [some (.inr (.inr (0))), some (.inl (a1)), none, none] [] pv_SM (MM h) := by
  unfold fX10_flies_35 at hf
  refine EV.aload_n dX10_flies_35 rfl rfl ?_
  obtain ⟨r11, hc10, hf⟩ := pv_c1o hf
  refine EV.invV (As := []) (st := []) (d1 := d - 1) (sh1 := pv_SM) (h1 := MM h) (r1 := (some (.inl r11))) dX10_flies_36 sm_0 (by decide) md_X10_isKept ml_X10_404 im_X10_isKept se_X10_isKept (tX10_isKept (by omega)  hc10) (by omega) rfl rfl (Nat.le_of_ble_eq_true rfl) ⟨[], (List.append_nil _).symm⟩ ?_
  refine EV.eqS (st2 := [.inl (r11)]) rfl ?_
  refine EV.if_ne (tgt := 49) dX10_flies_39 (by decide) (fun q12 => ?_) (fun q12 => ?_)
  · have hf := pv_gn hf q12
    refine EV.iconst dX10_flies_49 (by decide) (by decide) ?_
    refine FV.sti (L2 := [some (.inr (.inr (0))), some (.inl (a1)), some (.inl (0)), none]) dX10_flies_50 rfl (Nat.le_of_ble_eq_true rfl) rfl rfl ?_
    refine EV.iconst dX10_flies_51 (by decide) (by decide) ?_
    refine FV.sti (L2 := [some (.inr (.inr (0))), some (.inl (a1)), some (.inl (0)), some (.inl (0))]) dX10_flies_52 rfl (Nat.le_of_ble_eq_true rfl) rfl rfl ?_
    refine EV.weak (L2 := [some (.inr (.inr (0))), some (.inl (a1)), some (.inl (0)), some (.inl (0))]) (And.intro rfl (And.intro rfl (And.intro rfl (And.intro rfl trivial)))) ?_
    exact tX10_flies_53 hd   _ _ _  _ hf
  · have hf := pv_gp hf q12
    refine EV.aload_n dX10_flies_42 rfl rfl ?_
    refine EV.bipush dX10_flies_43 (by decide) (by decide) ?_
    obtain ⟨h14, r15, hc13, hf⟩ := pv_c2o hf
    refine EV.invV (As := [.inl (-5)]) (st := []) (d1 := d - 1) (sh1 := pv_SM) (h1 := MM h14) (r1 := (some (.inl r15))) dX10_flies_45 sm_0 (by decide) md_X10_no ml_X10_131 im_X10_no se_X10_no (tX10_no (by omega)  hc13) (by omega) rfl rfl (Nat.le_of_ble_eq_true rfl) ⟨[], (List.append_nil _).symm⟩ ?_
    refine EV.eqS (st2 := [.inl (r15)]) rfl ?_
    exact FV.iret dX10_flies_48 hf

set_option maxHeartbeats 4000000 in
set_option maxRecDepth 20000 in
theorem tX10_flies {d N : Nat} {a1 : Int} {h h' : pv_H} {r : Int} (hd : 2 ≤ d)  (hf : fX10_flies N a1 h = some (h', r)) : CALL yX10_flies cX10_flies 4 (some .int) d pv_SM (MM h) [.inr (.inr (0)), .inl (a1)] pv_SM (MM h') (some (.inl r)) := by
  unfold fX10_flies at hf
  refine EV.call (own := RX10) (ini := false) rfl rfl (fun q => by cases q) ⟨[], (List.append_nil _).symm⟩ (Nat.le_of_ble_eq_true rfl) ?_
  refine EV.eqL (L2 := [some (.inr (.inr (0))), some (.inl (a1)), none, none]) rfl ?_
  refine EV.aload_n dX10_flies_0 rfl rfl ?_
  refine EV.iconst dX10_flies_1 (by decide) (by decide) ?_
  obtain ⟨h1, eh1, hf⟩ := pv_bo hf
  refine FV.putI dX10_flies_2 sm_0 fl_10_1 rfl rfl eh1 ?_
  refine EV.iload_n dX10_flies_5 rfl rfl ?_
  refine EV.if_lt (tgt := 28) dX10_flies_6 (by decide) (fun q2 => ?_) (fun q2 => ?_)
  · have hf := pv_gp hf q2
    refine EV.weak (L2 := [some (.inr (.inr (0))), none, none, none]) (And.intro rfl trivial) ?_
    exact tX10_flies_28 hd    hf
  · have hf := pv_gn hf q2
    refine EV.aload_n dX10_flies_9 rfl rfl ?_
    obtain ⟨r4, hc3, hf⟩ := pv_c1o hf
    refine EV.invV (As := []) (st := []) (d1 := d - 1) (sh1 := pv_SM) (h1 := MM h1) (r1 := (some (.inl r4))) dX10_flies_10 sm_0 (by decide) md_X10_isKept ml_X10_404 im_X10_isKept se_X10_isKept (tX10_isKept (by omega)  hc3) (by omega) rfl rfl (Nat.le_of_ble_eq_true rfl) ⟨[], (List.append_nil _).symm⟩ ?_
    refine EV.eqS (st2 := [.inl (r4)]) rfl ?_
    refine EV.if_eq (tgt := 35) dX10_flies_13 (by decide) (fun q5 => ?_) (fun q5 => ?_)
    · have hf := pv_gp hf q5
      refine EV.weak (L2 := [some (.inr (.inr (0))), some (.inl (a1)), none, none]) (And.intro rfl (And.intro rfl trivial)) ?_
      exact tX10_flies_35 hd    hf
    · have hf := pv_gn hf q5
      refine EV.iload_n dX10_flies_16 rfl rfl ?_
      refine EV.aload_n dX10_flies_17 rfl rfl ?_
      refine FV.getF (v := 2) dX10_flies_18 sm_0 fl_10_17 rfl rfl hvm_0_2 ?_
      refine EV.sipush dX10_flies_21 (by decide) (by decide) ?_
      refine FV.iald dX10_flies_24 sm_2 (by decide) (by decide) (j := 1127) rfl ?_
      refine EV.icmp_lt (tgt := 35) dX10_flies_25 (by decide) (fun q6 => ?_) (fun q6 => ?_)
      · have hf := pv_gp hf q6
        refine EV.weak (L2 := [some (.inr (.inr (0))), some (.inl (a1)), none, none]) (And.intro rfl (And.intro rfl trivial)) ?_
        exact tX10_flies_35 hd    hf
      · have hf := pv_gn hf q6
        refine EV.weak (L2 := [some (.inr (.inr (0))), none, none, none]) (And.intro rfl trivial) ?_
        exact tX10_flies_28 hd    hf

noncomputable def fX10_cut_35 (N : Nat)  (a0 : Int) (a2 : Int) (s0 : Int) (h : pv_H) : Option (Int) :=
  some (s0)

noncomputable def fX10_cut (N : Nat) (a0 : Int) (a2 : Int) (h : pv_H) : Option (Int) :=
  if a2 = 0 then (fX10_cut_35 N  a0 a2 (pv_w8 (pv_w a0)) h) else (if a2 = 1 then (fX10_cut_35 N  a0 a2 (pv_w16 (pv_w a0)) h) else (if a2 = 2 then (fX10_cut_35 N  a0 a2 (pv_w a0) h) else (fX10_cut_35 N  a0 a2 (a0) h)))

set_option maxHeartbeats 4000000 in
set_option maxRecDepth 20000 in
theorem tX10_cut_35 {d N : Nat}  {a0 : Int} {a2 : Int} {s0 : Int} {h : pv_H} {r : Int} (hd : 1 ≤ d)    (hf : fX10_cut_35 N  a0 a2 s0 h = some r) : EV RX10 cX10_cut 3 (some .long) false d pv_SM (MM h) (some (.inr (.inl r))) 35 [none, none, none] [.inr (.inl (s0))] pv_SM (MM h) := by
  unfold fX10_cut_35 at hf
  exact FV.lretp dX10_cut_35 hf

set_option maxHeartbeats 4000000 in
set_option maxRecDepth 20000 in
theorem tX10_cut {d N : Nat} {a0 : Int} {a2 : Int} {h : pv_H} {r : Int} (hd : 1 ≤ d)  (hf : fX10_cut N a0 a2 h = some r) : CALL yX10_cut cX10_cut 3 (some .long) d pv_SM (MM h) [.inr (.inl (a0)), .inl (a2)] pv_SM (MM h) (some (.inr (.inl r))) := by
  unfold fX10_cut at hf
  refine EV.call (own := RX10) (ini := false) rfl rfl (fun q => by cases q) ⟨[], (List.append_nil _).symm⟩ (Nat.le_of_ble_eq_true rfl) ?_
  refine EV.eqL (L2 := [some (.inr (.inl (a0))), none, some (.inl (a2))]) rfl ?_
  refine EV.iload_n dX10_cut_0 rfl rfl ?_
  refine EV.if_ne (tgt := 11) dX10_cut_1 (by decide) (fun q1 => ?_) (fun q1 => ?_)
  · have hf := pv_gn hf q1
    refine EV.iload_n dX10_cut_11 rfl rfl ?_
    refine EV.iconst dX10_cut_12 (by decide) (by decide) ?_
    refine EV.icmp_ne (tgt := 23) dX10_cut_13 (by decide) (fun q2 => ?_) (fun q2 => ?_)
    · have hf := pv_gn hf q2
      refine EV.iload_n dX10_cut_23 rfl rfl ?_
      refine EV.iconst dX10_cut_24 (by decide) (by decide) ?_
      refine EV.icmp_ne (tgt := 34) dX10_cut_25 (by decide) (fun q3 => ?_) (fun q3 => ?_)
      · have hf := pv_gn hf q3
        refine EV.lload_n dX10_cut_34 rfl rfl ?_
        refine EV.weak (L2 := [none, none, none]) trivial ?_
        exact tX10_cut_35 hd    hf
      · have hf := pv_gp hf q3
        refine EV.lload_n dX10_cut_28 rfl rfl ?_
        refine EV.l2i dX10_cut_29 ?_
        refine EV.i2l dX10_cut_30 ?_
        refine EV.goto (tgt := 35) dX10_cut_31 (by decide) ?_
        refine EV.weak (L2 := [none, none, none]) trivial ?_
        exact tX10_cut_35 hd    hf
    · have hf := pv_gp hf q2
      refine EV.lload_n dX10_cut_16 rfl rfl ?_
      refine EV.l2i dX10_cut_17 ?_
      refine EV.i2s dX10_cut_18 ?_
      refine EV.i2l dX10_cut_19 ?_
      refine EV.goto (tgt := 35) dX10_cut_20 (by decide) ?_
      refine EV.weak (L2 := [none, none, none]) trivial ?_
      exact tX10_cut_35 hd    hf
  · have hf := pv_gp hf q1
    refine EV.lload_n dX10_cut_4 rfl rfl ?_
    refine EV.l2i dX10_cut_5 ?_
    refine EV.i2b dX10_cut_6 ?_
    refine EV.i2l dX10_cut_7 ?_
    refine EV.goto (tgt := 35) dX10_cut_8 (by decide) ?_
    refine EV.weak (L2 := [none, none, none]) trivial ?_
    exact tX10_cut_35 hd    hf

noncomputable def fX10_row_29 (N : Nat)  (a1 : Int) (a2 : Int) (a3 : Int)  (h : pv_H) : Option (pv_H × Int) :=
  pv_c2b (fX10_no N (-2) h) fun h19 r20 => some (h19, r20)

noncomputable def fX10_row_72 (N : Nat)  (a1 : Int) (a2 : Int) (a3 : Int) : Nat → Int → pv_H → Option (pv_H × Int)
  | 0, _, _ => none
  | n + 1, v4, h => if a3 ≤ v4 then (some (h, 0)) else (if 0 ≤ pv_w ((pv_w (60 * a1)) + v4) ∧ pv_w ((pv_w (60 * a1)) + v4) < 240 then (pv_b (pv_up h 35 (Int.toNat (pv_w ((pv_w (60 * a1)) + v4))) 0) fun h23 => pv_b (pv_w (v4 + 1)) fun x24 => fX10_row_72 N  a1 a2 a3 n (x24) h23) else none)

noncomputable def fX10_row (N : Nat) (a1 : Int) (a2 : Int) (a3 : Int) (h : pv_H) : Option (pv_H × Int) :=
  pv_b (pv_up h 0 0 0) fun h1 => pv_c1 (fX10_within N a1 0 3 h1) fun r3 => if r3 = 0 then (fX10_row_29 N  a1 a2 a3  h1) else (pv_c1 (fX10_within N a2 0 3 h1) fun r6 => if r6 = 0 then (fX10_row_29 N  a1 a2 a3  h1) else (pv_c1 (fX10_within N a3 0 60 h1) fun r9 => if r9 = 0 then (pv_c2b (fX10_no N (-3) h1) fun h16 r17 => some (h16, r17)) else (if 0 ≤ a1 ∧ a1 < 4 then (pv_b (pv_up h1 33 (Int.toNat (a1)) a2) fun h12 => if 0 ≤ a1 ∧ a1 < 4 then (pv_b (pv_up h12 34 (Int.toNat (a1)) a3) fun h14 => fX10_row_72 N  a1 a2 a3 N (0) h14) else none) else none)))

set_option maxHeartbeats 4000000 in
set_option maxRecDepth 20000 in
theorem tX10_row_29 {d N : Nat}  {a1 : Int} {a2 : Int} {a3 : Int}  {h h' : pv_H} {r : Int} (hd : 2 ≤ d)    (hf : fX10_row_29 N  a1 a2 a3  h = some (h', r)) : EV RX10 cX10_row 5 (some .int) false d pv_SM (MM h') (some (.inl r)) 29 [some (.inr (.inr (0))), none, none, none, none] [] pv_SM (MM h) := by
  unfold fX10_row_29 at hf
  refine EV.aload_n dX10_row_29 rfl rfl ?_
  refine EV.bipush dX10_row_30 (by decide) (by decide) ?_
  obtain ⟨h19, r20, hc18, hf⟩ := pv_c2o hf
  refine EV.invV (As := [.inl (-2)]) (st := []) (d1 := d - 1) (sh1 := pv_SM) (h1 := MM h19) (r1 := (some (.inl r20))) dX10_row_32 sm_0 (by decide) md_X10_no ml_X10_131 im_X10_no se_X10_no (tX10_no (by omega)  hc18) (by omega) rfl rfl (Nat.le_of_ble_eq_true rfl) ⟨[], (List.append_nil _).symm⟩ ?_
  refine EV.eqS (st2 := [.inl (r20)]) rfl ?_
  exact FV.iret dX10_row_35 hf

set_option maxHeartbeats 4000000 in
set_option maxRecDepth 20000 in
theorem tX10_row_72 {d N : Nat}  {a1 : Int} {a2 : Int} {a3 : Int} {h' : pv_H} {r : Int} (hd : 2 ≤ d)   : ∀ (n : Nat) (v4 : Int)  (h : pv_H), fX10_row_72 N  a1 a2 a3 n v4 h = some (h', r) → EV RX10 cX10_row 5 (some .int) false d pv_SM (MM h') (some (.inl r)) 72 [some (.inr (.inr (0))), some (.inl (a1)), none, some (.inl (a3)), some (.inl (v4))] [] pv_SM (MM h) := by
  intro n
  induction n with
  | zero =>
    intro v4  h hf
    cases hf
  | succ n ih =>
    intro v4  h hf
    rw [fX10_row_72] at hf
    refine EV.iload dX10_row_72 rfl ?_
    refine EV.iload_n dX10_row_74 rfl rfl ?_
    refine EV.icmp_ge (tgt := 97) dX10_row_75 (by decide) (fun q21 => ?_) (fun q21 => ?_)
    · have hf := pv_gp hf q21
      refine EV.iconst dX10_row_97 (by decide) (by decide) ?_
      exact FV.iret dX10_row_98 hf
    · have hf := pv_gn hf q21
      refine EV.aload_n dX10_row_78 rfl rfl ?_
      refine FV.getF (v := 35) dX10_row_79 sm_0 fl_10_120 rfl rfl hvm_0_65 ?_
      refine EV.bipush dX10_row_82 (by decide) (by decide) ?_
      refine EV.iload_n dX10_row_84 rfl rfl ?_
      refine EV.imul dX10_row_85 ?_
      refine EV.iload dX10_row_86 rfl ?_
      refine EV.iadd dX10_row_88 ?_
      refine EV.lconst (x := 0) dX10_row_89 (by decide) (by decide) (by decide) ?_
      obtain ⟨g22, hf⟩ := pv_gd hf
      obtain ⟨h23, eh23, hf⟩ := pv_bo hf
      refine FV.last dX10_row_90 sm_35 g22.1 g22.2 (j := (Int.toNat (pv_w ((pv_w (60 * a1)) + v4)))) rfl eh23 ?_
      obtain ⟨x24, ex24, hf⟩ := pv_bo hf
      refine FV.inc (L2 := [some (.inr (.inr (0))), some (.inl (a1)), none, some (.inl (a3)), some (.inl (x24))]) dX10_row_91 rfl (Nat.le_of_ble_eq_true rfl) ex24 rfl ?_
      refine EV.goto (tgt := 72) dX10_row_94 (by decide) ?_
      refine EV.weak (L2 := [some (.inr (.inr (0))), some (.inl (a1)), none, some (.inl (a3)), some (.inl (x24))]) (And.intro rfl (And.intro rfl (And.intro rfl (And.intro rfl trivial)))) ?_
      exact ih _  _ hf

set_option maxHeartbeats 4000000 in
set_option maxRecDepth 20000 in
theorem tX10_row {d N : Nat} {a1 : Int} {a2 : Int} {a3 : Int} {h h' : pv_H} {r : Int} (hd : 2 ≤ d)  (hf : fX10_row N a1 a2 a3 h = some (h', r)) : CALL yX10_row cX10_row 5 (some .int) d pv_SM (MM h) [.inr (.inr (0)), .inl (a1), .inl (a2), .inl (a3)] pv_SM (MM h') (some (.inl r)) := by
  unfold fX10_row at hf
  refine EV.call (own := RX10) (ini := false) rfl rfl (fun q => by cases q) ⟨[], (List.append_nil _).symm⟩ (Nat.le_of_ble_eq_true rfl) ?_
  refine EV.eqL (L2 := [some (.inr (.inr (0))), some (.inl (a1)), some (.inl (a2)), some (.inl (a3)), none]) rfl ?_
  refine EV.aload_n dX10_row_0 rfl rfl ?_
  refine EV.iconst dX10_row_1 (by decide) (by decide) ?_
  obtain ⟨h1, eh1, hf⟩ := pv_bo hf
  refine FV.putI dX10_row_2 sm_0 fl_10_1 rfl rfl eh1 ?_
  refine EV.iload_n dX10_row_5 rfl rfl ?_
  refine EV.i2l dX10_row_6 ?_
  refine EV.lconst (x := 0) dX10_row_7 (by decide) (by decide) (by decide) ?_
  refine EV.ldc2 (n := 3) dX10_row_8 kl_X10_250 (by decide) (by decide) ?_
  obtain ⟨r3, hc2, hf⟩ := pv_c1o hf
  refine EV.invS (As := [.inr (.inl (a1)), .inr (.inl (0)), .inr (.inl (3))]) (st := []) (d1 := d - 1) (sh1 := pv_SM) (h1 := MM h1) (r1 := (some (.inl r3))) dX10_row_11 md_X10_within ml_X10_193 st_X10_within (tX10_within (by omega)  hc2) (by omega) rfl rfl (Nat.le_of_ble_eq_true rfl) ⟨[], (List.append_nil _).symm⟩ ?_
  refine EV.eqS (st2 := [.inl (r3)]) rfl ?_
  refine EV.if_eq (tgt := 29) dX10_row_14 (by decide) (fun q4 => ?_) (fun q4 => ?_)
  · have hf := pv_gp hf q4
    refine EV.weak (L2 := [some (.inr (.inr (0))), none, none, none, none]) (And.intro rfl trivial) ?_
    exact tX10_row_29 hd    hf
  · have hf := pv_gn hf q4
    refine EV.iload_n dX10_row_17 rfl rfl ?_
    refine EV.i2l dX10_row_18 ?_
    refine EV.lconst (x := 0) dX10_row_19 (by decide) (by decide) (by decide) ?_
    refine EV.ldc2 (n := 3) dX10_row_20 kl_X10_250 (by decide) (by decide) ?_
    obtain ⟨r6, hc5, hf⟩ := pv_c1o hf
    refine EV.invS (As := [.inr (.inl (a2)), .inr (.inl (0)), .inr (.inl (3))]) (st := []) (d1 := d - 1) (sh1 := pv_SM) (h1 := MM h1) (r1 := (some (.inl r6))) dX10_row_23 md_X10_within ml_X10_193 st_X10_within (tX10_within (by omega)  hc5) (by omega) rfl rfl (Nat.le_of_ble_eq_true rfl) ⟨[], (List.append_nil _).symm⟩ ?_
    refine EV.eqS (st2 := [.inl (r6)]) rfl ?_
    refine EV.if_ne (tgt := 36) dX10_row_26 (by decide) (fun q7 => ?_) (fun q7 => ?_)
    · have hf := pv_gn hf q7
      refine EV.iload_n dX10_row_36 rfl rfl ?_
      refine EV.i2l dX10_row_37 ?_
      refine EV.lconst (x := 0) dX10_row_38 (by decide) (by decide) (by decide) ?_
      refine EV.ldc2 (n := 60) dX10_row_39 kl_X10_428 (by decide) (by decide) ?_
      obtain ⟨r9, hc8, hf⟩ := pv_c1o hf
      refine EV.invS (As := [.inr (.inl (a3)), .inr (.inl (0)), .inr (.inl (60))]) (st := []) (d1 := d - 1) (sh1 := pv_SM) (h1 := MM h1) (r1 := (some (.inl r9))) dX10_row_42 md_X10_within ml_X10_193 st_X10_within (tX10_within (by omega)  hc8) (by omega) rfl rfl (Nat.le_of_ble_eq_true rfl) ⟨[], (List.append_nil _).symm⟩ ?_
      refine EV.eqS (st2 := [.inl (r9)]) rfl ?_
      refine EV.if_ne (tgt := 55) dX10_row_45 (by decide) (fun q10 => ?_) (fun q10 => ?_)
      · have hf := pv_gn hf q10
        refine EV.aload_n dX10_row_55 rfl rfl ?_
        refine FV.getF (v := 33) dX10_row_56 sm_0 fl_10_114 rfl rfl hvm_0_63 ?_
        refine EV.iload_n dX10_row_59 rfl rfl ?_
        refine EV.iload_n dX10_row_60 rfl rfl ?_
        obtain ⟨g11, hf⟩ := pv_gd hf
        obtain ⟨h12, eh12, hf⟩ := pv_bo hf
        refine FV.iast dX10_row_61 sm_33 g11.1 g11.2 (j := (Int.toNat (a1))) rfl eh12 ?_
        refine EV.aload_n dX10_row_62 rfl rfl ?_
        refine FV.getF (v := 34) dX10_row_63 sm_0 fl_10_117 rfl rfl hvm_0_64 ?_
        refine EV.iload_n dX10_row_66 rfl rfl ?_
        refine EV.iload_n dX10_row_67 rfl rfl ?_
        obtain ⟨g13, hf⟩ := pv_gd hf
        obtain ⟨h14, eh14, hf⟩ := pv_bo hf
        refine FV.iast dX10_row_68 sm_34 g13.1 g13.2 (j := (Int.toNat (a1))) rfl eh14 ?_
        refine EV.iconst dX10_row_69 (by decide) (by decide) ?_
        refine FV.stiw (L2 := [some (.inr (.inr (0))), some (.inl (a1)), some (.inl (a2)), some (.inl (a3)), some (.inl (0))]) dX10_row_70 (Nat.le_of_ble_eq_true rfl) rfl rfl ?_
        refine EV.weak (L2 := [some (.inr (.inr (0))), some (.inl (a1)), none, some (.inl (a3)), some (.inl (0))]) (And.intro rfl (And.intro rfl (And.intro rfl (And.intro rfl trivial)))) ?_
        exact tX10_row_72 hd   _ _  _ hf
      · have hf := pv_gp hf q10
        refine EV.aload_n dX10_row_48 rfl rfl ?_
        refine EV.bipush dX10_row_49 (by decide) (by decide) ?_
        obtain ⟨h16, r17, hc15, hf⟩ := pv_c2o hf
        refine EV.invV (As := [.inl (-3)]) (st := []) (d1 := d - 1) (sh1 := pv_SM) (h1 := MM h16) (r1 := (some (.inl r17))) dX10_row_51 sm_0 (by decide) md_X10_no ml_X10_131 im_X10_no se_X10_no (tX10_no (by omega)  hc15) (by omega) rfl rfl (Nat.le_of_ble_eq_true rfl) ⟨[], (List.append_nil _).symm⟩ ?_
        refine EV.eqS (st2 := [.inl (r17)]) rfl ?_
        exact FV.iret dX10_row_54 hf
    · have hf := pv_gp hf q7
      refine EV.weak (L2 := [some (.inr (.inr (0))), none, none, none, none]) (And.intro rfl trivial) ?_
      exact tX10_row_29 hd    hf

noncomputable def fX10_write (N : Nat) (a1 : Int) (a2 : Int) (a3 : Int) (h : pv_H) : Option (pv_H × Int) :=
  pv_b (pv_up h 0 0 0) fun h1 => pv_c1 (fX10_within N a1 0 3 h1) fun r3 => if r3 = 0 then (pv_c2b (fX10_no N (-2) h1) fun h24 r25 => some (h24, r25)) else (if 0 ≤ a1 ∧ a1 < 4 then (if (h1 33 (Int.toNat (a1))) = (-1) then (pv_c2b (fX10_no N (-6) h1) fun h21 r22 => some (h21, r22)) else (if 0 ≤ a1 ∧ a1 < 4 then (pv_c1 (fX10_within N a2 0 (pv_w ((h1 34 (Int.toNat (a1))) - 1)) h1) fun r9 => if r9 = 0 then (pv_c2b (fX10_no N (-7) h1) fun h18 r19 => some (h18, r19)) else (if 0 ≤ a1 ∧ a1 < 4 then (pv_c1 (fX10_cut N a3 (h1 33 (Int.toNat (a1))) h1) fun r13 => if 0 ≤ pv_w ((pv_w (60 * a1)) + a2) ∧ pv_w ((pv_w (60 * a1)) + a2) < 240 then (pv_b (pv_up h1 35 (Int.toNat (pv_w ((pv_w (60 * a1)) + a2))) r13) fun h15 => if 0 ≤ pv_w ((pv_w (60 * a1)) + a2) ∧ pv_w ((pv_w (60 * a1)) + a2) < 240 then (some (h15, h15 35 (Int.toNat (pv_w ((pv_w (60 * a1)) + a2))))) else none) else none) else none)) else none)) else none)

set_option maxHeartbeats 4000000 in
set_option maxRecDepth 20000 in
theorem tX10_write {d N : Nat} {a1 : Int} {a2 : Int} {a3 : Int} {h h' : pv_H} {r : Int} (hd : 2 ≤ d)  (hf : fX10_write N a1 a2 a3 h = some (h', r)) : CALL yX10_write cX10_write 5 (some .long) d pv_SM (MM h) [.inr (.inr (0)), .inl (a1), .inl (a2), .inr (.inl (a3))] pv_SM (MM h') (some (.inr (.inl r))) := by
  unfold fX10_write at hf
  refine EV.call (own := RX10) (ini := false) rfl rfl (fun q => by cases q) ⟨[], (List.append_nil _).symm⟩ (Nat.le_of_ble_eq_true rfl) ?_
  refine EV.eqL (L2 := [some (.inr (.inr (0))), some (.inl (a1)), some (.inl (a2)), some (.inr (.inl (a3))), none]) rfl ?_
  refine EV.aload_n dX10_write_0 rfl rfl ?_
  refine EV.iconst dX10_write_1 (by decide) (by decide) ?_
  obtain ⟨h1, eh1, hf⟩ := pv_bo hf
  refine FV.putI dX10_write_2 sm_0 fl_10_1 rfl rfl eh1 ?_
  refine EV.iload_n dX10_write_5 rfl rfl ?_
  refine EV.i2l dX10_write_6 ?_
  refine EV.lconst (x := 0) dX10_write_7 (by decide) (by decide) (by decide) ?_
  refine EV.ldc2 (n := 3) dX10_write_8 kl_X10_250 (by decide) (by decide) ?_
  obtain ⟨r3, hc2, hf⟩ := pv_c1o hf
  refine EV.invS (As := [.inr (.inl (a1)), .inr (.inl (0)), .inr (.inl (3))]) (st := []) (d1 := d - 1) (sh1 := pv_SM) (h1 := MM h1) (r1 := (some (.inl r3))) dX10_write_11 md_X10_within ml_X10_193 st_X10_within (tX10_within (by omega)  hc2) (by omega) rfl rfl (Nat.le_of_ble_eq_true rfl) ⟨[], (List.append_nil _).symm⟩ ?_
  refine EV.eqS (st2 := [.inl (r3)]) rfl ?_
  refine EV.if_ne (tgt := 25) dX10_write_14 (by decide) (fun q4 => ?_) (fun q4 => ?_)
  · have hf := pv_gn hf q4
    refine EV.aload_n dX10_write_25 rfl rfl ?_
    refine FV.getF (v := 33) dX10_write_26 sm_0 fl_10_114 rfl rfl hvm_0_63 ?_
    refine EV.iload_n dX10_write_29 rfl rfl ?_
    obtain ⟨g5, hf⟩ := pv_gd hf
    refine FV.iald dX10_write_30 sm_33 g5.1 g5.2 (j := (Int.toNat (a1))) rfl ?_
    refine EV.iconst dX10_write_31 (by decide) (by decide) ?_
    refine EV.icmp_ne (tgt := 43) dX10_write_32 (by decide) (fun q6 => ?_) (fun q6 => ?_)
    · have hf := pv_gn hf q6
      refine EV.iload_n dX10_write_43 rfl rfl ?_
      refine EV.i2l dX10_write_44 ?_
      refine EV.lconst (x := 0) dX10_write_45 (by decide) (by decide) (by decide) ?_
      refine EV.aload_n dX10_write_46 rfl rfl ?_
      refine FV.getF (v := 34) dX10_write_47 sm_0 fl_10_117 rfl rfl hvm_0_64 ?_
      refine EV.iload_n dX10_write_50 rfl rfl ?_
      obtain ⟨g7, hf⟩ := pv_gd hf
      refine FV.iald dX10_write_51 sm_34 g7.1 g7.2 (j := (Int.toNat (a1))) rfl ?_
      refine EV.iconst dX10_write_52 (by decide) (by decide) ?_
      refine EV.isub dX10_write_53 ?_
      refine EV.i2l dX10_write_54 ?_
      obtain ⟨r9, hc8, hf⟩ := pv_c1o hf
      refine EV.invS (As := [.inr (.inl (a2)), .inr (.inl (0)), .inr (.inl (pv_w ((h1 34 (Int.toNat (a1))) - 1)))]) (st := []) (d1 := d - 1) (sh1 := pv_SM) (h1 := MM h1) (r1 := (some (.inl r9))) dX10_write_55 md_X10_within ml_X10_193 st_X10_within (tX10_within (by omega)  hc8) (by omega) rfl rfl (Nat.le_of_ble_eq_true rfl) ⟨[], (List.append_nil _).symm⟩ ?_
      refine EV.eqS (st2 := [.inl (r9)]) rfl ?_
      refine EV.if_ne (tgt := 69) dX10_write_58 (by decide) (fun q10 => ?_) (fun q10 => ?_)
      · have hf := pv_gn hf q10
        refine EV.aload_n dX10_write_69 rfl rfl ?_
        refine FV.getF (v := 35) dX10_write_70 sm_0 fl_10_120 rfl rfl hvm_0_65 ?_
        refine EV.bipush dX10_write_73 (by decide) (by decide) ?_
        refine EV.iload_n dX10_write_75 rfl rfl ?_
        refine EV.imul dX10_write_76 ?_
        refine EV.iload_n dX10_write_77 rfl rfl ?_
        refine EV.iadd dX10_write_78 ?_
        refine EV.lload_n dX10_write_79 rfl rfl ?_
        refine EV.aload_n dX10_write_80 rfl rfl ?_
        refine FV.getF (v := 33) dX10_write_81 sm_0 fl_10_114 rfl rfl hvm_0_63 ?_
        refine EV.iload_n dX10_write_84 rfl rfl ?_
        obtain ⟨g11, hf⟩ := pv_gd hf
        refine FV.iald dX10_write_85 sm_33 g11.1 g11.2 (j := (Int.toNat (a1))) rfl ?_
        obtain ⟨r13, hc12, hf⟩ := pv_c1o hf
        refine EV.invS (As := [.inr (.inl (a3)), .inl (h1 33 (Int.toNat (a1)))]) (st := [.inl (pv_w ((pv_w (60 * a1)) + a2)), .inr (.inr (35))]) (d1 := d - 1) (sh1 := pv_SM) (h1 := MM h1) (r1 := (some (.inr (.inl r13)))) dX10_write_86 md_X10_cut ml_X10_458 st_X10_cut (tX10_cut (by omega)  hc12) (by omega) rfl rfl (Nat.le_of_ble_eq_true rfl) ⟨[], (List.append_nil _).symm⟩ ?_
        refine EV.eqS (st2 := [.inr (.inl (r13)), .inl (pv_w ((pv_w (60 * a1)) + a2)), .inr (.inr (35))]) rfl ?_
        obtain ⟨g14, hf⟩ := pv_gd hf
        obtain ⟨h15, eh15, hf⟩ := pv_bo hf
        refine FV.last dX10_write_89 sm_35 g14.1 g14.2 (j := (Int.toNat (pv_w ((pv_w (60 * a1)) + a2)))) rfl eh15 ?_
        refine EV.aload_n dX10_write_90 rfl rfl ?_
        refine FV.getF (v := 35) dX10_write_91 sm_0 fl_10_120 rfl rfl hvm_0_65 ?_
        refine EV.bipush dX10_write_94 (by decide) (by decide) ?_
        refine EV.iload_n dX10_write_96 rfl rfl ?_
        refine EV.imul dX10_write_97 ?_
        refine EV.iload_n dX10_write_98 rfl rfl ?_
        refine EV.iadd dX10_write_99 ?_
        obtain ⟨g16, hf⟩ := pv_gd hf
        refine FV.lald dX10_write_100 sm_35 g16.1 g16.2 (j := (Int.toNat (pv_w ((pv_w (60 * a1)) + a2)))) rfl ?_
        exact FV.lret dX10_write_101 hf
      · have hf := pv_gp hf q10
        refine EV.aload_n dX10_write_61 rfl rfl ?_
        refine EV.bipush dX10_write_62 (by decide) (by decide) ?_
        obtain ⟨h18, r19, hc17, hf⟩ := pv_c2o hf
        refine EV.invV (As := [.inl (-7)]) (st := []) (d1 := d - 1) (sh1 := pv_SM) (h1 := MM h18) (r1 := (some (.inl r19))) dX10_write_64 sm_0 (by decide) md_X10_no ml_X10_131 im_X10_no se_X10_no (tX10_no (by omega)  hc17) (by omega) rfl rfl (Nat.le_of_ble_eq_true rfl) ⟨[], (List.append_nil _).symm⟩ ?_
        refine EV.eqS (st2 := [.inl (r19)]) rfl ?_
        refine EV.i2l dX10_write_67 ?_
        exact FV.lret dX10_write_68 hf
    · have hf := pv_gp hf q6
      refine EV.aload_n dX10_write_35 rfl rfl ?_
      refine EV.bipush dX10_write_36 (by decide) (by decide) ?_
      obtain ⟨h21, r22, hc20, hf⟩ := pv_c2o hf
      refine EV.invV (As := [.inl (-6)]) (st := []) (d1 := d - 1) (sh1 := pv_SM) (h1 := MM h21) (r1 := (some (.inl r22))) dX10_write_38 sm_0 (by decide) md_X10_no ml_X10_131 im_X10_no se_X10_no (tX10_no (by omega)  hc20) (by omega) rfl rfl (Nat.le_of_ble_eq_true rfl) ⟨[], (List.append_nil _).symm⟩ ?_
      refine EV.eqS (st2 := [.inl (r22)]) rfl ?_
      refine EV.i2l dX10_write_41 ?_
      exact FV.lret dX10_write_42 hf
  · have hf := pv_gp hf q4
    refine EV.aload_n dX10_write_17 rfl rfl ?_
    refine EV.bipush dX10_write_18 (by decide) (by decide) ?_
    obtain ⟨h24, r25, hc23, hf⟩ := pv_c2o hf
    refine EV.invV (As := [.inl (-2)]) (st := []) (d1 := d - 1) (sh1 := pv_SM) (h1 := MM h24) (r1 := (some (.inl r25))) dX10_write_20 sm_0 (by decide) md_X10_no ml_X10_131 im_X10_no se_X10_no (tX10_no (by omega)  hc23) (by omega) rfl rfl (Nat.le_of_ble_eq_true rfl) ⟨[], (List.append_nil _).symm⟩ ?_
    refine EV.eqS (st2 := [.inl (r25)]) rfl ?_
    refine EV.i2l dX10_write_23 ?_
    exact FV.lret dX10_write_24 hf

noncomputable def fX10_keep_27 (N : Nat)  (a1 : Int) (a2 : Int)  (h : pv_H) : Option (pv_H × Int) :=
  pv_c2b (fX10_no N (-2) h) fun h21 r22 => some (h21, r22)

noncomputable def fX10_keep_142 (N : Nat) (k108 : Int → Int → pv_H → Option (pv_H × Int)) (a1 : Int) (a2 : Int) (v3 : Int) (v4 : Int) (s0 : Int) (s2 : Int) (h : pv_H) : Option (pv_H × Int) :=
  if 0 ≤ pv_w (s0 + v4) ∧ pv_w (s0 + v4) < 9159 then (if 0 ≤ a1 ∧ a1 < 4 then (pv_c1 (fX10_cut N (h 2 (Int.toNat (pv_w (s0 + v4)))) (h 33 (Int.toNat (a1))) h) fun r33 => if 0 ≤ s2 ∧ s2 < 240 then (pv_b (pv_up h 35 (Int.toNat (s2)) r33) fun h35 => pv_b (pv_w (v4 + 1)) fun x36 => k108 (v3) (x36) h35) else none) else none) else none

noncomputable def fX10_keep_108 (N : Nat)  (a1 : Int) (a2 : Int) : Nat → Int → Int → pv_H → Option (pv_H × Int)
  | 0, _, _, _ => none
  | n + 1, v3, v4, h => if v3 ≤ v4 then (some (h, v3)) else (if a2 = 0 then (fX10_keep_142 N (fun v3_ v4_ hh => fX10_keep_108 N  a1 a2 n v3_ v4_ hh) a1 a2 (v3) (v4) (1374) (pv_w ((pv_w (60 * a1)) + v4)) h) else (fX10_keep_142 N (fun v3_ v4_ hh => fX10_keep_108 N  a1 a2 n v3_ v4_ hh) a1 a2 (v3) (v4) (1194) (pv_w ((pv_w (60 * a1)) + v4)) h))

noncomputable def fX10_keep_104 (N : Nat)  (a1 : Int) (a2 : Int) (s0 : Int) (h : pv_H) : Option (pv_H × Int) :=
  fX10_keep_108 N  a1 a2 N (s0) (0) h

noncomputable def fX10_keep_82 (N : Nat)  (a1 : Int) (a2 : Int) (s0 : Int) (h : pv_H) : Option (pv_H × Int) :=
  if 0 ≤ s0 ∧ s0 < 9159 then (pv_b (h 2 (Int.toNat (s0))) fun x24 => if 0 ≤ a1 ∧ a1 < 4 then (if x24 ≤ (h 34 (Int.toNat (a1))) then (fX10_keep_104 N  a1 a2 (x24) h) else (if 0 ≤ a1 ∧ a1 < 4 then (fX10_keep_104 N  a1 a2 (h 34 (Int.toNat (a1))) h) else none)) else none) else none

noncomputable def fX10_keep (N : Nat) (a1 : Int) (a2 : Int) (h : pv_H) : Option (pv_H × Int) :=
  pv_b (pv_up h 0 0 0) fun h1 => pv_c1 (fX10_within N a1 0 3 h1) fun r3 => if r3 = 0 then (fX10_keep_27 N  a1 a2  h1) else (pv_c1 (fX10_within N a2 0 1 h1) fun r6 => if r6 = 0 then (fX10_keep_27 N  a1 a2  h1) else (pv_c1 (fX10_isKept N  h1) fun r9 => if r9 = 0 then (pv_c2b (fX10_no N (-5) h1) fun h18 r19 => some (h18, r19)) else (if 0 ≤ a1 ∧ a1 < 4 then (if (h1 33 (Int.toNat (a1))) = (-1) then (pv_c2b (fX10_no N (-6) h1) fun h15 r16 => some (h15, r16)) else (if a2 = 0 then (fX10_keep_82 N  a1 a2 (1127) h1) else (fX10_keep_82 N  a1 a2 (1126) h1))) else none)))

set_option maxHeartbeats 4000000 in
set_option maxRecDepth 20000 in
theorem tX10_keep_27 {d N : Nat}  {a1 : Int} {a2 : Int}  {h h' : pv_H} {r : Int} (hd : 2 ≤ d)    (hf : fX10_keep_27 N  a1 a2  h = some (h', r)) : EV RX10 cX10_keep 5 (some .int) false d pv_SM (MM h') (some (.inl r)) 27 [some (.inr (.inr (0))), none, none, none, none] [] pv_SM (MM h) := by
  unfold fX10_keep_27 at hf
  refine EV.aload_n dX10_keep_27 rfl rfl ?_
  refine EV.bipush dX10_keep_28 (by decide) (by decide) ?_
  obtain ⟨h21, r22, hc20, hf⟩ := pv_c2o hf
  refine EV.invV (As := [.inl (-2)]) (st := []) (d1 := d - 1) (sh1 := pv_SM) (h1 := MM h21) (r1 := (some (.inl r22))) dX10_keep_30 sm_0 (by decide) md_X10_no ml_X10_131 im_X10_no se_X10_no (tX10_no (by omega)  hc20) (by omega) rfl rfl (Nat.le_of_ble_eq_true rfl) ⟨[], (List.append_nil _).symm⟩ ?_
  refine EV.eqS (st2 := [.inl (r22)]) rfl ?_
  exact FV.iret dX10_keep_33 hf

set_option maxHeartbeats 4000000 in
set_option maxRecDepth 20000 in
theorem tX10_keep_142 {d N : Nat} {k108 : Int → Int → pv_H → Option (pv_H × Int)} {a1 : Int} {a2 : Int} {v3 : Int} {v4 : Int} {s0 : Int} {s2 : Int} {h h' : pv_H} {r : Int} (hd : 2 ≤ d) (hk108 : ∀ (v3 : Int) (v4 : Int)  (hh : pv_H), k108 v3 v4 hh = some (h', r) → EV RX10 cX10_keep 5 (some .int) false d pv_SM (MM h') (some (.inl r)) 108 [some (.inr (.inr (0))), some (.inl (a1)), some (.inl (a2)), some (.inl (v3)), some (.inl (v4))] [] pv_SM (MM hh))   (hf : fX10_keep_142 N k108 a1 a2 v3 v4 s0 s2 h = some (h', r)) : EV RX10 cX10_keep 5 (some .int) false d pv_SM (MM h') (some (.inl r)) 142 [some (.inr (.inr (0))), some (.inl (a1)), some (.inl (a2)), some (.inl (v3)), some (.inl (v4))] [.inl (s0), .inr (.inr (2)), .inl (s2), .inr (.inr (35))] pv_SM (MM h) := by
  unfold fX10_keep_142 at hf
  refine EV.iload dX10_keep_142 rfl ?_
  refine EV.iadd dX10_keep_144 ?_
  obtain ⟨g30, hf⟩ := pv_gd hf
  refine FV.iald dX10_keep_145 sm_2 g30.1 g30.2 (j := (Int.toNat (pv_w (s0 + v4)))) rfl ?_
  refine EV.i2l dX10_keep_146 ?_
  refine EV.aload_n dX10_keep_147 rfl rfl ?_
  refine FV.getF (v := 33) dX10_keep_148 sm_0 fl_10_114 rfl rfl hvm_0_63 ?_
  refine EV.iload_n dX10_keep_151 rfl rfl ?_
  obtain ⟨g31, hf⟩ := pv_gd hf
  refine FV.iald dX10_keep_152 sm_33 g31.1 g31.2 (j := (Int.toNat (a1))) rfl ?_
  obtain ⟨r33, hc32, hf⟩ := pv_c1o hf
  refine EV.invS (As := [.inr (.inl (h 2 (Int.toNat (pv_w (s0 + v4))))), .inl (h 33 (Int.toNat (a1)))]) (st := [.inl (s2), .inr (.inr (35))]) (d1 := d - 1) (sh1 := pv_SM) (h1 := MM h) (r1 := (some (.inr (.inl r33)))) dX10_keep_153 md_X10_cut ml_X10_458 st_X10_cut (tX10_cut (by omega)  hc32) (by omega) rfl rfl (Nat.le_of_ble_eq_true rfl) ⟨[], (List.append_nil _).symm⟩ ?_
  refine EV.eqS (st2 := [.inr (.inl (r33)), .inl (s2), .inr (.inr (35))]) rfl ?_
  obtain ⟨g34, hf⟩ := pv_gd hf
  obtain ⟨h35, eh35, hf⟩ := pv_bo hf
  refine FV.last dX10_keep_156 sm_35 g34.1 g34.2 (j := (Int.toNat (s2))) rfl eh35 ?_
  obtain ⟨x36, ex36, hf⟩ := pv_bo hf
  refine FV.inc (L2 := [some (.inr (.inr (0))), some (.inl (a1)), some (.inl (a2)), some (.inl (v3)), some (.inl (x36))]) dX10_keep_157 rfl (Nat.le_of_ble_eq_true rfl) ex36 rfl ?_
  refine EV.goto (tgt := 108) dX10_keep_160 (by decide) ?_
  refine EV.weak (L2 := [some (.inr (.inr (0))), some (.inl (a1)), some (.inl (a2)), some (.inl (v3)), some (.inl (x36))]) (And.intro rfl (And.intro rfl (And.intro rfl (And.intro rfl (And.intro rfl trivial))))) ?_
  exact hk108 _ _  _ hf

set_option maxHeartbeats 4000000 in
set_option maxRecDepth 20000 in
theorem tX10_keep_108 {d N : Nat}  {a1 : Int} {a2 : Int} {h' : pv_H} {r : Int} (hd : 2 ≤ d)   : ∀ (n : Nat) (v3 : Int) (v4 : Int)  (h : pv_H), fX10_keep_108 N  a1 a2 n v3 v4 h = some (h', r) → EV RX10 cX10_keep 5 (some .int) false d pv_SM (MM h') (some (.inl r)) 108 [some (.inr (.inr (0))), some (.inl (a1)), some (.inl (a2)), some (.inl (v3)), some (.inl (v4))] [] pv_SM (MM h) := by
  intro n
  induction n with
  | zero =>
    intro v3 v4  h hf
    cases hf
  | succ n ih =>
    intro v3 v4  h hf
    rw [fX10_keep_108] at hf
    refine EV.iload dX10_keep_108 rfl ?_
    refine EV.iload_n dX10_keep_110 rfl rfl ?_
    refine EV.icmp_ge (tgt := 163) dX10_keep_111 (by decide) (fun q28 => ?_) (fun q28 => ?_)
    · have hf := pv_gp hf q28
      refine EV.iload_n dX10_keep_163 rfl rfl ?_
      exact FV.iret dX10_keep_164 hf
    · have hf := pv_gn hf q28
      refine EV.aload_n dX10_keep_114 rfl rfl ?_
      refine FV.getF (v := 35) dX10_keep_115 sm_0 fl_10_120 rfl rfl hvm_0_65 ?_
      refine EV.bipush dX10_keep_118 (by decide) (by decide) ?_
      refine EV.iload_n dX10_keep_120 rfl rfl ?_
      refine EV.imul dX10_keep_121 ?_
      refine EV.iload dX10_keep_122 rfl ?_
      refine EV.iadd dX10_keep_124 ?_
      refine EV.aload_n dX10_keep_125 rfl rfl ?_
      refine FV.getF (v := 2) dX10_keep_126 sm_0 fl_10_17 rfl rfl hvm_0_2 ?_
      refine EV.iload_n dX10_keep_129 rfl rfl ?_
      refine EV.if_ne (tgt := 139) dX10_keep_130 (by decide) (fun q29 => ?_) (fun q29 => ?_)
      · have hf := pv_gn hf q29
        refine EV.sipush dX10_keep_139 (by decide) (by decide) ?_
        refine EV.weak (L2 := [some (.inr (.inr (0))), some (.inl (a1)), some (.inl (a2)), some (.inl (v3)), some (.inl (v4))]) (And.intro rfl (And.intro rfl (And.intro rfl (And.intro rfl (And.intro rfl trivial))))) ?_
        exact tX10_keep_142 hd (ih)   hf
      · have hf := pv_gp hf q29
        refine EV.sipush dX10_keep_133 (by decide) (by decide) ?_
        refine EV.goto (tgt := 142) dX10_keep_136 (by decide) ?_
        refine EV.weak (L2 := [some (.inr (.inr (0))), some (.inl (a1)), some (.inl (a2)), some (.inl (v3)), some (.inl (v4))]) (And.intro rfl (And.intro rfl (And.intro rfl (And.intro rfl (And.intro rfl trivial))))) ?_
        exact tX10_keep_142 hd (ih)   hf

set_option maxHeartbeats 4000000 in
set_option maxRecDepth 20000 in
theorem tX10_keep_104 {d N : Nat}  {a1 : Int} {a2 : Int} {s0 : Int} {h h' : pv_H} {r : Int} (hd : 2 ≤ d)    (hf : fX10_keep_104 N  a1 a2 s0 h = some (h', r)) : EV RX10 cX10_keep 5 (some .int) false d pv_SM (MM h') (some (.inl r)) 104 [some (.inr (.inr (0))), some (.inl (a1)), some (.inl (a2)), none, none] [.inl (s0)] pv_SM (MM h) := by
  unfold fX10_keep_104 at hf
  refine FV.sti (L2 := [some (.inr (.inr (0))), some (.inl (a1)), some (.inl (a2)), some (.inl (s0)), none]) dX10_keep_104 rfl (Nat.le_of_ble_eq_true rfl) rfl rfl ?_
  refine EV.iconst dX10_keep_105 (by decide) (by decide) ?_
  refine FV.stiw (L2 := [some (.inr (.inr (0))), some (.inl (a1)), some (.inl (a2)), some (.inl (s0)), some (.inl (0))]) dX10_keep_106 (Nat.le_of_ble_eq_true rfl) rfl rfl ?_
  refine EV.weak (L2 := [some (.inr (.inr (0))), some (.inl (a1)), some (.inl (a2)), some (.inl (s0)), some (.inl (0))]) (And.intro rfl (And.intro rfl (And.intro rfl (And.intro rfl (And.intro rfl trivial))))) ?_
  exact tX10_keep_108 hd   _ _ _  _ hf

set_option maxHeartbeats 4000000 in
set_option maxRecDepth 20000 in
theorem tX10_keep_82 {d N : Nat}  {a1 : Int} {a2 : Int} {s0 : Int} {h h' : pv_H} {r : Int} (hd : 2 ≤ d)    (hf : fX10_keep_82 N  a1 a2 s0 h = some (h', r)) : EV RX10 cX10_keep 5 (some .int) false d pv_SM (MM h') (some (.inl r)) 82 [some (.inr (.inr (0))), some (.inl (a1)), some (.inl (a2)), none, none] [.inl (s0), .inr (.inr (2))] pv_SM (MM h) := by
  unfold fX10_keep_82 at hf
  obtain ⟨g23, hf⟩ := pv_gd hf
  refine FV.iald dX10_keep_82 sm_2 g23.1 g23.2 (j := (Int.toNat (s0))) rfl ?_
  obtain ⟨x24, ex24, hf⟩ := pv_bo hf
  refine FV.sti (L2 := [some (.inr (.inr (0))), some (.inl (a1)), some (.inl (a2)), some (.inl (x24)), none]) dX10_keep_83 rfl (Nat.le_of_ble_eq_true rfl) ex24 rfl ?_
  refine EV.iload_n dX10_keep_84 rfl rfl ?_
  refine EV.aload_n dX10_keep_85 rfl rfl ?_
  refine FV.getF (v := 34) dX10_keep_86 sm_0 fl_10_117 rfl rfl hvm_0_64 ?_
  refine EV.iload_n dX10_keep_89 rfl rfl ?_
  obtain ⟨g25, hf⟩ := pv_gd hf
  refine FV.iald dX10_keep_90 sm_34 g25.1 g25.2 (j := (Int.toNat (a1))) rfl ?_
  refine EV.icmp_le (tgt := 103) dX10_keep_91 (by decide) (fun q26 => ?_) (fun q26 => ?_)
  · have hf := pv_gp hf q26
    refine EV.iload_n dX10_keep_103 rfl rfl ?_
    refine EV.weak (L2 := [some (.inr (.inr (0))), some (.inl (a1)), some (.inl (a2)), none, none]) (And.intro rfl (And.intro rfl (And.intro rfl trivial))) ?_
    exact tX10_keep_104 hd    hf
  · have hf := pv_gn hf q26
    refine EV.aload_n dX10_keep_94 rfl rfl ?_
    refine FV.getF (v := 34) dX10_keep_95 sm_0 fl_10_117 rfl rfl hvm_0_64 ?_
    refine EV.iload_n dX10_keep_98 rfl rfl ?_
    obtain ⟨g27, hf⟩ := pv_gd hf
    refine FV.iald dX10_keep_99 sm_34 g27.1 g27.2 (j := (Int.toNat (a1))) rfl ?_
    refine EV.goto (tgt := 104) dX10_keep_100 (by decide) ?_
    refine EV.weak (L2 := [some (.inr (.inr (0))), some (.inl (a1)), some (.inl (a2)), none, none]) (And.intro rfl (And.intro rfl (And.intro rfl trivial))) ?_
    exact tX10_keep_104 hd    hf

set_option maxHeartbeats 4000000 in
set_option maxRecDepth 20000 in
theorem tX10_keep {d N : Nat} {a1 : Int} {a2 : Int} {h h' : pv_H} {r : Int} (hd : 2 ≤ d)  (hf : fX10_keep N a1 a2 h = some (h', r)) : CALL yX10_keep cX10_keep 5 (some .int) d pv_SM (MM h) [.inr (.inr (0)), .inl (a1), .inl (a2)] pv_SM (MM h') (some (.inl r)) := by
  unfold fX10_keep at hf
  refine EV.call (own := RX10) (ini := false) rfl rfl (fun q => by cases q) ⟨[], (List.append_nil _).symm⟩ (Nat.le_of_ble_eq_true rfl) ?_
  refine EV.eqL (L2 := [some (.inr (.inr (0))), some (.inl (a1)), some (.inl (a2)), none, none]) rfl ?_
  refine EV.aload_n dX10_keep_0 rfl rfl ?_
  refine EV.iconst dX10_keep_1 (by decide) (by decide) ?_
  obtain ⟨h1, eh1, hf⟩ := pv_bo hf
  refine FV.putI dX10_keep_2 sm_0 fl_10_1 rfl rfl eh1 ?_
  refine EV.iload_n dX10_keep_5 rfl rfl ?_
  refine EV.i2l dX10_keep_6 ?_
  refine EV.lconst (x := 0) dX10_keep_7 (by decide) (by decide) (by decide) ?_
  refine EV.ldc2 (n := 3) dX10_keep_8 kl_X10_250 (by decide) (by decide) ?_
  obtain ⟨r3, hc2, hf⟩ := pv_c1o hf
  refine EV.invS (As := [.inr (.inl (a1)), .inr (.inl (0)), .inr (.inl (3))]) (st := []) (d1 := d - 1) (sh1 := pv_SM) (h1 := MM h1) (r1 := (some (.inl r3))) dX10_keep_11 md_X10_within ml_X10_193 st_X10_within (tX10_within (by omega)  hc2) (by omega) rfl rfl (Nat.le_of_ble_eq_true rfl) ⟨[], (List.append_nil _).symm⟩ ?_
  refine EV.eqS (st2 := [.inl (r3)]) rfl ?_
  refine EV.if_eq (tgt := 27) dX10_keep_14 (by decide) (fun q4 => ?_) (fun q4 => ?_)
  · have hf := pv_gp hf q4
    refine EV.weak (L2 := [some (.inr (.inr (0))), none, none, none, none]) (And.intro rfl trivial) ?_
    exact tX10_keep_27 hd    hf
  · have hf := pv_gn hf q4
    refine EV.iload_n dX10_keep_17 rfl rfl ?_
    refine EV.i2l dX10_keep_18 ?_
    refine EV.lconst (x := 0) dX10_keep_19 (by decide) (by decide) (by decide) ?_
    refine EV.lconst (x := 1) dX10_keep_20 (by decide) (by decide) (by decide) ?_
    obtain ⟨r6, hc5, hf⟩ := pv_c1o hf
    refine EV.invS (As := [.inr (.inl (a2)), .inr (.inl (0)), .inr (.inl (1))]) (st := []) (d1 := d - 1) (sh1 := pv_SM) (h1 := MM h1) (r1 := (some (.inl r6))) dX10_keep_21 md_X10_within ml_X10_193 st_X10_within (tX10_within (by omega)  hc5) (by omega) rfl rfl (Nat.le_of_ble_eq_true rfl) ⟨[], (List.append_nil _).symm⟩ ?_
    refine EV.eqS (st2 := [.inl (r6)]) rfl ?_
    refine EV.if_ne (tgt := 34) dX10_keep_24 (by decide) (fun q7 => ?_) (fun q7 => ?_)
    · have hf := pv_gn hf q7
      refine EV.aload_n dX10_keep_34 rfl rfl ?_
      obtain ⟨r9, hc8, hf⟩ := pv_c1o hf
      refine EV.invV (As := []) (st := []) (d1 := d - 1) (sh1 := pv_SM) (h1 := MM h1) (r1 := (some (.inl r9))) dX10_keep_35 sm_0 (by decide) md_X10_isKept ml_X10_404 im_X10_isKept se_X10_isKept (tX10_isKept (by omega)  hc8) (by omega) rfl rfl (Nat.le_of_ble_eq_true rfl) ⟨[], (List.append_nil _).symm⟩ ?_
      refine EV.eqS (st2 := [.inl (r9)]) rfl ?_
      refine EV.if_ne (tgt := 48) dX10_keep_38 (by decide) (fun q10 => ?_) (fun q10 => ?_)
      · have hf := pv_gn hf q10
        refine EV.aload_n dX10_keep_48 rfl rfl ?_
        refine FV.getF (v := 33) dX10_keep_49 sm_0 fl_10_114 rfl rfl hvm_0_63 ?_
        refine EV.iload_n dX10_keep_52 rfl rfl ?_
        obtain ⟨g11, hf⟩ := pv_gd hf
        refine FV.iald dX10_keep_53 sm_33 g11.1 g11.2 (j := (Int.toNat (a1))) rfl ?_
        refine EV.iconst dX10_keep_54 (by decide) (by decide) ?_
        refine EV.icmp_ne (tgt := 65) dX10_keep_55 (by decide) (fun q12 => ?_) (fun q12 => ?_)
        · have hf := pv_gn hf q12
          refine EV.aload_n dX10_keep_65 rfl rfl ?_
          refine FV.getF (v := 2) dX10_keep_66 sm_0 fl_10_17 rfl rfl hvm_0_2 ?_
          refine EV.iload_n dX10_keep_69 rfl rfl ?_
          refine EV.if_ne (tgt := 79) dX10_keep_70 (by decide) (fun q13 => ?_) (fun q13 => ?_)
          · have hf := pv_gn hf q13
            refine EV.sipush dX10_keep_79 (by decide) (by decide) ?_
            refine EV.weak (L2 := [some (.inr (.inr (0))), some (.inl (a1)), some (.inl (a2)), none, none]) (And.intro rfl (And.intro rfl (And.intro rfl trivial))) ?_
            exact tX10_keep_82 hd    hf
          · have hf := pv_gp hf q13
            refine EV.sipush dX10_keep_73 (by decide) (by decide) ?_
            refine EV.goto (tgt := 82) dX10_keep_76 (by decide) ?_
            refine EV.weak (L2 := [some (.inr (.inr (0))), some (.inl (a1)), some (.inl (a2)), none, none]) (And.intro rfl (And.intro rfl (And.intro rfl trivial))) ?_
            exact tX10_keep_82 hd    hf
        · have hf := pv_gp hf q12
          refine EV.aload_n dX10_keep_58 rfl rfl ?_
          refine EV.bipush dX10_keep_59 (by decide) (by decide) ?_
          obtain ⟨h15, r16, hc14, hf⟩ := pv_c2o hf
          refine EV.invV (As := [.inl (-6)]) (st := []) (d1 := d - 1) (sh1 := pv_SM) (h1 := MM h15) (r1 := (some (.inl r16))) dX10_keep_61 sm_0 (by decide) md_X10_no ml_X10_131 im_X10_no se_X10_no (tX10_no (by omega)  hc14) (by omega) rfl rfl (Nat.le_of_ble_eq_true rfl) ⟨[], (List.append_nil _).symm⟩ ?_
          refine EV.eqS (st2 := [.inl (r16)]) rfl ?_
          exact FV.iret dX10_keep_64 hf
      · have hf := pv_gp hf q10
        refine EV.aload_n dX10_keep_41 rfl rfl ?_
        refine EV.bipush dX10_keep_42 (by decide) (by decide) ?_
        obtain ⟨h18, r19, hc17, hf⟩ := pv_c2o hf
        refine EV.invV (As := [.inl (-5)]) (st := []) (d1 := d - 1) (sh1 := pv_SM) (h1 := MM h18) (r1 := (some (.inl r19))) dX10_keep_44 sm_0 (by decide) md_X10_no ml_X10_131 im_X10_no se_X10_no (tX10_no (by omega)  hc17) (by omega) rfl rfl (Nat.le_of_ble_eq_true rfl) ⟨[], (List.append_nil _).symm⟩ ?_
        refine EV.eqS (st2 := [.inl (r19)]) rfl ?_
        exact FV.iret dX10_keep_47 hf
    · have hf := pv_gp hf q7
      refine EV.weak (L2 := [some (.inr (.inr (0))), none, none, none, none]) (And.intro rfl trivial) ?_
      exact tX10_keep_27 hd    hf

noncomputable def fX10_image_24 (N : Nat)  (a1 : Int) : Nat → Int → pv_H → Option (pv_H × Int)
  | 0, _, _ => none
  | n + 1, v2, h => if 3053 ≤ v2 then (if 0 ≤ a1 ∧ a1 < 2 then (pv_b (pv_up h 3 (Int.toNat (a1)) 1) fun h10 => some (h10, 0)) else none) else (if 0 ≤ v2 ∧ v2 < 9159 then (if 0 ≤ pv_w ((pv_w (3053 * (pv_w (a1 + 1)))) + v2) ∧ pv_w ((pv_w (3053 * (pv_w (a1 + 1)))) + v2) < 9159 then (pv_b (pv_up h 2 (Int.toNat (pv_w ((pv_w (3053 * (pv_w (a1 + 1)))) + v2))) (h 2 (Int.toNat (v2)))) fun h13 => pv_b (pv_w (v2 + 1)) fun x14 => fX10_image_24 N  a1 n (x14) h13) else none) else none)

noncomputable def fX10_image (N : Nat) (a1 : Int) (h : pv_H) : Option (pv_H × Int) :=
  pv_b (pv_up h 0 0 0) fun h1 => pv_c1 (fX10_within N a1 0 1 h1) fun r3 => if r3 = 0 then (pv_c2b (fX10_no N (-2) h1) fun h6 r7 => some (h6, r7)) else (fX10_image_24 N  a1 N (0) h1)

set_option maxHeartbeats 4000000 in
set_option maxRecDepth 20000 in
theorem tX10_image_24 {d N : Nat}  {a1 : Int} {h' : pv_H} {r : Int} (hd : 2 ≤ d)   : ∀ (n : Nat) (v2 : Int)  (h : pv_H), fX10_image_24 N  a1 n v2 h = some (h', r) → EV RX10 cX10_image 3 (some .int) false d pv_SM (MM h') (some (.inl r)) 24 [some (.inr (.inr (0))), some (.inl (a1)), some (.inl (v2))] [] pv_SM (MM h) := by
  intro n
  induction n with
  | zero =>
    intro v2  h hf
    cases hf
  | succ n ih =>
    intro v2  h hf
    rw [fX10_image_24] at hf
    refine EV.iload_n dX10_image_24 rfl rfl ?_
    refine EV.sipush dX10_image_25 (by decide) (by decide) ?_
    refine EV.icmp_ge (tgt := 57) dX10_image_28 (by decide) (fun q8 => ?_) (fun q8 => ?_)
    · have hf := pv_gp hf q8
      refine EV.aload_n dX10_image_57 rfl rfl ?_
      refine FV.getF (v := 3) dX10_image_58 sm_0 fl_10_20 rfl rfl hvm_0_3 ?_
      refine EV.iload_n dX10_image_61 rfl rfl ?_
      refine EV.iconst dX10_image_62 (by decide) (by decide) ?_
      obtain ⟨g9, hf⟩ := pv_gd hf
      obtain ⟨h10, eh10, hf⟩ := pv_bo hf
      refine FV.zast dX10_image_63 sm_3 g9.1 g9.2 (by decide) (j := (Int.toNat (a1))) rfl eh10 ?_
      refine EV.iconst dX10_image_64 (by decide) (by decide) ?_
      exact FV.iret dX10_image_65 hf
    · have hf := pv_gn hf q8
      refine EV.aload_n dX10_image_31 rfl rfl ?_
      refine FV.getF (v := 2) dX10_image_32 sm_0 fl_10_17 rfl rfl hvm_0_2 ?_
      refine EV.sipush dX10_image_35 (by decide) (by decide) ?_
      refine EV.iload_n dX10_image_38 rfl rfl ?_
      refine EV.iconst dX10_image_39 (by decide) (by decide) ?_
      refine EV.iadd dX10_image_40 ?_
      refine EV.imul dX10_image_41 ?_
      refine EV.iload_n dX10_image_42 rfl rfl ?_
      refine EV.iadd dX10_image_43 ?_
      refine EV.aload_n dX10_image_44 rfl rfl ?_
      refine FV.getF (v := 2) dX10_image_45 sm_0 fl_10_17 rfl rfl hvm_0_2 ?_
      refine EV.iload_n dX10_image_48 rfl rfl ?_
      obtain ⟨g11, hf⟩ := pv_gd hf
      refine FV.iald dX10_image_49 sm_2 g11.1 g11.2 (j := (Int.toNat (v2))) rfl ?_
      obtain ⟨g12, hf⟩ := pv_gd hf
      obtain ⟨h13, eh13, hf⟩ := pv_bo hf
      refine FV.iast dX10_image_50 sm_2 g12.1 g12.2 (j := (Int.toNat (pv_w ((pv_w (3053 * (pv_w (a1 + 1)))) + v2)))) rfl eh13 ?_
      obtain ⟨x14, ex14, hf⟩ := pv_bo hf
      refine FV.inc (L2 := [some (.inr (.inr (0))), some (.inl (a1)), some (.inl (x14))]) dX10_image_51 rfl (Nat.le_of_ble_eq_true rfl) ex14 rfl ?_
      refine EV.goto (tgt := 24) dX10_image_54 (by decide) ?_
      refine EV.weak (L2 := [some (.inr (.inr (0))), some (.inl (a1)), some (.inl (x14))]) (And.intro rfl (And.intro rfl (And.intro rfl trivial))) ?_
      exact ih _  _ hf

set_option maxHeartbeats 4000000 in
set_option maxRecDepth 20000 in
theorem tX10_image {d N : Nat} {a1 : Int} {h h' : pv_H} {r : Int} (hd : 2 ≤ d)  (hf : fX10_image N a1 h = some (h', r)) : CALL yX10_image cX10_image 3 (some .int) d pv_SM (MM h) [.inr (.inr (0)), .inl (a1)] pv_SM (MM h') (some (.inl r)) := by
  unfold fX10_image at hf
  refine EV.call (own := RX10) (ini := false) rfl rfl (fun q => by cases q) ⟨[], (List.append_nil _).symm⟩ (Nat.le_of_ble_eq_true rfl) ?_
  refine EV.eqL (L2 := [some (.inr (.inr (0))), some (.inl (a1)), none]) rfl ?_
  refine EV.aload_n dX10_image_0 rfl rfl ?_
  refine EV.iconst dX10_image_1 (by decide) (by decide) ?_
  obtain ⟨h1, eh1, hf⟩ := pv_bo hf
  refine FV.putI dX10_image_2 sm_0 fl_10_1 rfl rfl eh1 ?_
  refine EV.iload_n dX10_image_5 rfl rfl ?_
  refine EV.i2l dX10_image_6 ?_
  refine EV.lconst (x := 0) dX10_image_7 (by decide) (by decide) (by decide) ?_
  refine EV.lconst (x := 1) dX10_image_8 (by decide) (by decide) (by decide) ?_
  obtain ⟨r3, hc2, hf⟩ := pv_c1o hf
  refine EV.invS (As := [.inr (.inl (a1)), .inr (.inl (0)), .inr (.inl (1))]) (st := []) (d1 := d - 1) (sh1 := pv_SM) (h1 := MM h1) (r1 := (some (.inl r3))) dX10_image_9 md_X10_within ml_X10_193 st_X10_within (tX10_within (by omega)  hc2) (by omega) rfl rfl (Nat.le_of_ble_eq_true rfl) ⟨[], (List.append_nil _).symm⟩ ?_
  refine EV.eqS (st2 := [.inl (r3)]) rfl ?_
  refine EV.if_ne (tgt := 22) dX10_image_12 (by decide) (fun q4 => ?_) (fun q4 => ?_)
  · have hf := pv_gn hf q4
    refine EV.iconst dX10_image_22 (by decide) (by decide) ?_
    refine FV.sti (L2 := [some (.inr (.inr (0))), some (.inl (a1)), some (.inl (0))]) dX10_image_23 rfl (Nat.le_of_ble_eq_true rfl) rfl rfl ?_
    refine EV.weak (L2 := [some (.inr (.inr (0))), some (.inl (a1)), some (.inl (0))]) (And.intro rfl (And.intro rfl (And.intro rfl trivial))) ?_
    exact tX10_image_24 hd   _ _  _ hf
  · have hf := pv_gp hf q4
    refine EV.aload_n dX10_image_15 rfl rfl ?_
    refine EV.bipush dX10_image_16 (by decide) (by decide) ?_
    obtain ⟨h6, r7, hc5, hf⟩ := pv_c2o hf
    refine EV.invV (As := [.inl (-2)]) (st := []) (d1 := d - 1) (sh1 := pv_SM) (h1 := MM h6) (r1 := (some (.inl r7))) dX10_image_18 sm_0 (by decide) md_X10_no ml_X10_131 im_X10_no se_X10_no (tX10_no (by omega)  hc5) (by omega) rfl rfl (Nat.le_of_ble_eq_true rfl) ⟨[], (List.append_nil _).symm⟩ ?_
    refine EV.eqS (st2 := [.inl (r7)]) rfl ?_
    exact FV.iret dX10_image_21 hf

noncomputable def fX10_restore_40 (N : Nat)  (a1 : Int) : Nat → Int → pv_H → Option (pv_H × Int)
  | 0, _, _ => none
  | n + 1, v2, h => if 3053 ≤ v2 then (some (h, 0)) else (if 0 ≤ pv_w ((pv_w (3053 * (pv_w (a1 + 1)))) + v2) ∧ pv_w ((pv_w (3053 * (pv_w (a1 + 1)))) + v2) < 9159 then (if 0 ≤ v2 ∧ v2 < 9159 then (pv_b (pv_up h 2 (Int.toNat (v2)) (h 2 (Int.toNat (pv_w ((pv_w (3053 * (pv_w (a1 + 1)))) + v2))))) fun h16 => pv_b (pv_w (v2 + 1)) fun x17 => fX10_restore_40 N  a1 n (x17) h16) else none) else none)

noncomputable def fX10_restore (N : Nat) (a1 : Int) (h : pv_H) : Option (pv_H × Int) :=
  pv_b (pv_up h 0 0 0) fun h1 => pv_c1 (fX10_within N a1 0 1 h1) fun r3 => if r3 = 0 then (pv_c2b (fX10_no N (-2) h1) fun h11 r12 => some (h11, r12)) else (if 0 ≤ a1 ∧ a1 < 2 then (if (h1 3 (Int.toNat (a1))) = 0 then (pv_c2b (fX10_no N (-5) h1) fun h8 r9 => some (h8, r9)) else (fX10_restore_40 N  a1 N (0) h1)) else none)

set_option maxHeartbeats 4000000 in
set_option maxRecDepth 20000 in
theorem tX10_restore_40 {d N : Nat}  {a1 : Int} {h' : pv_H} {r : Int} (hd : 2 ≤ d)   : ∀ (n : Nat) (v2 : Int)  (h : pv_H), fX10_restore_40 N  a1 n v2 h = some (h', r) → EV RX10 cX10_restore 3 (some .int) false d pv_SM (MM h') (some (.inl r)) 40 [some (.inr (.inr (0))), some (.inl (a1)), some (.inl (v2))] [] pv_SM (MM h) := by
  intro n
  induction n with
  | zero =>
    intro v2  h hf
    cases hf
  | succ n ih =>
    intro v2  h hf
    rw [fX10_restore_40] at hf
    refine EV.iload_n dX10_restore_40 rfl rfl ?_
    refine EV.sipush dX10_restore_41 (by decide) (by decide) ?_
    refine EV.icmp_ge (tgt := 73) dX10_restore_44 (by decide) (fun q13 => ?_) (fun q13 => ?_)
    · have hf := pv_gp hf q13
      refine EV.iconst dX10_restore_73 (by decide) (by decide) ?_
      exact FV.iret dX10_restore_74 hf
    · have hf := pv_gn hf q13
      refine EV.aload_n dX10_restore_47 rfl rfl ?_
      refine FV.getF (v := 2) dX10_restore_48 sm_0 fl_10_17 rfl rfl hvm_0_2 ?_
      refine EV.iload_n dX10_restore_51 rfl rfl ?_
      refine EV.aload_n dX10_restore_52 rfl rfl ?_
      refine FV.getF (v := 2) dX10_restore_53 sm_0 fl_10_17 rfl rfl hvm_0_2 ?_
      refine EV.sipush dX10_restore_56 (by decide) (by decide) ?_
      refine EV.iload_n dX10_restore_59 rfl rfl ?_
      refine EV.iconst dX10_restore_60 (by decide) (by decide) ?_
      refine EV.iadd dX10_restore_61 ?_
      refine EV.imul dX10_restore_62 ?_
      refine EV.iload_n dX10_restore_63 rfl rfl ?_
      refine EV.iadd dX10_restore_64 ?_
      obtain ⟨g14, hf⟩ := pv_gd hf
      refine FV.iald dX10_restore_65 sm_2 g14.1 g14.2 (j := (Int.toNat (pv_w ((pv_w (3053 * (pv_w (a1 + 1)))) + v2)))) rfl ?_
      obtain ⟨g15, hf⟩ := pv_gd hf
      obtain ⟨h16, eh16, hf⟩ := pv_bo hf
      refine FV.iast dX10_restore_66 sm_2 g15.1 g15.2 (j := (Int.toNat (v2))) rfl eh16 ?_
      obtain ⟨x17, ex17, hf⟩ := pv_bo hf
      refine FV.inc (L2 := [some (.inr (.inr (0))), some (.inl (a1)), some (.inl (x17))]) dX10_restore_67 rfl (Nat.le_of_ble_eq_true rfl) ex17 rfl ?_
      refine EV.goto (tgt := 40) dX10_restore_70 (by decide) ?_
      refine EV.weak (L2 := [some (.inr (.inr (0))), some (.inl (a1)), some (.inl (x17))]) (And.intro rfl (And.intro rfl (And.intro rfl trivial))) ?_
      exact ih _  _ hf

set_option maxHeartbeats 4000000 in
set_option maxRecDepth 20000 in
theorem tX10_restore {d N : Nat} {a1 : Int} {h h' : pv_H} {r : Int} (hd : 2 ≤ d)  (hf : fX10_restore N a1 h = some (h', r)) : CALL yX10_restore cX10_restore 3 (some .int) d pv_SM (MM h) [.inr (.inr (0)), .inl (a1)] pv_SM (MM h') (some (.inl r)) := by
  unfold fX10_restore at hf
  refine EV.call (own := RX10) (ini := false) rfl rfl (fun q => by cases q) ⟨[], (List.append_nil _).symm⟩ (Nat.le_of_ble_eq_true rfl) ?_
  refine EV.eqL (L2 := [some (.inr (.inr (0))), some (.inl (a1)), none]) rfl ?_
  refine EV.aload_n dX10_restore_0 rfl rfl ?_
  refine EV.iconst dX10_restore_1 (by decide) (by decide) ?_
  obtain ⟨h1, eh1, hf⟩ := pv_bo hf
  refine FV.putI dX10_restore_2 sm_0 fl_10_1 rfl rfl eh1 ?_
  refine EV.iload_n dX10_restore_5 rfl rfl ?_
  refine EV.i2l dX10_restore_6 ?_
  refine EV.lconst (x := 0) dX10_restore_7 (by decide) (by decide) (by decide) ?_
  refine EV.lconst (x := 1) dX10_restore_8 (by decide) (by decide) (by decide) ?_
  obtain ⟨r3, hc2, hf⟩ := pv_c1o hf
  refine EV.invS (As := [.inr (.inl (a1)), .inr (.inl (0)), .inr (.inl (1))]) (st := []) (d1 := d - 1) (sh1 := pv_SM) (h1 := MM h1) (r1 := (some (.inl r3))) dX10_restore_9 md_X10_within ml_X10_193 st_X10_within (tX10_within (by omega)  hc2) (by omega) rfl rfl (Nat.le_of_ble_eq_true rfl) ⟨[], (List.append_nil _).symm⟩ ?_
  refine EV.eqS (st2 := [.inl (r3)]) rfl ?_
  refine EV.if_ne (tgt := 22) dX10_restore_12 (by decide) (fun q4 => ?_) (fun q4 => ?_)
  · have hf := pv_gn hf q4
    refine EV.aload_n dX10_restore_22 rfl rfl ?_
    refine FV.getF (v := 3) dX10_restore_23 sm_0 fl_10_20 rfl rfl hvm_0_3 ?_
    refine EV.iload_n dX10_restore_26 rfl rfl ?_
    obtain ⟨g5, hf⟩ := pv_gd hf
    refine FV.zald dX10_restore_27 sm_3 g5.1 g5.2 (j := (Int.toNat (a1))) rfl ?_
    refine EV.if_ne (tgt := 38) dX10_restore_28 (by decide) (fun q6 => ?_) (fun q6 => ?_)
    · have hf := pv_gn hf q6
      refine EV.iconst dX10_restore_38 (by decide) (by decide) ?_
      refine FV.sti (L2 := [some (.inr (.inr (0))), some (.inl (a1)), some (.inl (0))]) dX10_restore_39 rfl (Nat.le_of_ble_eq_true rfl) rfl rfl ?_
      refine EV.weak (L2 := [some (.inr (.inr (0))), some (.inl (a1)), some (.inl (0))]) (And.intro rfl (And.intro rfl (And.intro rfl trivial))) ?_
      exact tX10_restore_40 hd   _ _  _ hf
    · have hf := pv_gp hf q6
      refine EV.aload_n dX10_restore_31 rfl rfl ?_
      refine EV.bipush dX10_restore_32 (by decide) (by decide) ?_
      obtain ⟨h8, r9, hc7, hf⟩ := pv_c2o hf
      refine EV.invV (As := [.inl (-5)]) (st := []) (d1 := d - 1) (sh1 := pv_SM) (h1 := MM h8) (r1 := (some (.inl r9))) dX10_restore_34 sm_0 (by decide) md_X10_no ml_X10_131 im_X10_no se_X10_no (tX10_no (by omega)  hc7) (by omega) rfl rfl (Nat.le_of_ble_eq_true rfl) ⟨[], (List.append_nil _).symm⟩ ?_
      refine EV.eqS (st2 := [.inl (r9)]) rfl ?_
      exact FV.iret dX10_restore_37 hf
  · have hf := pv_gp hf q4
    refine EV.aload_n dX10_restore_15 rfl rfl ?_
    refine EV.bipush dX10_restore_16 (by decide) (by decide) ?_
    obtain ⟨h11, r12, hc10, hf⟩ := pv_c2o hf
    refine EV.invV (As := [.inl (-2)]) (st := []) (d1 := d - 1) (sh1 := pv_SM) (h1 := MM h11) (r1 := (some (.inl r12))) dX10_restore_18 sm_0 (by decide) md_X10_no ml_X10_131 im_X10_no se_X10_no (tX10_no (by omega)  hc10) (by omega) rfl rfl (Nat.le_of_ble_eq_true rfl) ⟨[], (List.append_nil _).symm⟩ ?_
    refine EV.eqS (st2 := [.inl (r12)]) rfl ?_
    exact FV.iret dX10_restore_21 hf

noncomputable def fX10_status_32 (N : Nat)  (a1 : Int) (s0 : Int) (h : pv_H) : Option (pv_H × Int) :=
  some (h, s0)

noncomputable def fX10_status_31 (N : Nat)  (a1 : Int)  (h : pv_H) : Option (pv_H × Int) :=
  fX10_status_32 N  a1 (-1) h

noncomputable def fX10_status (N : Nat) (a1 : Int) (h : pv_H) : Option (pv_H × Int) :=
  pv_b (pv_up h 0 0 0) fun h1 => pv_c1 (fX10_within N a1 1 7 h1) fun r3 => if r3 = 0 then (fX10_status_31 N  a1  h1) else (if a1 = 4 then (fX10_status_31 N  a1  h1) else (if 0 ≤ a1 ∧ a1 < 8 then (fX10_status_32 N  a1 (h1 1 (Int.toNat (a1))) h1) else none))

set_option maxHeartbeats 4000000 in
set_option maxRecDepth 20000 in
theorem tX10_status_32 {d N : Nat}  {a1 : Int} {s0 : Int} {h h' : pv_H} {r : Int} (hd : 2 ≤ d)    (hf : fX10_status_32 N  a1 s0 h = some (h', r)) : EV RX10 cX10_status 2 (some .int) false d pv_SM (MM h') (some (.inl r)) 32 [none, none] [.inl (s0)] pv_SM (MM h) := by
  unfold fX10_status_32 at hf
  exact FV.iret dX10_status_32 hf

set_option maxHeartbeats 4000000 in
set_option maxRecDepth 20000 in
theorem tX10_status_31 {d N : Nat}  {a1 : Int}  {h h' : pv_H} {r : Int} (hd : 2 ≤ d)    (hf : fX10_status_31 N  a1  h = some (h', r)) : EV RX10 cX10_status 2 (some .int) false d pv_SM (MM h') (some (.inl r)) 31 [none, none] [] pv_SM (MM h) := by
  unfold fX10_status_31 at hf
  refine EV.iconst dX10_status_31 (by decide) (by decide) ?_
  refine EV.weak (L2 := [none, none]) trivial ?_
  exact tX10_status_32 hd    hf

set_option maxHeartbeats 4000000 in
set_option maxRecDepth 20000 in
theorem tX10_status {d N : Nat} {a1 : Int} {h h' : pv_H} {r : Int} (hd : 2 ≤ d)  (hf : fX10_status N a1 h = some (h', r)) : CALL yX10_status cX10_status 2 (some .int) d pv_SM (MM h) [.inr (.inr (0)), .inl (a1)] pv_SM (MM h') (some (.inl r)) := by
  unfold fX10_status at hf
  refine EV.call (own := RX10) (ini := false) rfl rfl (fun q => by cases q) ⟨[], (List.append_nil _).symm⟩ (Nat.le_of_ble_eq_true rfl) ?_
  refine EV.eqL (L2 := [some (.inr (.inr (0))), some (.inl (a1))]) rfl ?_
  refine EV.aload_n dX10_status_0 rfl rfl ?_
  refine EV.iconst dX10_status_1 (by decide) (by decide) ?_
  obtain ⟨h1, eh1, hf⟩ := pv_bo hf
  refine FV.putI dX10_status_2 sm_0 fl_10_1 rfl rfl eh1 ?_
  refine EV.iload_n dX10_status_5 rfl rfl ?_
  refine EV.i2l dX10_status_6 ?_
  refine EV.lconst (x := 1) dX10_status_7 (by decide) (by decide) (by decide) ?_
  refine EV.ldc2 (n := 7) dX10_status_8 kl_X10_409 (by decide) (by decide) ?_
  obtain ⟨r3, hc2, hf⟩ := pv_c1o hf
  refine EV.invS (As := [.inr (.inl (a1)), .inr (.inl (1)), .inr (.inl (7))]) (st := []) (d1 := d - 1) (sh1 := pv_SM) (h1 := MM h1) (r1 := (some (.inl r3))) dX10_status_11 md_X10_within ml_X10_193 st_X10_within (tX10_within (by omega)  hc2) (by omega) rfl rfl (Nat.le_of_ble_eq_true rfl) ⟨[], (List.append_nil _).symm⟩ ?_
  refine EV.eqS (st2 := [.inl (r3)]) rfl ?_
  refine EV.if_eq (tgt := 31) dX10_status_14 (by decide) (fun q4 => ?_) (fun q4 => ?_)
  · have hf := pv_gp hf q4
    refine EV.weak (L2 := [none, none]) trivial ?_
    exact tX10_status_31 hd    hf
  · have hf := pv_gn hf q4
    refine EV.iload_n dX10_status_17 rfl rfl ?_
    refine EV.iconst dX10_status_18 (by decide) (by decide) ?_
    refine EV.icmp_eq (tgt := 31) dX10_status_19 (by decide) (fun q5 => ?_) (fun q5 => ?_)
    · have hf := pv_gp hf q5
      refine EV.weak (L2 := [none, none]) trivial ?_
      exact tX10_status_31 hd    hf
    · have hf := pv_gn hf q5
      refine EV.aload_n dX10_status_22 rfl rfl ?_
      refine FV.getF (v := 1) dX10_status_23 sm_0 fl_10_7 rfl rfl hvm_0_1 ?_
      refine EV.iload_n dX10_status_26 rfl rfl ?_
      obtain ⟨g6, hf⟩ := pv_gd hf
      refine FV.iald dX10_status_27 sm_1 g6.1 g6.2 (j := (Int.toNat (a1))) rfl ?_
      refine EV.goto (tgt := 32) dX10_status_28 (by decide) ?_
      refine EV.weak (L2 := [none, none]) trivial ?_
      exact tX10_status_32 hd    hf

noncomputable def fX10_rodsOf_23 (N : Nat) (k4 : Int → Int → pv_H → Option (Int))  (v2 : Int) (s0 : Int) (s1 : Int) (h : pv_H) : Option (Int) :=
  pv_b (pv_w (s1 + s0)) fun x5 => pv_b (pv_w (v2 + 1)) fun x6 => k4 (x5) (x6) h

noncomputable def fX10_rodsOf_4 (N : Nat)   : Nat → Int → Int → pv_H → Option (Int)
  | 0, _, _, _ => none
  | n + 1, v1, v2, h => if 4 ≤ v2 then (some (v1)) else (pv_c1 (fX10_isRod N v2 h) fun r3 => if r3 = 0 then (fX10_rodsOf_23 N (fun v1_ v2_ hh => fX10_rodsOf_4 N   n v1_ v2_ hh)  (v2) (0) (v1) h) else (fX10_rodsOf_23 N (fun v1_ v2_ hh => fX10_rodsOf_4 N   n v1_ v2_ hh)  (v2) (1) (v1) h))

noncomputable def fX10_rodsOf (N : Nat)  (h : pv_H) : Option (Int) :=
  fX10_rodsOf_4 N   N (0) (0) h

set_option maxHeartbeats 4000000 in
set_option maxRecDepth 20000 in
theorem tX10_rodsOf_23 {d N : Nat} {k4 : Int → Int → pv_H → Option (Int)}  {v2 : Int} {s0 : Int} {s1 : Int} {h : pv_H} {r : Int} (hd : 3 ≤ d) (hk4 : ∀ (v1 : Int) (v2 : Int) , k4 v1 v2 h = some r → EV RX10 cX10_rodsOf 3 (some .int) false d pv_SM (MM h) (some (.inl r)) 4 [some (.inr (.inr (0))), some (.inl (v1)), some (.inl (v2))] [] pv_SM (MM h))   (hf : fX10_rodsOf_23 N k4  v2 s0 s1 h = some r) : EV RX10 cX10_rodsOf 3 (some .int) false d pv_SM (MM h) (some (.inl r)) 23 [some (.inr (.inr (0))), none, some (.inl (v2))] [.inl (s0), .inl (s1)] pv_SM (MM h) := by
  unfold fX10_rodsOf_23 at hf
  refine EV.iadd dX10_rodsOf_23 ?_
  obtain ⟨x5, ex5, hf⟩ := pv_bo hf
  refine FV.sti (L2 := [some (.inr (.inr (0))), some (.inl (x5)), some (.inl (v2))]) dX10_rodsOf_24 rfl (Nat.le_of_ble_eq_true rfl) ex5 rfl ?_
  obtain ⟨x6, ex6, hf⟩ := pv_bo hf
  refine FV.inc (L2 := [some (.inr (.inr (0))), some (.inl (x5)), some (.inl (x6))]) dX10_rodsOf_25 rfl (Nat.le_of_ble_eq_true rfl) ex6 rfl ?_
  refine EV.goto (tgt := 4) dX10_rodsOf_28 (by decide) ?_
  refine EV.weak (L2 := [some (.inr (.inr (0))), some (.inl (x5)), some (.inl (x6))]) (And.intro rfl (And.intro rfl (And.intro rfl trivial))) ?_
  exact hk4 _ _   hf

set_option maxHeartbeats 4000000 in
set_option maxRecDepth 20000 in
theorem tX10_rodsOf_4 {d N : Nat}   {h : pv_H} {r : Int} (hd : 3 ≤ d)   : ∀ (n : Nat) (v1 : Int) (v2 : Int) , fX10_rodsOf_4 N   n v1 v2 h = some r → EV RX10 cX10_rodsOf 3 (some .int) false d pv_SM (MM h) (some (.inl r)) 4 [some (.inr (.inr (0))), some (.inl (v1)), some (.inl (v2))] [] pv_SM (MM h) := by
  intro n
  induction n with
  | zero =>
    intro v1 v2   hf
    cases hf
  | succ n ih =>
    intro v1 v2   hf
    rw [fX10_rodsOf_4] at hf
    refine EV.iload_n dX10_rodsOf_4 rfl rfl ?_
    refine EV.iconst dX10_rodsOf_5 (by decide) (by decide) ?_
    refine EV.icmp_ge (tgt := 31) dX10_rodsOf_6 (by decide) (fun q1 => ?_) (fun q1 => ?_)
    · have hf := pv_gp hf q1
      refine EV.iload_n dX10_rodsOf_31 rfl rfl ?_
      exact FV.iretp dX10_rodsOf_32 hf
    · have hf := pv_gn hf q1
      refine EV.iload_n dX10_rodsOf_9 rfl rfl ?_
      refine EV.aload_n dX10_rodsOf_10 rfl rfl ?_
      refine EV.iload_n dX10_rodsOf_11 rfl rfl ?_
      obtain ⟨r3, hc2, hf⟩ := pv_c1o hf
      refine EV.invV (As := [.inl (v2)]) (st := [.inl (v1)]) (d1 := d - 1) (sh1 := pv_SM) (h1 := MM h) (r1 := (some (.inl r3))) dX10_rodsOf_12 sm_0 (by decide) md_X10_isRod ml_X10_277 im_X10_isRod se_X10_isRod (tX10_isRod (by omega)  hc2) (by omega) rfl rfl (Nat.le_of_ble_eq_true rfl) ⟨[], (List.append_nil _).symm⟩ ?_
      refine EV.eqS (st2 := [.inl (r3), .inl (v1)]) rfl ?_
      refine EV.if_eq (tgt := 22) dX10_rodsOf_15 (by decide) (fun q4 => ?_) (fun q4 => ?_)
      · have hf := pv_gp hf q4
        refine EV.iconst dX10_rodsOf_22 (by decide) (by decide) ?_
        refine EV.weak (L2 := [some (.inr (.inr (0))), none, some (.inl (v2))]) (And.intro rfl (And.intro rfl trivial)) ?_
        exact tX10_rodsOf_23 hd (ih)   hf
      · have hf := pv_gn hf q4
        refine EV.iconst dX10_rodsOf_18 (by decide) (by decide) ?_
        refine EV.goto (tgt := 23) dX10_rodsOf_19 (by decide) ?_
        refine EV.weak (L2 := [some (.inr (.inr (0))), none, some (.inl (v2))]) (And.intro rfl (And.intro rfl trivial)) ?_
        exact tX10_rodsOf_23 hd (ih)   hf

set_option maxHeartbeats 4000000 in
set_option maxRecDepth 20000 in
theorem tX10_rodsOf {d N : Nat}  {h : pv_H} {r : Int} (hd : 3 ≤ d)  (hf : fX10_rodsOf N  h = some r) : CALL yX10_rodsOf cX10_rodsOf 3 (some .int) d pv_SM (MM h) [.inr (.inr (0))] pv_SM (MM h) (some (.inl r)) := by
  unfold fX10_rodsOf at hf
  refine EV.call (own := RX10) (ini := false) rfl rfl (fun q => by cases q) ⟨[], (List.append_nil _).symm⟩ (Nat.le_of_ble_eq_true rfl) ?_
  refine EV.eqL (L2 := [some (.inr (.inr (0))), none, none]) rfl ?_
  refine EV.iconst dX10_rodsOf_0 (by decide) (by decide) ?_
  refine FV.sti (L2 := [some (.inr (.inr (0))), some (.inl (0)), none]) dX10_rodsOf_1 rfl (Nat.le_of_ble_eq_true rfl) rfl rfl ?_
  refine EV.iconst dX10_rodsOf_2 (by decide) (by decide) ?_
  refine FV.sti (L2 := [some (.inr (.inr (0))), some (.inl (0)), some (.inl (0))]) dX10_rodsOf_3 rfl (Nat.le_of_ble_eq_true rfl) rfl rfl ?_
  refine EV.weak (L2 := [some (.inr (.inr (0))), some (.inl (0)), some (.inl (0))]) (And.intro rfl (And.intro rfl (And.intro rfl trivial))) ?_
  exact tX10_rodsOf_4 hd   _ _ _   hf

noncomputable def fX10_ticksOf (N : Nat) (a1 : Int) (h : pv_H) : Option (pv_H × Int) :=
  pv_c1 (fX10_does N a1 1 h) fun h2 => some (h2, h2 0 28)

set_option maxHeartbeats 4000000 in
set_option maxRecDepth 20000 in
theorem tX10_ticksOf {d N : Nat} {a1 : Int} {h h' : pv_H} {r : Int} (hd : 4 ≤ d)  (hf : fX10_ticksOf N a1 h = some (h', r)) : CALL yX10_ticksOf cX10_ticksOf 2 (some .int) d pv_SM (MM h) [.inr (.inr (0)), .inl (a1)] pv_SM (MM h') (some (.inl r)) := by
  unfold fX10_ticksOf at hf
  refine EV.call (own := RX10) (ini := false) rfl rfl (fun q => by cases q) ⟨[], (List.append_nil _).symm⟩ (Nat.le_of_ble_eq_true rfl) ?_
  refine EV.eqL (L2 := [some (.inr (.inr (0))), some (.inl (a1))]) rfl ?_
  refine EV.aload_n dX10_ticksOf_0 rfl rfl ?_
  refine EV.iload_n dX10_ticksOf_1 rfl rfl ?_
  refine EV.iconst dX10_ticksOf_2 (by decide) (by decide) ?_
  obtain ⟨h2, hc1, hf⟩ := pv_c1o hf
  refine EV.invV (As := [.inl (a1), .inl (1)]) (st := []) (d1 := d - 1) (sh1 := pv_SM) (h1 := MM h2) (r1 := none) dX10_ticksOf_3 sm_0 (by decide) md_X10_does ml_X10_317 im_X10_does se_X10_does (tX10_does (by omega)  hc1) (by omega) rfl rfl (Nat.le_of_ble_eq_true rfl) ⟨[], (List.append_nil _).symm⟩ ?_
  refine EV.aload_n dX10_ticksOf_6 rfl rfl ?_
  refine FV.getI dX10_ticksOf_7 sm_0 fl_10_291 rfl ?_
  exact FV.iret dX10_ticksOf_10 hf

noncomputable def fX10_count_125 (N : Nat)  (a1 : Int) (s0 : Int) (h : pv_H) : Option (pv_H × Int) :=
  some (h, s0)

noncomputable def fX10_count (N : Nat) (a1 : Int) (h : pv_H) : Option (pv_H × Int) :=
  pv_b (pv_up h 0 0 0) fun h1 => pv_c1 (fX10_within N a1 2 10 h1) fun r3 => if r3 = 0 then (if a1 = 11 then (some (h1, h1 2 2636)) else (pv_c1 (fX10_within N a1 20 23 h1) fun r7 => if r7 = 0 then (pv_c1 (fX10_within N a1 30 33 h1) fun r10 => if r10 = 0 then (if a1 = 0 then (fX10_count_125 N  a1 (h1 0 6) h1) else (if a1 = 1 then (pv_c1 (fX10_rodsOf N  h1) fun r15 => fX10_count_125 N  a1 (r15) h1) else (fX10_count_125 N  a1 (-1) h1))) else (pv_c2b (fX10_ticksOf N (pv_w (a1 - 30)) h1) fun h17 r18 => some (h17, r18))) else (if 0 ≤ pv_w (968 + (pv_w (37 * (pv_w (a1 - 20))))) ∧ pv_w (968 + (pv_w (37 * (pv_w (a1 - 20))))) < 9159 then (some (h1, h1 2 (Int.toNat (pv_w (968 + (pv_w (37 * (pv_w (a1 - 20))))))))) else none))) else (if 0 ≤ pv_w ((pv_w (1116 + a1)) - 2) ∧ pv_w ((pv_w (1116 + a1)) - 2) < 9159 then (some (h1, h1 2 (Int.toNat (pv_w ((pv_w (1116 + a1)) - 2))))) else none)

set_option maxHeartbeats 4000000 in
set_option maxRecDepth 20000 in
theorem tX10_count_125 {d N : Nat}  {a1 : Int} {s0 : Int} {h h' : pv_H} {r : Int} (hd : 5 ≤ d)    (hf : fX10_count_125 N  a1 s0 h = some (h', r)) : EV RX10 cX10_count 2 (some .int) false d pv_SM (MM h') (some (.inl r)) 125 [none, none] [.inl (s0)] pv_SM (MM h) := by
  unfold fX10_count_125 at hf
  exact FV.iret dX10_count_125 hf

set_option maxHeartbeats 4000000 in
set_option maxRecDepth 20000 in
theorem tX10_count {d N : Nat} {a1 : Int} {h h' : pv_H} {r : Int} (hd : 5 ≤ d)  (hf : fX10_count N a1 h = some (h', r)) : CALL yX10_count cX10_count 2 (some .int) d pv_SM (MM h) [.inr (.inr (0)), .inl (a1)] pv_SM (MM h') (some (.inl r)) := by
  unfold fX10_count at hf
  refine EV.call (own := RX10) (ini := false) rfl rfl (fun q => by cases q) ⟨[], (List.append_nil _).symm⟩ (Nat.le_of_ble_eq_true rfl) ?_
  refine EV.eqL (L2 := [some (.inr (.inr (0))), some (.inl (a1))]) rfl ?_
  refine EV.aload_n dX10_count_0 rfl rfl ?_
  refine EV.iconst dX10_count_1 (by decide) (by decide) ?_
  obtain ⟨h1, eh1, hf⟩ := pv_bo hf
  refine FV.putI dX10_count_2 sm_0 fl_10_1 rfl rfl eh1 ?_
  refine EV.iload_n dX10_count_5 rfl rfl ?_
  refine EV.i2l dX10_count_6 ?_
  refine EV.ldc2 (n := 2) dX10_count_7 kl_X10_411 (by decide) (by decide) ?_
  refine EV.ldc2 (n := 10) dX10_count_10 kl_X10_462 (by decide) (by decide) ?_
  obtain ⟨r3, hc2, hf⟩ := pv_c1o hf
  refine EV.invS (As := [.inr (.inl (a1)), .inr (.inl (2)), .inr (.inl (10))]) (st := []) (d1 := d - 1) (sh1 := pv_SM) (h1 := MM h1) (r1 := (some (.inl r3))) dX10_count_13 md_X10_within ml_X10_193 st_X10_within (tX10_within (by omega)  hc2) (by omega) rfl rfl (Nat.le_of_ble_eq_true rfl) ⟨[], (List.append_nil _).symm⟩ ?_
  refine EV.eqS (st2 := [.inl (r3)]) rfl ?_
  refine EV.if_eq (tgt := 32) dX10_count_16 (by decide) (fun q4 => ?_) (fun q4 => ?_)
  · have hf := pv_gp hf q4
    refine EV.iload_n dX10_count_32 rfl rfl ?_
    refine EV.bipush dX10_count_33 (by decide) (by decide) ?_
    refine EV.icmp_ne (tgt := 47) dX10_count_35 (by decide) (fun q5 => ?_) (fun q5 => ?_)
    · have hf := pv_gn hf q5
      refine EV.iload_n dX10_count_47 rfl rfl ?_
      refine EV.i2l dX10_count_48 ?_
      refine EV.ldc2 (n := 20) dX10_count_49 kl_X10_464 (by decide) (by decide) ?_
      refine EV.ldc2 (n := 23) dX10_count_52 kl_X10_466 (by decide) (by decide) ?_
      obtain ⟨r7, hc6, hf⟩ := pv_c1o hf
      refine EV.invS (As := [.inr (.inl (a1)), .inr (.inl (20)), .inr (.inl (23))]) (st := []) (d1 := d - 1) (sh1 := pv_SM) (h1 := MM h1) (r1 := (some (.inl r7))) dX10_count_55 md_X10_within ml_X10_193 st_X10_within (tX10_within (by omega)  hc6) (by omega) rfl rfl (Nat.le_of_ble_eq_true rfl) ⟨[], (List.append_nil _).symm⟩ ?_
      refine EV.eqS (st2 := [.inl (r7)]) rfl ?_
      refine EV.if_eq (tgt := 78) dX10_count_58 (by decide) (fun q8 => ?_) (fun q8 => ?_)
      · have hf := pv_gp hf q8
        refine EV.iload_n dX10_count_78 rfl rfl ?_
        refine EV.i2l dX10_count_79 ?_
        refine EV.ldc2 (n := 30) dX10_count_80 kl_X10_246 (by decide) (by decide) ?_
        refine EV.ldc2 (n := 33) dX10_count_83 kl_X10_468 (by decide) (by decide) ?_
        obtain ⟨r10, hc9, hf⟩ := pv_c1o hf
        refine EV.invS (As := [.inr (.inl (a1)), .inr (.inl (30)), .inr (.inl (33))]) (st := []) (d1 := d - 1) (sh1 := pv_SM) (h1 := MM h1) (r1 := (some (.inl r10))) dX10_count_86 md_X10_within ml_X10_193 st_X10_within (tX10_within (by omega)  hc9) (by omega) rfl rfl (Nat.le_of_ble_eq_true rfl) ⟨[], (List.append_nil _).symm⟩ ?_
        refine EV.eqS (st2 := [.inl (r10)]) rfl ?_
        refine EV.if_eq (tgt := 101) dX10_count_89 (by decide) (fun q11 => ?_) (fun q11 => ?_)
        · have hf := pv_gp hf q11
          refine EV.iload_n dX10_count_101 rfl rfl ?_
          refine EV.if_ne (tgt := 112) dX10_count_102 (by decide) (fun q12 => ?_) (fun q12 => ?_)
          · have hf := pv_gn hf q12
            refine EV.iload_n dX10_count_112 rfl rfl ?_
            refine EV.iconst dX10_count_113 (by decide) (by decide) ?_
            refine EV.icmp_ne (tgt := 124) dX10_count_114 (by decide) (fun q13 => ?_) (fun q13 => ?_)
            · have hf := pv_gn hf q13
              refine EV.iconst dX10_count_124 (by decide) (by decide) ?_
              refine EV.weak (L2 := [none, none]) trivial ?_
              exact tX10_count_125 hd    hf
            · have hf := pv_gp hf q13
              refine EV.aload_n dX10_count_117 rfl rfl ?_
              obtain ⟨r15, hc14, hf⟩ := pv_c1o hf
              refine EV.invV (As := []) (st := []) (d1 := d - 1) (sh1 := pv_SM) (h1 := MM h1) (r1 := (some (.inl r15))) dX10_count_118 sm_0 (by decide) md_X10_rodsOf ml_X10_473 im_X10_rodsOf se_X10_rodsOf (tX10_rodsOf (by omega)  hc14) (by omega) rfl rfl (Nat.le_of_ble_eq_true rfl) ⟨[], (List.append_nil _).symm⟩ ?_
              refine EV.eqS (st2 := [.inl (r15)]) rfl ?_
              refine EV.goto (tgt := 125) dX10_count_121 (by decide) ?_
              refine EV.weak (L2 := [none, none]) trivial ?_
              exact tX10_count_125 hd    hf
          · have hf := pv_gp hf q12
            refine EV.aload_n dX10_count_105 rfl rfl ?_
            refine FV.getI dX10_count_106 sm_0 fl_10_128 rfl ?_
            refine EV.goto (tgt := 125) dX10_count_109 (by decide) ?_
            refine EV.weak (L2 := [none, none]) trivial ?_
            exact tX10_count_125 hd    hf
        · have hf := pv_gn hf q11
          refine EV.aload_n dX10_count_92 rfl rfl ?_
          refine EV.iload_n dX10_count_93 rfl rfl ?_
          refine EV.bipush dX10_count_94 (by decide) (by decide) ?_
          refine EV.isub dX10_count_96 ?_
          obtain ⟨h17, r18, hc16, hf⟩ := pv_c2o hf
          refine EV.invV (As := [.inl (pv_w (a1 - 30))]) (st := []) (d1 := d - 1) (sh1 := pv_SM) (h1 := MM h17) (r1 := (some (.inl r18))) dX10_count_97 sm_0 (by decide) md_X10_ticksOf ml_X10_470 im_X10_ticksOf se_X10_ticksOf (tX10_ticksOf (by omega)  hc16) (by omega) rfl rfl (Nat.le_of_ble_eq_true rfl) ⟨[], (List.append_nil _).symm⟩ ?_
          refine EV.eqS (st2 := [.inl (r18)]) rfl ?_
          exact FV.iret dX10_count_100 hf
      · have hf := pv_gn hf q8
        refine EV.aload_n dX10_count_61 rfl rfl ?_
        refine FV.getF (v := 2) dX10_count_62 sm_0 fl_10_17 rfl rfl hvm_0_2 ?_
        refine EV.sipush dX10_count_65 (by decide) (by decide) ?_
        refine EV.bipush dX10_count_68 (by decide) (by decide) ?_
        refine EV.iload_n dX10_count_70 rfl rfl ?_
        refine EV.bipush dX10_count_71 (by decide) (by decide) ?_
        refine EV.isub dX10_count_73 ?_
        refine EV.imul dX10_count_74 ?_
        refine EV.iadd dX10_count_75 ?_
        obtain ⟨g19, hf⟩ := pv_gd hf
        refine FV.iald dX10_count_76 sm_2 g19.1 g19.2 (j := (Int.toNat (pv_w (968 + (pv_w (37 * (pv_w (a1 - 20)))))))) rfl ?_
        exact FV.iret dX10_count_77 hf
    · have hf := pv_gp hf q5
      refine EV.aload_n dX10_count_38 rfl rfl ?_
      refine FV.getF (v := 2) dX10_count_39 sm_0 fl_10_17 rfl rfl hvm_0_2 ?_
      refine EV.sipush dX10_count_42 (by decide) (by decide) ?_
      refine FV.iald dX10_count_45 sm_2 (by decide) (by decide) (j := 2636) rfl ?_
      exact FV.iret dX10_count_46 hf
  · have hf := pv_gn hf q4
    refine EV.aload_n dX10_count_19 rfl rfl ?_
    refine FV.getF (v := 2) dX10_count_20 sm_0 fl_10_17 rfl rfl hvm_0_2 ?_
    refine EV.sipush dX10_count_23 (by decide) (by decide) ?_
    refine EV.iload_n dX10_count_26 rfl rfl ?_
    refine EV.iadd dX10_count_27 ?_
    refine EV.iconst dX10_count_28 (by decide) (by decide) ?_
    refine EV.isub dX10_count_29 ?_
    obtain ⟨g20, hf⟩ := pv_gd hf
    refine FV.iald dX10_count_30 sm_2 g20.1 g20.2 (j := (Int.toNat (pv_w ((pv_w (1116 + a1)) - 2)))) rfl ?_
    exact FV.iret dX10_count_31 hf

noncomputable def fr_M (N : Nat) : Nat → Nat → pv_H → Option (pv_H)
  | 0, _, _ => none
  | n + 1, w, h => if w = 0 then fX10_readTest N (fr_M N n) h else if w = 1 then fX10_readPart N (fr_M N n) h else fX10_readFact N (fr_M N n) h
theorem tr_M (N : Nat) : ∀ (n d : Nat), 10 + n ≤ d → (∀ {z1 z2 : pv_H}, fr_M N n 0 z1 = some z2 → CALL yX10_readTest cX10_readTest 1 none d pv_SM (MM z1) [.inr (.inr 0)] pv_SM (MM z2) none) ∧ (∀ {z1 z2 : pv_H}, fr_M N n 1 z1 = some z2 → CALL yX10_readPart cX10_readPart 1 none d pv_SM (MM z1) [.inr (.inr 0)] pv_SM (MM z2) none) ∧ (∀ {z1 z2 : pv_H}, fr_M N n 2 z1 = some z2 → CALL yX10_readFact cX10_readFact 3 none d pv_SM (MM z1) [.inr (.inr 0)] pv_SM (MM z2) none) := by
  intro n
  induction n with
  | zero =>
    intro d hd
    refine ⟨?_, ?_, ?_⟩ <;> intros <;> rename_i hf <;> cases hf
  | succ n ih =>
    intro d hd
    obtain ⟨i0, i1, i2⟩ := ih (d - 1) (by omega)
    refine ⟨?_, ?_, ?_⟩
    · intro z1 z2 hf
      rw [fr_M] at hf
      rw [if_pos rfl] at hf
      exact tX10_readTest (by omega) i0 i1 i2 hf
    · intro z1 z2 hf
      rw [fr_M] at hf
      rw [if_neg (by decide), if_pos rfl] at hf
      exact tX10_readPart (by omega) i0 i1 i2 hf
    · intro z1 z2 hf
      rw [fr_M] at hf
      rw [if_neg (by decide), if_neg (by decide)] at hf
      exact tX10_readFact (by omega) i0 i1 i2 hf
theorem tr_M0 {d N : Nat} {z1 z2 : pv_H} (hd : 50 ≤ d) (hf : fr_M N 40 0 z1 = some z2) : CALL yX10_readTest cX10_readTest 1 none d pv_SM (MM z1) [.inr (.inr 0)] pv_SM (MM z2) none := (tr_M N _ d hd).1 hf
theorem tr_M1 {d N : Nat} {z1 z2 : pv_H} (hd : 50 ≤ d) (hf : fr_M N 40 1 z1 = some z2) : CALL yX10_readPart cX10_readPart 1 none d pv_SM (MM z1) [.inr (.inr 0)] pv_SM (MM z2) none := (tr_M N _ d hd).2.1 hf
theorem tr_M2 {d N : Nat} {z1 z2 : pv_H} (hd : 50 ≤ d) (hf : fr_M N 40 2 z1 = some z2) : CALL yX10_readFact cX10_readFact 3 none d pv_SM (MM z1) [.inr (.inr 0)] pv_SM (MM z2) none := (tr_M N _ d hd).2.2 hf
noncomputable def fX10_readLook_31 (N : Nat)    (h : pv_H) : Option (pv_H) :=
  if (h 0 12) = 0 then (pv_c1 (fX10_next N  h) fun h11 => pv_c1 (fX10_needs N 23 h11) fun h13 => if 0 ≤ pv_w (1 + (h13 0 14)) ∧ pv_w (1 + (h13 0 14)) < 417 then (pv_b (pv_up h13 5 (Int.toNat (pv_w (1 + (h13 0 14)))) (h13 0 18)) fun h15 => pv_c1 (fr_M N 40 0  h15) fun h17 => if 0 ≤ pv_w (9 + (h17 0 14)) ∧ pv_w (9 + (h17 0 14)) < 417 then (pv_b (pv_up h17 5 (Int.toNat (pv_w (9 + (h17 0 14)))) (h17 0 18)) fun h19 => some h19) else none) else none) else (some h)

noncomputable def fX10_readLook (N : Nat)  (h : pv_H) : Option (pv_H) :=
  pv_c1 (fX10_is N 22 h) fun r2 => if r2 = 0 then (pv_c1 (fX10_fails N 2 h) fun h8 => fX10_readLook_31 N    h8) else (if (h 0 14) = 8 then (pv_c1 (fX10_fails N 4 h) fun h6 => fX10_readLook_31 N    h6) else (fX10_readLook_31 N    h))

set_option maxHeartbeats 4000000 in
set_option maxRecDepth 20000 in
theorem tX10_readLook_31 {d N : Nat}    {h h' : pv_H}  (hd : 52 ≤ d)    (hf : fX10_readLook_31 N    h = some h') : EV RX10 cX10_readLook 1 none false d pv_SM (MM h') none 31 [some (.inr (.inr (0)))] [] pv_SM (MM h) := by
  unfold fX10_readLook_31 at hf
  refine EV.aload_n dX10_readLook_31 rfl rfl ?_
  refine FV.getI dX10_readLook_32 sm_0 fl_10_175 rfl ?_
  refine EV.if_eq (tgt := 39) dX10_readLook_35 (by decide) (fun q9 => ?_) (fun q9 => ?_)
  · have hf := pv_gp hf q9
    refine EV.aload_n dX10_readLook_39 rfl rfl ?_
    obtain ⟨h11, hc10, hf⟩ := pv_c1o hf
    refine EV.invV (As := []) (st := []) (d1 := d - 1) (sh1 := pv_SM) (h1 := MM h11) (r1 := none) dX10_readLook_40 sm_0 (by decide) md_X10_next ml_X10_184 im_X10_next se_X10_next (tX10_next (by omega)  hc10) (by omega) rfl rfl (Nat.le_of_ble_eq_true rfl) ⟨[], (List.append_nil _).symm⟩ ?_
    refine EV.aload_n dX10_readLook_43 rfl rfl ?_
    refine EV.bipush dX10_readLook_44 (by decide) (by decide) ?_
    obtain ⟨h13, hc12, hf⟩ := pv_c1o hf
    refine EV.invV (As := [.inl (23)]) (st := []) (d1 := d - 1) (sh1 := pv_SM) (h1 := MM h13) (r1 := none) dX10_readLook_46 sm_0 (by decide) md_X10_needs ml_X10_201 im_X10_needs se_X10_needs (tX10_needs (by omega)  hc12) (by omega) rfl rfl (Nat.le_of_ble_eq_true rfl) ⟨[], (List.append_nil _).symm⟩ ?_
    refine EV.aload_n dX10_readLook_49 rfl rfl ?_
    refine FV.getF (v := 5) dX10_readLook_50 sm_0 fl_10_27 rfl rfl hvm_0_5 ?_
    refine EV.iconst dX10_readLook_53 (by decide) (by decide) ?_
    refine EV.aload_n dX10_readLook_54 rfl rfl ?_
    refine FV.getI dX10_readLook_55 sm_0 fl_10_204 rfl ?_
    refine EV.iadd dX10_readLook_58 ?_
    refine EV.aload_n dX10_readLook_59 rfl rfl ?_
    refine FV.getI dX10_readLook_60 sm_0 fl_10_224 rfl ?_
    obtain ⟨g14, hf⟩ := pv_gd hf
    obtain ⟨h15, eh15, hf⟩ := pv_bo hf
    refine FV.iast dX10_readLook_63 sm_5 g14.1 g14.2 (j := (Int.toNat (pv_w (1 + (h13 0 14))))) rfl eh15 ?_
    refine EV.aload_n dX10_readLook_64 rfl rfl ?_
    obtain ⟨h17, hc16, hf⟩ := pv_c1o hf
    refine EV.invV (As := []) (st := []) (d1 := d - 1) (sh1 := pv_SM) (h1 := MM h17) (r1 := none) dX10_readLook_65 sm_0 (by decide) md_X10_readTest ml_X10_239 im_X10_readTest se_X10_readTest (tr_M0 (by omega) hc16) (by omega) rfl rfl (Nat.le_of_ble_eq_true rfl) ⟨[], (List.append_nil _).symm⟩ ?_
    refine EV.aload_n dX10_readLook_68 rfl rfl ?_
    refine FV.getF (v := 5) dX10_readLook_69 sm_0 fl_10_27 rfl rfl hvm_0_5 ?_
    refine EV.bipush dX10_readLook_72 (by decide) (by decide) ?_
    refine EV.aload_n dX10_readLook_74 rfl rfl ?_
    refine FV.getI dX10_readLook_75 sm_0 fl_10_204 rfl ?_
    refine EV.iadd dX10_readLook_78 ?_
    refine EV.aload_n dX10_readLook_79 rfl rfl ?_
    refine FV.getI dX10_readLook_80 sm_0 fl_10_224 rfl ?_
    obtain ⟨g18, hf⟩ := pv_gd hf
    obtain ⟨h19, eh19, hf⟩ := pv_bo hf
    refine FV.iast dX10_readLook_83 sm_5 g18.1 g18.2 (j := (Int.toNat (pv_w (9 + (h17 0 14))))) rfl eh19 ?_
    exact FV.vret dX10_readLook_84 hf
  · have hf := pv_gn hf q9
    exact FV.vret dX10_readLook_38 hf

set_option maxHeartbeats 4000000 in
set_option maxRecDepth 20000 in
theorem tX10_readLook {d N : Nat}  {h h' : pv_H}  (hd : 52 ≤ d)  (hf : fX10_readLook N  h = some h') : CALL yX10_readLook cX10_readLook 1 none d pv_SM (MM h) [.inr (.inr (0))] pv_SM (MM h') none := by
  unfold fX10_readLook at hf
  refine EV.call (own := RX10) (ini := false) rfl rfl (fun q => by cases q) ⟨[], (List.append_nil _).symm⟩ (Nat.le_of_ble_eq_true rfl) ?_
  refine EV.eqL (L2 := [some (.inr (.inr (0)))]) rfl ?_
  refine EV.aload_n dX10_readLook_0 rfl rfl ?_
  refine EV.bipush dX10_readLook_1 (by decide) (by decide) ?_
  obtain ⟨r2, hc1, hf⟩ := pv_c1o hf
  refine EV.invV (As := [.inl (22)]) (st := []) (d1 := d - 1) (sh1 := pv_SM) (h1 := MM h) (r1 := (some (.inl r2))) dX10_readLook_3 sm_0 (by decide) md_X10_is ml_X10_181 im_X10_is se_X10_is (tX10_is (by omega)  hc1) (by omega) rfl rfl (Nat.le_of_ble_eq_true rfl) ⟨[], (List.append_nil _).symm⟩ ?_
  refine EV.eqS (st2 := [.inl (r2)]) rfl ?_
  refine EV.if_ne (tgt := 17) dX10_readLook_6 (by decide) (fun q3 => ?_) (fun q3 => ?_)
  · have hf := pv_gn hf q3
    refine EV.aload_n dX10_readLook_17 rfl rfl ?_
    refine FV.getI dX10_readLook_18 sm_0 fl_10_204 rfl ?_
    refine EV.bipush dX10_readLook_21 (by decide) (by decide) ?_
    refine EV.icmp_ne (tgt := 31) dX10_readLook_23 (by decide) (fun q4 => ?_) (fun q4 => ?_)
    · have hf := pv_gn hf q4
      refine EV.weak (L2 := [some (.inr (.inr (0)))]) (And.intro rfl trivial) ?_
      exact tX10_readLook_31 hd    hf
    · have hf := pv_gp hf q4
      refine EV.aload_n dX10_readLook_26 rfl rfl ?_
      refine EV.iconst dX10_readLook_27 (by decide) (by decide) ?_
      obtain ⟨h6, hc5, hf⟩ := pv_c1o hf
      refine EV.invV (As := [.inl (4)]) (st := []) (d1 := d - 1) (sh1 := pv_SM) (h1 := MM h6) (r1 := none) dX10_readLook_28 sm_0 (by decide) md_X10_fails ml_X10_190 im_X10_fails se_X10_fails (tX10_fails (by omega)  hc5) (by omega) rfl rfl (Nat.le_of_ble_eq_true rfl) ⟨[], (List.append_nil _).symm⟩ ?_
      refine EV.weak (L2 := [some (.inr (.inr (0)))]) (And.intro rfl trivial) ?_
      exact tX10_readLook_31 hd    hf
  · have hf := pv_gp hf q3
    refine EV.aload_n dX10_readLook_9 rfl rfl ?_
    refine EV.iconst dX10_readLook_10 (by decide) (by decide) ?_
    obtain ⟨h8, hc7, hf⟩ := pv_c1o hf
    refine EV.invV (As := [.inl (2)]) (st := []) (d1 := d - 1) (sh1 := pv_SM) (h1 := MM h8) (r1 := none) dX10_readLook_11 sm_0 (by decide) md_X10_fails ml_X10_190 im_X10_fails se_X10_fails (tX10_fails (by omega)  hc7) (by omega) rfl rfl (Nat.le_of_ble_eq_true rfl) ⟨[], (List.append_nil _).symm⟩ ?_
    refine EV.goto (tgt := 31) dX10_readLook_14 (by decide) ?_
    refine EV.weak (L2 := [some (.inr (.inr (0)))]) (And.intro rfl trivial) ?_
    exact tX10_readLook_31 hd    hf

noncomputable def fX10_text_38 (N : Nat)  (a1 : Int) (a2 : Int) (a3 : Int)  (h : pv_H) : Option (pv_H × Int) :=
  pv_c2b (fX10_no N (-2) h) fun h7 r8 => some (h7, r8)

noncomputable def fX10_text_405 (N : Nat)  (a1 : Int) (a2 : Int) (a3 : Int) : Nat → Int → Int → Int → pv_H → Option (pv_H × Int)
  | 0, _, _, _, _ => none
  | n + 1, v4, v5, v6, h => if v5 ≤ v6 then (some (h, h 0 14)) else (if 0 ≤ v6 ∧ v6 < 417 then (if 0 ≤ pv_w (v4 + v6) ∧ pv_w (v4 + v6) < 9159 then (pv_b (pv_up h 2 (Int.toNat (pv_w (v4 + v6))) (h 5 (Int.toNat (v6)))) fun h72 => pv_b (pv_w (v6 + 1)) fun x73 => fX10_text_405 N  a1 a2 a3 n (v4) (v5) (x73) h72) else none) else none)

noncomputable def fX10_text_400 (N : Nat)  (a1 : Int) (a2 : Int) (a3 : Int) (v4 : Int) (s0 : Int) (h : pv_H) : Option (pv_H × Int) :=
  fX10_text_405 N  a1 a2 a3 N (v4) (s0) (0) h

noncomputable def fX10_text_365 (N : Nat)  (a1 : Int) (a2 : Int) (a3 : Int) (s0 : Int) (h : pv_H) : Option (pv_H × Int) :=
  if a1 = 0 then (fX10_text_400 N  a1 a2 a3 (s0) (242) h) else (if a1 = 1 then (fX10_text_400 N  a1 a2 a3 (s0) (37) h) else (if a1 = 2 then (fX10_text_400 N  a1 a2 a3 (s0) (9) h) else (fX10_text_400 N  a1 a2 a3 (s0) (417) h)))

noncomputable def fX10_text_323 (N : Nat)  (a1 : Int) (a2 : Int) (a3 : Int)  (h : pv_H) : Option (pv_H × Int) :=
  if a1 = 0 then (fX10_text_365 N  a1 a2 a3 (pv_w (242 * a2)) h) else (if a1 = 1 then (fX10_text_365 N  a1 a2 a3 (pv_w (968 + (pv_w (37 * a2)))) h) else (if a1 = 2 then (fX10_text_365 N  a1 a2 a3 (1116) h) else (fX10_text_365 N  a1 a2 a3 (2636) h)))

noncomputable def fX10_text_308 (N : Nat)  (a1 : Int) (a2 : Int) (a3 : Int)  (h : pv_H) : Option (pv_H × Int) :=
  if a1 = 3 then (pv_b (pv_up h 5 0 (h 0 14)) fun h62 => fX10_text_323 N  a1 a2 a3  h62) else (fX10_text_323 N  a1 a2 a3  h)

noncomputable def fX10_text_292 (N : Nat)  (a1 : Int) (a2 : Int) (a3 : Int)  (h : pv_H) : Option (pv_H × Int) :=
  if a1 = 2 then (pv_b (pv_up h 5 8 (h 0 14)) fun h60 => fX10_text_308 N  a1 a2 a3  h60) else (fX10_text_308 N  a1 a2 a3  h)

noncomputable def fX10_text_249 (N : Nat)  (a1 : Int) (a2 : Int) (a3 : Int) (s0 : Int) (h : pv_H) : Option (pv_H × Int) :=
  pv_b (pv_up h 0 16 s0) fun h51 => if (h51 0 12) = 0 then (if a1 = 1 then (pv_b (pv_up h51 5 0 (h51 0 14)) fun h54 => fX10_text_292 N  a1 a2 a3  h54) else (fX10_text_292 N  a1 a2 a3  h51)) else (pv_b (pv_up h51 1 1 (pv_w ((h51 1 1) + 1))) fun h55 => some (h55, pv_w ((-10) - (h55 0 12))))

noncomputable def fX10_text_225 (N : Nat)  (a1 : Int) (a2 : Int) (a3 : Int)  (h : pv_H) : Option (pv_H × Int) :=
  pv_b (pv_up h 0 15 (h 0 12)) fun h38 => if (h38 0 12) = 0 then (fX10_text_249 N  a1 a2 a3 (-1) h38) else (fX10_text_249 N  a1 a2 a3 (h38 0 13) h38)

noncomputable def fX10_text_206 (N : Nat) (k140 : pv_H → Option (pv_H × Int)) (a1 : Int) (a2 : Int) (a3 : Int)  (h : pv_H) : Option (pv_H × Int) :=
  pv_c1 (fX10_needs N 39 h) fun h57 => pv_b (pv_up h57 0 14 (pv_w ((h57 0 14) + 1))) fun h58 => k140  h58

noncomputable def fX10_text_167 (N : Nat) (k140 : pv_H → Option (pv_H × Int)) (a1 : Int) (a2 : Int) (a3 : Int)  (h : pv_H) : Option (pv_H × Int) :=
  if a1 = 0 then (pv_c1 (fX10_readRodLine N  h) fun h50 => fX10_text_206 N (k140) a1 a2 a3  h50) else (if a1 = 1 then (pv_c1 (fX10_readStep N  h) fun h48 => fX10_text_206 N (k140) a1 a2 a3  h48) else (if a1 = 2 then (pv_c1 (fX10_readLaw N  h) fun h46 => fX10_text_206 N (k140) a1 a2 a3  h46) else (pv_c1 (fX10_readLook N  h) fun h44 => fX10_text_206 N (k140) a1 a2 a3  h44)))

noncomputable def fX10_text_140 (N : Nat)  (a1 : Int) (a2 : Int) (a3 : Int) : Nat → pv_H → Option (pv_H × Int)
  | 0, _ => none
  | n + 1, h => if (h 0 12) = 0 then (if (h 0 10) = 42 then (if a1 = 0 then (if (h 0 14) = 0 then (fX10_text_167 N (fun  hh => fX10_text_140 N  a1 a2 a3 n  hh) a1 a2 a3  h) else (fX10_text_225 N  a1 a2 a3  h)) else (fX10_text_225 N  a1 a2 a3  h)) else (fX10_text_167 N (fun  hh => fX10_text_140 N  a1 a2 a3 n  hh) a1 a2 a3  h)) else (fX10_text_225 N  a1 a2 a3  h)

noncomputable def fX10_text_136 (N : Nat)  (a1 : Int) (a2 : Int) (a3 : Int)  (h : pv_H) : Option (pv_H × Int) :=
  pv_c1 (fX10_next N  h) fun h33 => fX10_text_140 N  a1 a2 a3 N  h33

noncomputable def fX10_text_104 (N : Nat)  (a1 : Int) (a2 : Int) (a3 : Int) : Nat → Int → pv_H → Option (pv_H × Int)
  | 0, _, _ => none
  | n + 1, v4, h => if 417 ≤ v4 then (if a1 = 2 then (pv_c1 (fX10_plainLaw N 1 h) fun h28 => fX10_text_136 N  a1 a2 a3  h28) else (fX10_text_136 N  a1 a2 a3  h)) else (if 0 ≤ v4 ∧ v4 < 417 then (pv_b (pv_up h 5 (Int.toNat (v4)) 0) fun h30 => pv_b (pv_w (v4 + 1)) fun x31 => fX10_text_104 N  a1 a2 a3 n (x31) h30) else none)

noncomputable def fX10_text_32 (N : Nat)  (a1 : Int) (a2 : Int) (a3 : Int) (s0 : Int) (s1 : Int) (s2 : Int) (h : pv_H) : Option (pv_H × Int) :=
  pv_c1 (fX10_within N s2 s1 s0 h) fun r10 => if r10 = 0 then (fX10_text_38 N  a1 a2 a3  h) else (pv_c1 (fX10_within N a3 0 (h 0 6) h) fun r13 => if r13 = 0 then (pv_c2b (fX10_no N (-3) h) fun h23 r24 => some (h23, r24)) else (pv_b (pv_up h 0 9 a3) fun h15 => pv_b (pv_up h15 0 6 0) fun h16 => pv_b (pv_up h16 0 8 0) fun h17 => pv_b (pv_up h17 0 12 0) fun h18 => pv_b (pv_up h18 0 14 0) fun h19 => pv_b (pv_up h19 0 17 0) fun h20 => pv_b (pv_up h20 0 18 0) fun h21 => fX10_text_104 N  a1 a2 a3 N (0) h21))

noncomputable def fX10_text (N : Nat) (a1 : Int) (a2 : Int) (a3 : Int) (h : pv_H) : Option (pv_H × Int) :=
  pv_b (pv_up h 0 0 0) fun h1 => pv_c1 (fX10_within N a1 0 3 h1) fun r3 => if r3 = 0 then (fX10_text_38 N  a1 a2 a3  h1) else (if a1 ≤ 1 then (fX10_text_32 N  a1 a2 a3 (3) (0) (a2) h1) else (fX10_text_32 N  a1 a2 a3 (0) (0) (a2) h1))

set_option maxHeartbeats 4000000 in
set_option maxRecDepth 20000 in
theorem tX10_text_38 {d N : Nat}  {a1 : Int} {a2 : Int} {a3 : Int}  {h h' : pv_H} {r : Int} (hd : 53 ≤ d)    (hf : fX10_text_38 N  a1 a2 a3  h = some (h', r)) : EV RX10 cX10_text 7 (some .int) false d pv_SM (MM h') (some (.inl r)) 38 [some (.inr (.inr (0))), none, none, none, none, none, none] [] pv_SM (MM h) := by
  unfold fX10_text_38 at hf
  refine EV.aload_n dX10_text_38 rfl rfl ?_
  refine EV.bipush dX10_text_39 (by decide) (by decide) ?_
  obtain ⟨h7, r8, hc6, hf⟩ := pv_c2o hf
  refine EV.invV (As := [.inl (-2)]) (st := []) (d1 := d - 1) (sh1 := pv_SM) (h1 := MM h7) (r1 := (some (.inl r8))) dX10_text_41 sm_0 (by decide) md_X10_no ml_X10_131 im_X10_no se_X10_no (tX10_no (by omega)  hc6) (by omega) rfl rfl (Nat.le_of_ble_eq_true rfl) ⟨[], (List.append_nil _).symm⟩ ?_
  refine EV.eqS (st2 := [.inl (r8)]) rfl ?_
  exact FV.iret dX10_text_44 hf

set_option maxHeartbeats 4000000 in
set_option maxRecDepth 20000 in
theorem tX10_text_405 {d N : Nat}  {a1 : Int} {a2 : Int} {a3 : Int} {h' : pv_H} {r : Int} (hd : 53 ≤ d)   : ∀ (n : Nat) (v4 : Int) (v5 : Int) (v6 : Int)  (h : pv_H), fX10_text_405 N  a1 a2 a3 n v4 v5 v6 h = some (h', r) → EV RX10 cX10_text 7 (some .int) false d pv_SM (MM h') (some (.inl r)) 405 [some (.inr (.inr (0))), none, none, none, some (.inl (v4)), some (.inl (v5)), some (.inl (v6))] [] pv_SM (MM h) := by
  intro n
  induction n with
  | zero =>
    intro v4 v5 v6  h hf
    cases hf
  | succ n ih =>
    intro v4 v5 v6  h hf
    rw [fX10_text_405] at hf
    refine EV.iload dX10_text_405 rfl ?_
    refine EV.iload dX10_text_407 rfl ?_
    refine EV.icmp_ge (tgt := 435) dX10_text_409 (by decide) (fun q69 => ?_) (fun q69 => ?_)
    · have hf := pv_gp hf q69
      refine EV.aload_n dX10_text_435 rfl rfl ?_
      refine FV.getI dX10_text_436 sm_0 fl_10_204 rfl ?_
      exact FV.iret dX10_text_439 hf
    · have hf := pv_gn hf q69
      refine EV.aload_n dX10_text_412 rfl rfl ?_
      refine FV.getF (v := 2) dX10_text_413 sm_0 fl_10_17 rfl rfl hvm_0_2 ?_
      refine EV.iload dX10_text_416 rfl ?_
      refine EV.iload dX10_text_418 rfl ?_
      refine EV.iadd dX10_text_420 ?_
      refine EV.aload_n dX10_text_421 rfl rfl ?_
      refine FV.getF (v := 5) dX10_text_422 sm_0 fl_10_27 rfl rfl hvm_0_5 ?_
      refine EV.iload dX10_text_425 rfl ?_
      obtain ⟨g70, hf⟩ := pv_gd hf
      refine FV.iald dX10_text_427 sm_5 g70.1 g70.2 (j := (Int.toNat (v6))) rfl ?_
      obtain ⟨g71, hf⟩ := pv_gd hf
      obtain ⟨h72, eh72, hf⟩ := pv_bo hf
      refine FV.iast dX10_text_428 sm_2 g71.1 g71.2 (j := (Int.toNat (pv_w (v4 + v6)))) rfl eh72 ?_
      obtain ⟨x73, ex73, hf⟩ := pv_bo hf
      refine FV.inc (L2 := [some (.inr (.inr (0))), none, none, none, some (.inl (v4)), some (.inl (v5)), some (.inl (x73))]) dX10_text_429 rfl (Nat.le_of_ble_eq_true rfl) ex73 rfl ?_
      refine EV.goto (tgt := 405) dX10_text_432 (by decide) ?_
      refine EV.weak (L2 := [some (.inr (.inr (0))), none, none, none, some (.inl (v4)), some (.inl (v5)), some (.inl (x73))]) (And.intro rfl (And.intro rfl (And.intro rfl (And.intro rfl trivial)))) ?_
      exact ih _ _ _  _ hf

set_option maxHeartbeats 4000000 in
set_option maxRecDepth 20000 in
theorem tX10_text_400 {d N : Nat}  {a1 : Int} {a2 : Int} {a3 : Int} {v4 : Int} {s0 : Int} {h h' : pv_H} {r : Int} (hd : 53 ≤ d)    (hf : fX10_text_400 N  a1 a2 a3 v4 s0 h = some (h', r)) : EV RX10 cX10_text 7 (some .int) false d pv_SM (MM h') (some (.inl r)) 400 [some (.inr (.inr (0))), none, none, none, some (.inl (v4)), none, none] [.inl (s0)] pv_SM (MM h) := by
  unfold fX10_text_400 at hf
  refine FV.stiw (L2 := [some (.inr (.inr (0))), none, none, none, some (.inl (v4)), some (.inl (s0)), none]) dX10_text_400 (Nat.le_of_ble_eq_true rfl) rfl rfl ?_
  refine EV.iconst dX10_text_402 (by decide) (by decide) ?_
  refine FV.stiw (L2 := [some (.inr (.inr (0))), none, none, none, some (.inl (v4)), some (.inl (s0)), some (.inl (0))]) dX10_text_403 (Nat.le_of_ble_eq_true rfl) rfl rfl ?_
  refine EV.weak (L2 := [some (.inr (.inr (0))), none, none, none, some (.inl (v4)), some (.inl (s0)), some (.inl (0))]) (And.intro rfl (And.intro rfl (And.intro rfl (And.intro rfl trivial)))) ?_
  exact tX10_text_405 hd   _ _ _ _  _ hf

set_option maxHeartbeats 4000000 in
set_option maxRecDepth 20000 in
theorem tX10_text_365 {d N : Nat}  {a1 : Int} {a2 : Int} {a3 : Int} {s0 : Int} {h h' : pv_H} {r : Int} (hd : 53 ≤ d)    (hf : fX10_text_365 N  a1 a2 a3 s0 h = some (h', r)) : EV RX10 cX10_text 7 (some .int) false d pv_SM (MM h') (some (.inl r)) 365 [some (.inr (.inr (0))), some (.inl (a1)), none, none, none, none, none] [.inl (s0)] pv_SM (MM h) := by
  unfold fX10_text_365 at hf
  refine FV.stiw (L2 := [some (.inr (.inr (0))), some (.inl (a1)), none, none, some (.inl (s0)), none, none]) dX10_text_365 (Nat.le_of_ble_eq_true rfl) rfl rfl ?_
  refine EV.iload_n dX10_text_367 rfl rfl ?_
  refine EV.if_ne (tgt := 377) dX10_text_368 (by decide) (fun q66 => ?_) (fun q66 => ?_)
  · have hf := pv_gn hf q66
    refine EV.iload_n dX10_text_377 rfl rfl ?_
    refine EV.iconst dX10_text_378 (by decide) (by decide) ?_
    refine EV.icmp_ne (tgt := 387) dX10_text_379 (by decide) (fun q67 => ?_) (fun q67 => ?_)
    · have hf := pv_gn hf q67
      refine EV.iload_n dX10_text_387 rfl rfl ?_
      refine EV.iconst dX10_text_388 (by decide) (by decide) ?_
      refine EV.icmp_ne (tgt := 397) dX10_text_389 (by decide) (fun q68 => ?_) (fun q68 => ?_)
      · have hf := pv_gn hf q68
        refine EV.sipush dX10_text_397 (by decide) (by decide) ?_
        refine EV.weak (L2 := [some (.inr (.inr (0))), none, none, none, some (.inl (s0)), none, none]) (And.intro rfl (And.intro rfl trivial)) ?_
        exact tX10_text_400 hd    hf
      · have hf := pv_gp hf q68
        refine EV.bipush dX10_text_392 (by decide) (by decide) ?_
        refine EV.goto (tgt := 400) dX10_text_394 (by decide) ?_
        refine EV.weak (L2 := [some (.inr (.inr (0))), none, none, none, some (.inl (s0)), none, none]) (And.intro rfl (And.intro rfl trivial)) ?_
        exact tX10_text_400 hd    hf
    · have hf := pv_gp hf q67
      refine EV.bipush dX10_text_382 (by decide) (by decide) ?_
      refine EV.goto (tgt := 400) dX10_text_384 (by decide) ?_
      refine EV.weak (L2 := [some (.inr (.inr (0))), none, none, none, some (.inl (s0)), none, none]) (And.intro rfl (And.intro rfl trivial)) ?_
      exact tX10_text_400 hd    hf
  · have hf := pv_gp hf q66
    refine EV.sipush dX10_text_371 (by decide) (by decide) ?_
    refine EV.goto (tgt := 400) dX10_text_374 (by decide) ?_
    refine EV.weak (L2 := [some (.inr (.inr (0))), none, none, none, some (.inl (s0)), none, none]) (And.intro rfl (And.intro rfl trivial)) ?_
    exact tX10_text_400 hd    hf

set_option maxHeartbeats 4000000 in
set_option maxRecDepth 20000 in
theorem tX10_text_323 {d N : Nat}  {a1 : Int} {a2 : Int} {a3 : Int}  {h h' : pv_H} {r : Int} (hd : 53 ≤ d)    (hf : fX10_text_323 N  a1 a2 a3  h = some (h', r)) : EV RX10 cX10_text 7 (some .int) false d pv_SM (MM h') (some (.inl r)) 323 [some (.inr (.inr (0))), some (.inl (a1)), some (.inl (a2)), none, none, none, none] [] pv_SM (MM h) := by
  unfold fX10_text_323 at hf
  refine EV.iload_n dX10_text_323 rfl rfl ?_
  refine EV.if_ne (tgt := 335) dX10_text_324 (by decide) (fun q63 => ?_) (fun q63 => ?_)
  · have hf := pv_gn hf q63
    refine EV.iload_n dX10_text_335 rfl rfl ?_
    refine EV.iconst dX10_text_336 (by decide) (by decide) ?_
    refine EV.icmp_ne (tgt := 351) dX10_text_337 (by decide) (fun q64 => ?_) (fun q64 => ?_)
    · have hf := pv_gn hf q64
      refine EV.iload_n dX10_text_351 rfl rfl ?_
      refine EV.iconst dX10_text_352 (by decide) (by decide) ?_
      refine EV.icmp_ne (tgt := 362) dX10_text_353 (by decide) (fun q65 => ?_) (fun q65 => ?_)
      · have hf := pv_gn hf q65
        refine EV.sipush dX10_text_362 (by decide) (by decide) ?_
        refine EV.weak (L2 := [some (.inr (.inr (0))), some (.inl (a1)), none, none, none, none, none]) (And.intro rfl (And.intro rfl trivial)) ?_
        exact tX10_text_365 hd    hf
      · have hf := pv_gp hf q65
        refine EV.sipush dX10_text_356 (by decide) (by decide) ?_
        refine EV.goto (tgt := 365) dX10_text_359 (by decide) ?_
        refine EV.weak (L2 := [some (.inr (.inr (0))), some (.inl (a1)), none, none, none, none, none]) (And.intro rfl (And.intro rfl trivial)) ?_
        exact tX10_text_365 hd    hf
    · have hf := pv_gp hf q64
      refine EV.sipush dX10_text_340 (by decide) (by decide) ?_
      refine EV.bipush dX10_text_343 (by decide) (by decide) ?_
      refine EV.iload_n dX10_text_345 rfl rfl ?_
      refine EV.imul dX10_text_346 ?_
      refine EV.iadd dX10_text_347 ?_
      refine EV.goto (tgt := 365) dX10_text_348 (by decide) ?_
      refine EV.weak (L2 := [some (.inr (.inr (0))), some (.inl (a1)), none, none, none, none, none]) (And.intro rfl (And.intro rfl trivial)) ?_
      exact tX10_text_365 hd    hf
  · have hf := pv_gp hf q63
    refine EV.sipush dX10_text_327 (by decide) (by decide) ?_
    refine EV.iload_n dX10_text_330 rfl rfl ?_
    refine EV.imul dX10_text_331 ?_
    refine EV.goto (tgt := 365) dX10_text_332 (by decide) ?_
    refine EV.weak (L2 := [some (.inr (.inr (0))), some (.inl (a1)), none, none, none, none, none]) (And.intro rfl (And.intro rfl trivial)) ?_
    exact tX10_text_365 hd    hf

set_option maxHeartbeats 4000000 in
set_option maxRecDepth 20000 in
theorem tX10_text_308 {d N : Nat}  {a1 : Int} {a2 : Int} {a3 : Int}  {h h' : pv_H} {r : Int} (hd : 53 ≤ d)    (hf : fX10_text_308 N  a1 a2 a3  h = some (h', r)) : EV RX10 cX10_text 7 (some .int) false d pv_SM (MM h') (some (.inl r)) 308 [some (.inr (.inr (0))), some (.inl (a1)), some (.inl (a2)), none, none, none, none] [] pv_SM (MM h) := by
  unfold fX10_text_308 at hf
  refine EV.iload_n dX10_text_308 rfl rfl ?_
  refine EV.iconst dX10_text_309 (by decide) (by decide) ?_
  refine EV.icmp_ne (tgt := 323) dX10_text_310 (by decide) (fun q61 => ?_) (fun q61 => ?_)
  · have hf := pv_gn hf q61
    refine EV.weak (L2 := [some (.inr (.inr (0))), some (.inl (a1)), some (.inl (a2)), none, none, none, none]) (And.intro rfl (And.intro rfl (And.intro rfl trivial))) ?_
    exact tX10_text_323 hd    hf
  · have hf := pv_gp hf q61
    refine EV.aload_n dX10_text_313 rfl rfl ?_
    refine FV.getF (v := 5) dX10_text_314 sm_0 fl_10_27 rfl rfl hvm_0_5 ?_
    refine EV.iconst dX10_text_317 (by decide) (by decide) ?_
    refine EV.aload_n dX10_text_318 rfl rfl ?_
    refine FV.getI dX10_text_319 sm_0 fl_10_204 rfl ?_
    obtain ⟨h62, eh62, hf⟩ := pv_bo hf
    refine FV.iast dX10_text_322 sm_5 (by decide) (by decide) (j := 0) rfl eh62 ?_
    refine EV.weak (L2 := [some (.inr (.inr (0))), some (.inl (a1)), some (.inl (a2)), none, none, none, none]) (And.intro rfl (And.intro rfl (And.intro rfl trivial))) ?_
    exact tX10_text_323 hd    hf

set_option maxHeartbeats 4000000 in
set_option maxRecDepth 20000 in
theorem tX10_text_292 {d N : Nat}  {a1 : Int} {a2 : Int} {a3 : Int}  {h h' : pv_H} {r : Int} (hd : 53 ≤ d)    (hf : fX10_text_292 N  a1 a2 a3  h = some (h', r)) : EV RX10 cX10_text 7 (some .int) false d pv_SM (MM h') (some (.inl r)) 292 [some (.inr (.inr (0))), some (.inl (a1)), some (.inl (a2)), none, none, none, none] [] pv_SM (MM h) := by
  unfold fX10_text_292 at hf
  refine EV.iload_n dX10_text_292 rfl rfl ?_
  refine EV.iconst dX10_text_293 (by decide) (by decide) ?_
  refine EV.icmp_ne (tgt := 308) dX10_text_294 (by decide) (fun q59 => ?_) (fun q59 => ?_)
  · have hf := pv_gn hf q59
    refine EV.weak (L2 := [some (.inr (.inr (0))), some (.inl (a1)), some (.inl (a2)), none, none, none, none]) (And.intro rfl (And.intro rfl (And.intro rfl trivial))) ?_
    exact tX10_text_308 hd    hf
  · have hf := pv_gp hf q59
    refine EV.aload_n dX10_text_297 rfl rfl ?_
    refine FV.getF (v := 5) dX10_text_298 sm_0 fl_10_27 rfl rfl hvm_0_5 ?_
    refine EV.bipush dX10_text_301 (by decide) (by decide) ?_
    refine EV.aload_n dX10_text_303 rfl rfl ?_
    refine FV.getI dX10_text_304 sm_0 fl_10_204 rfl ?_
    obtain ⟨h60, eh60, hf⟩ := pv_bo hf
    refine FV.iast dX10_text_307 sm_5 (by decide) (by decide) (j := 8) rfl eh60 ?_
    refine EV.weak (L2 := [some (.inr (.inr (0))), some (.inl (a1)), some (.inl (a2)), none, none, none, none]) (And.intro rfl (And.intro rfl (And.intro rfl trivial))) ?_
    exact tX10_text_308 hd    hf

set_option maxHeartbeats 4000000 in
set_option maxRecDepth 20000 in
theorem tX10_text_249 {d N : Nat}  {a1 : Int} {a2 : Int} {a3 : Int} {s0 : Int} {h h' : pv_H} {r : Int} (hd : 53 ≤ d)    (hf : fX10_text_249 N  a1 a2 a3 s0 h = some (h', r)) : EV RX10 cX10_text 7 (some .int) false d pv_SM (MM h') (some (.inl r)) 249 [some (.inr (.inr (0))), some (.inl (a1)), some (.inl (a2)), none, none, none, none] [.inl (s0), .inr (.inr (0))] pv_SM (MM h) := by
  unfold fX10_text_249 at hf
  obtain ⟨h51, eh51, hf⟩ := pv_bo hf
  refine FV.putI dX10_text_249 sm_0 fl_10_30 rfl rfl eh51 ?_
  refine EV.aload_n dX10_text_252 rfl rfl ?_
  refine FV.getI dX10_text_253 sm_0 fl_10_175 rfl ?_
  refine EV.if_eq (tgt := 277) dX10_text_256 (by decide) (fun q52 => ?_) (fun q52 => ?_)
  · have hf := pv_gp hf q52
    refine EV.iload_n dX10_text_277 rfl rfl ?_
    refine EV.iconst dX10_text_278 (by decide) (by decide) ?_
    refine EV.icmp_ne (tgt := 292) dX10_text_279 (by decide) (fun q53 => ?_) (fun q53 => ?_)
    · have hf := pv_gn hf q53
      refine EV.weak (L2 := [some (.inr (.inr (0))), some (.inl (a1)), some (.inl (a2)), none, none, none, none]) (And.intro rfl (And.intro rfl (And.intro rfl trivial))) ?_
      exact tX10_text_292 hd    hf
    · have hf := pv_gp hf q53
      refine EV.aload_n dX10_text_282 rfl rfl ?_
      refine FV.getF (v := 5) dX10_text_283 sm_0 fl_10_27 rfl rfl hvm_0_5 ?_
      refine EV.iconst dX10_text_286 (by decide) (by decide) ?_
      refine EV.aload_n dX10_text_287 rfl rfl ?_
      refine FV.getI dX10_text_288 sm_0 fl_10_204 rfl ?_
      obtain ⟨h54, eh54, hf⟩ := pv_bo hf
      refine FV.iast dX10_text_291 sm_5 (by decide) (by decide) (j := 0) rfl eh54 ?_
      refine EV.weak (L2 := [some (.inr (.inr (0))), some (.inl (a1)), some (.inl (a2)), none, none, none, none]) (And.intro rfl (And.intro rfl (And.intro rfl trivial))) ?_
      exact tX10_text_292 hd    hf
  · have hf := pv_gn hf q52
    refine EV.aload_n dX10_text_259 rfl rfl ?_
    refine FV.getF (v := 1) dX10_text_260 sm_0 fl_10_7 rfl rfl hvm_0_1 ?_
    refine EV.iconst dX10_text_263 (by decide) (by decide) ?_
    refine EV.dup2 dX10_text_264 rfl rfl ?_
    refine FV.iald dX10_text_265 sm_1 (by decide) (by decide) (j := 1) rfl ?_
    refine EV.iconst dX10_text_266 (by decide) (by decide) ?_
    refine EV.iadd dX10_text_267 ?_
    obtain ⟨h55, eh55, hf⟩ := pv_bo hf
    refine FV.iast dX10_text_268 sm_1 (by decide) (by decide) (j := 1) rfl eh55 ?_
    refine EV.bipush dX10_text_269 (by decide) (by decide) ?_
    refine EV.aload_n dX10_text_271 rfl rfl ?_
    refine FV.getI dX10_text_272 sm_0 fl_10_175 rfl ?_
    refine EV.isub dX10_text_275 ?_
    exact FV.iret dX10_text_276 hf

set_option maxHeartbeats 4000000 in
set_option maxRecDepth 20000 in
theorem tX10_text_225 {d N : Nat}  {a1 : Int} {a2 : Int} {a3 : Int}  {h h' : pv_H} {r : Int} (hd : 53 ≤ d)    (hf : fX10_text_225 N  a1 a2 a3  h = some (h', r)) : EV RX10 cX10_text 7 (some .int) false d pv_SM (MM h') (some (.inl r)) 225 [some (.inr (.inr (0))), some (.inl (a1)), some (.inl (a2)), none, none, none, none] [] pv_SM (MM h) := by
  unfold fX10_text_225 at hf
  refine EV.aload_n dX10_text_225 rfl rfl ?_
  refine EV.aload_n dX10_text_226 rfl rfl ?_
  refine FV.getI dX10_text_227 sm_0 fl_10_175 rfl ?_
  obtain ⟨h38, eh38, hf⟩ := pv_bo hf
  refine FV.putI dX10_text_230 sm_0 fl_10_264 rfl rfl eh38 ?_
  refine EV.aload_n dX10_text_233 rfl rfl ?_
  refine EV.aload_n dX10_text_234 rfl rfl ?_
  refine FV.getI dX10_text_235 sm_0 fl_10_175 rfl ?_
  refine EV.if_ne (tgt := 245) dX10_text_238 (by decide) (fun q39 => ?_) (fun q39 => ?_)
  · have hf := pv_gn hf q39
    refine EV.aload_n dX10_text_245 rfl rfl ?_
    refine FV.getI dX10_text_246 sm_0 fl_10_178 rfl ?_
    refine EV.weak (L2 := [some (.inr (.inr (0))), some (.inl (a1)), some (.inl (a2)), none, none, none, none]) (And.intro rfl (And.intro rfl (And.intro rfl trivial))) ?_
    exact tX10_text_249 hd    hf
  · have hf := pv_gp hf q39
    refine EV.iconst dX10_text_241 (by decide) (by decide) ?_
    refine EV.goto (tgt := 249) dX10_text_242 (by decide) ?_
    refine EV.weak (L2 := [some (.inr (.inr (0))), some (.inl (a1)), some (.inl (a2)), none, none, none, none]) (And.intro rfl (And.intro rfl (And.intro rfl trivial))) ?_
    exact tX10_text_249 hd    hf

set_option maxHeartbeats 4000000 in
set_option maxRecDepth 20000 in
theorem tX10_text_206 {d N : Nat} {k140 : pv_H → Option (pv_H × Int)} {a1 : Int} {a2 : Int} {a3 : Int}  {h h' : pv_H} {r : Int} (hd : 53 ≤ d) (hk140 : ∀   (hh : pv_H), k140  hh = some (h', r) → EV RX10 cX10_text 7 (some .int) false d pv_SM (MM h') (some (.inl r)) 140 [some (.inr (.inr (0))), some (.inl (a1)), some (.inl (a2)), none, none, none, none] [] pv_SM (MM hh))   (hf : fX10_text_206 N k140 a1 a2 a3  h = some (h', r)) : EV RX10 cX10_text 7 (some .int) false d pv_SM (MM h') (some (.inl r)) 206 [some (.inr (.inr (0))), some (.inl (a1)), some (.inl (a2)), none, none, none, none] [] pv_SM (MM h) := by
  unfold fX10_text_206 at hf
  refine EV.aload_n dX10_text_206 rfl rfl ?_
  refine EV.bipush dX10_text_207 (by decide) (by decide) ?_
  obtain ⟨h57, hc56, hf⟩ := pv_c1o hf
  refine EV.invV (As := [.inl (39)]) (st := []) (d1 := d - 1) (sh1 := pv_SM) (h1 := MM h57) (r1 := none) dX10_text_209 sm_0 (by decide) md_X10_needs ml_X10_201 im_X10_needs se_X10_needs (tX10_needs (by omega)  hc56) (by omega) rfl rfl (Nat.le_of_ble_eq_true rfl) ⟨[], (List.append_nil _).symm⟩ ?_
  refine EV.aload_n dX10_text_212 rfl rfl ?_
  refine EV.dup dX10_text_213 rfl ?_
  refine FV.getI dX10_text_214 sm_0 fl_10_204 rfl ?_
  refine EV.iconst dX10_text_217 (by decide) (by decide) ?_
  refine EV.iadd dX10_text_218 ?_
  obtain ⟨h58, eh58, hf⟩ := pv_bo hf
  refine FV.putI dX10_text_219 sm_0 fl_10_204 rfl rfl eh58 ?_
  refine EV.goto (tgt := 140) dX10_text_222 (by decide) ?_
  refine EV.weak (L2 := [some (.inr (.inr (0))), some (.inl (a1)), some (.inl (a2)), none, none, none, none]) (And.intro rfl (And.intro rfl (And.intro rfl trivial))) ?_
  exact hk140   _ hf

set_option maxHeartbeats 4000000 in
set_option maxRecDepth 20000 in
theorem tX10_text_167 {d N : Nat} {k140 : pv_H → Option (pv_H × Int)} {a1 : Int} {a2 : Int} {a3 : Int}  {h h' : pv_H} {r : Int} (hd : 53 ≤ d) (hk140 : ∀   (hh : pv_H), k140  hh = some (h', r) → EV RX10 cX10_text 7 (some .int) false d pv_SM (MM h') (some (.inl r)) 140 [some (.inr (.inr (0))), some (.inl (a1)), some (.inl (a2)), none, none, none, none] [] pv_SM (MM hh))   (hf : fX10_text_167 N k140 a1 a2 a3  h = some (h', r)) : EV RX10 cX10_text 7 (some .int) false d pv_SM (MM h') (some (.inl r)) 167 [some (.inr (.inr (0))), some (.inl (a1)), some (.inl (a2)), none, none, none, none] [] pv_SM (MM h) := by
  unfold fX10_text_167 at hf
  refine EV.iload_n dX10_text_167 rfl rfl ?_
  refine EV.if_ne (tgt := 178) dX10_text_168 (by decide) (fun q40 => ?_) (fun q40 => ?_)
  · have hf := pv_gn hf q40
    refine EV.iload_n dX10_text_178 rfl rfl ?_
    refine EV.iconst dX10_text_179 (by decide) (by decide) ?_
    refine EV.icmp_ne (tgt := 190) dX10_text_180 (by decide) (fun q41 => ?_) (fun q41 => ?_)
    · have hf := pv_gn hf q41
      refine EV.iload_n dX10_text_190 rfl rfl ?_
      refine EV.iconst dX10_text_191 (by decide) (by decide) ?_
      refine EV.icmp_ne (tgt := 202) dX10_text_192 (by decide) (fun q42 => ?_) (fun q42 => ?_)
      · have hf := pv_gn hf q42
        refine EV.aload_n dX10_text_202 rfl rfl ?_
        obtain ⟨h44, hc43, hf⟩ := pv_c1o hf
        refine EV.invV (As := []) (st := []) (d1 := d - 1) (sh1 := pv_SM) (h1 := MM h44) (r1 := none) dX10_text_203 sm_0 (by decide) md_X10_readLook ml_X10_261 im_X10_readLook se_X10_readLook (tX10_readLook (by omega)  hc43) (by omega) rfl rfl (Nat.le_of_ble_eq_true rfl) ⟨[], (List.append_nil _).symm⟩ ?_
        refine EV.weak (L2 := [some (.inr (.inr (0))), some (.inl (a1)), some (.inl (a2)), none, none, none, none]) (And.intro rfl (And.intro rfl (And.intro rfl trivial))) ?_
        exact tX10_text_206 hd (hk140)   hf
      · have hf := pv_gp hf q42
        refine EV.aload_n dX10_text_195 rfl rfl ?_
        obtain ⟨h46, hc45, hf⟩ := pv_c1o hf
        refine EV.invV (As := []) (st := []) (d1 := d - 1) (sh1 := pv_SM) (h1 := MM h46) (r1 := none) dX10_text_196 sm_0 (by decide) md_X10_readLaw ml_X10_258 im_X10_readLaw se_X10_readLaw (tX10_readLaw (by omega)  hc45) (by omega) rfl rfl (Nat.le_of_ble_eq_true rfl) ⟨[], (List.append_nil _).symm⟩ ?_
        refine EV.goto (tgt := 206) dX10_text_199 (by decide) ?_
        refine EV.weak (L2 := [some (.inr (.inr (0))), some (.inl (a1)), some (.inl (a2)), none, none, none, none]) (And.intro rfl (And.intro rfl (And.intro rfl trivial))) ?_
        exact tX10_text_206 hd (hk140)   hf
    · have hf := pv_gp hf q41
      refine EV.aload_n dX10_text_183 rfl rfl ?_
      obtain ⟨h48, hc47, hf⟩ := pv_c1o hf
      refine EV.invV (As := []) (st := []) (d1 := d - 1) (sh1 := pv_SM) (h1 := MM h48) (r1 := none) dX10_text_184 sm_0 (by decide) md_X10_readStep ml_X10_255 im_X10_readStep se_X10_readStep (tX10_readStep (by omega)  hc47) (by omega) rfl rfl (Nat.le_of_ble_eq_true rfl) ⟨[], (List.append_nil _).symm⟩ ?_
      refine EV.goto (tgt := 206) dX10_text_187 (by decide) ?_
      refine EV.weak (L2 := [some (.inr (.inr (0))), some (.inl (a1)), some (.inl (a2)), none, none, none, none]) (And.intro rfl (And.intro rfl (And.intro rfl trivial))) ?_
      exact tX10_text_206 hd (hk140)   hf
  · have hf := pv_gp hf q40
    refine EV.aload_n dX10_text_171 rfl rfl ?_
    obtain ⟨h50, hc49, hf⟩ := pv_c1o hf
    refine EV.invV (As := []) (st := []) (d1 := d - 1) (sh1 := pv_SM) (h1 := MM h50) (r1 := none) dX10_text_172 sm_0 (by decide) md_X10_readRodLine ml_X10_252 im_X10_readRodLine se_X10_readRodLine (tX10_readRodLine (by omega)  hc49) (by omega) rfl rfl (Nat.le_of_ble_eq_true rfl) ⟨[], (List.append_nil _).symm⟩ ?_
    refine EV.goto (tgt := 206) dX10_text_175 (by decide) ?_
    refine EV.weak (L2 := [some (.inr (.inr (0))), some (.inl (a1)), some (.inl (a2)), none, none, none, none]) (And.intro rfl (And.intro rfl (And.intro rfl trivial))) ?_
    exact tX10_text_206 hd (hk140)   hf

set_option maxHeartbeats 4000000 in
set_option maxRecDepth 20000 in
theorem tX10_text_140 {d N : Nat}  {a1 : Int} {a2 : Int} {a3 : Int} {h' : pv_H} {r : Int} (hd : 53 ≤ d)   : ∀ (n : Nat)   (h : pv_H), fX10_text_140 N  a1 a2 a3 n  h = some (h', r) → EV RX10 cX10_text 7 (some .int) false d pv_SM (MM h') (some (.inl r)) 140 [some (.inr (.inr (0))), some (.inl (a1)), some (.inl (a2)), none, none, none, none] [] pv_SM (MM h) := by
  intro n
  induction n with
  | zero =>
    intro   h hf
    cases hf
  | succ n ih =>
    intro   h hf
    rw [fX10_text_140] at hf
    refine EV.aload_n dX10_text_140 rfl rfl ?_
    refine FV.getI dX10_text_141 sm_0 fl_10_175 rfl ?_
    refine EV.if_ne (tgt := 225) dX10_text_144 (by decide) (fun q34 => ?_) (fun q34 => ?_)
    · have hf := pv_gn hf q34
      refine EV.weak (L2 := [some (.inr (.inr (0))), some (.inl (a1)), some (.inl (a2)), none, none, none, none]) (And.intro rfl (And.intro rfl (And.intro rfl trivial))) ?_
      exact tX10_text_225 hd    hf
    · have hf := pv_gp hf q34
      refine EV.aload_n dX10_text_147 rfl rfl ?_
      refine FV.getI dX10_text_148 sm_0 fl_10_159 rfl ?_
      refine EV.bipush dX10_text_151 (by decide) (by decide) ?_
      refine EV.icmp_ne (tgt := 167) dX10_text_153 (by decide) (fun q35 => ?_) (fun q35 => ?_)
      · have hf := pv_gn hf q35
        refine EV.weak (L2 := [some (.inr (.inr (0))), some (.inl (a1)), some (.inl (a2)), none, none, none, none]) (And.intro rfl (And.intro rfl (And.intro rfl trivial))) ?_
        exact tX10_text_167 hd (ih)   hf
      · have hf := pv_gp hf q35
        refine EV.iload_n dX10_text_156 rfl rfl ?_
        refine EV.if_ne (tgt := 225) dX10_text_157 (by decide) (fun q36 => ?_) (fun q36 => ?_)
        · have hf := pv_gn hf q36
          refine EV.weak (L2 := [some (.inr (.inr (0))), some (.inl (a1)), some (.inl (a2)), none, none, none, none]) (And.intro rfl (And.intro rfl (And.intro rfl trivial))) ?_
          exact tX10_text_225 hd    hf
        · have hf := pv_gp hf q36
          refine EV.aload_n dX10_text_160 rfl rfl ?_
          refine FV.getI dX10_text_161 sm_0 fl_10_204 rfl ?_
          refine EV.if_ne (tgt := 225) dX10_text_164 (by decide) (fun q37 => ?_) (fun q37 => ?_)
          · have hf := pv_gn hf q37
            refine EV.weak (L2 := [some (.inr (.inr (0))), some (.inl (a1)), some (.inl (a2)), none, none, none, none]) (And.intro rfl (And.intro rfl (And.intro rfl trivial))) ?_
            exact tX10_text_225 hd    hf
          · have hf := pv_gp hf q37
            refine EV.weak (L2 := [some (.inr (.inr (0))), some (.inl (a1)), some (.inl (a2)), none, none, none, none]) (And.intro rfl (And.intro rfl (And.intro rfl trivial))) ?_
            exact tX10_text_167 hd (ih)   hf

set_option maxHeartbeats 4000000 in
set_option maxRecDepth 20000 in
theorem tX10_text_136 {d N : Nat}  {a1 : Int} {a2 : Int} {a3 : Int}  {h h' : pv_H} {r : Int} (hd : 53 ≤ d)    (hf : fX10_text_136 N  a1 a2 a3  h = some (h', r)) : EV RX10 cX10_text 7 (some .int) false d pv_SM (MM h') (some (.inl r)) 136 [some (.inr (.inr (0))), some (.inl (a1)), some (.inl (a2)), none, none, none, none] [] pv_SM (MM h) := by
  unfold fX10_text_136 at hf
  refine EV.aload_n dX10_text_136 rfl rfl ?_
  obtain ⟨h33, hc32, hf⟩ := pv_c1o hf
  refine EV.invV (As := []) (st := []) (d1 := d - 1) (sh1 := pv_SM) (h1 := MM h33) (r1 := none) dX10_text_137 sm_0 (by decide) md_X10_next ml_X10_184 im_X10_next se_X10_next (tX10_next (by omega)  hc32) (by omega) rfl rfl (Nat.le_of_ble_eq_true rfl) ⟨[], (List.append_nil _).symm⟩ ?_
  refine EV.weak (L2 := [some (.inr (.inr (0))), some (.inl (a1)), some (.inl (a2)), none, none, none, none]) (And.intro rfl (And.intro rfl (And.intro rfl trivial))) ?_
  exact tX10_text_140 hd   _   _ hf

set_option maxHeartbeats 4000000 in
set_option maxRecDepth 20000 in
theorem tX10_text_104 {d N : Nat}  {a1 : Int} {a2 : Int} {a3 : Int} {h' : pv_H} {r : Int} (hd : 53 ≤ d)   : ∀ (n : Nat) (v4 : Int)  (h : pv_H), fX10_text_104 N  a1 a2 a3 n v4 h = some (h', r) → EV RX10 cX10_text 7 (some .int) false d pv_SM (MM h') (some (.inl r)) 104 [some (.inr (.inr (0))), some (.inl (a1)), some (.inl (a2)), none, some (.inl (v4)), none, none] [] pv_SM (MM h) := by
  intro n
  induction n with
  | zero =>
    intro v4  h hf
    cases hf
  | succ n ih =>
    intro v4  h hf
    rw [fX10_text_104] at hf
    refine EV.iload dX10_text_104 rfl ?_
    refine EV.sipush dX10_text_106 (by decide) (by decide) ?_
    refine EV.icmp_ge (tgt := 126) dX10_text_109 (by decide) (fun q25 => ?_) (fun q25 => ?_)
    · have hf := pv_gp hf q25
      refine EV.iload_n dX10_text_126 rfl rfl ?_
      refine EV.iconst dX10_text_127 (by decide) (by decide) ?_
      refine EV.icmp_ne (tgt := 136) dX10_text_128 (by decide) (fun q26 => ?_) (fun q26 => ?_)
      · have hf := pv_gn hf q26
        refine EV.weak (L2 := [some (.inr (.inr (0))), some (.inl (a1)), some (.inl (a2)), none, none, none, none]) (And.intro rfl (And.intro rfl (And.intro rfl trivial))) ?_
        exact tX10_text_136 hd    hf
      · have hf := pv_gp hf q26
        refine EV.aload_n dX10_text_131 rfl rfl ?_
        refine EV.iconst dX10_text_132 (by decide) (by decide) ?_
        obtain ⟨h28, hc27, hf⟩ := pv_c1o hf
        refine EV.invV (As := [.inl (1)]) (st := []) (d1 := d - 1) (sh1 := pv_SM) (h1 := MM h28) (r1 := none) dX10_text_133 sm_0 (by decide) md_X10_plainLaw ml_X10_124 im_X10_plainLaw se_X10_plainLaw (tX10_plainLaw (by omega)  hc27) (by omega) rfl rfl (Nat.le_of_ble_eq_true rfl) ⟨[], (List.append_nil _).symm⟩ ?_
        refine EV.weak (L2 := [some (.inr (.inr (0))), some (.inl (a1)), some (.inl (a2)), none, none, none, none]) (And.intro rfl (And.intro rfl (And.intro rfl trivial))) ?_
        exact tX10_text_136 hd    hf
    · have hf := pv_gn hf q25
      refine EV.aload_n dX10_text_112 rfl rfl ?_
      refine FV.getF (v := 5) dX10_text_113 sm_0 fl_10_27 rfl rfl hvm_0_5 ?_
      refine EV.iload dX10_text_116 rfl ?_
      refine EV.iconst dX10_text_118 (by decide) (by decide) ?_
      obtain ⟨g29, hf⟩ := pv_gd hf
      obtain ⟨h30, eh30, hf⟩ := pv_bo hf
      refine FV.iast dX10_text_119 sm_5 g29.1 g29.2 (j := (Int.toNat (v4))) rfl eh30 ?_
      obtain ⟨x31, ex31, hf⟩ := pv_bo hf
      refine FV.inc (L2 := [some (.inr (.inr (0))), some (.inl (a1)), some (.inl (a2)), none, some (.inl (x31)), none, none]) dX10_text_120 rfl (Nat.le_of_ble_eq_true rfl) ex31 rfl ?_
      refine EV.goto (tgt := 104) dX10_text_123 (by decide) ?_
      refine EV.weak (L2 := [some (.inr (.inr (0))), some (.inl (a1)), some (.inl (a2)), none, some (.inl (x31)), none, none]) (And.intro rfl (And.intro rfl (And.intro rfl (And.intro rfl trivial)))) ?_
      exact ih _  _ hf

set_option maxHeartbeats 4000000 in
set_option maxRecDepth 20000 in
theorem tX10_text_32 {d N : Nat}  {a1 : Int} {a2 : Int} {a3 : Int} {s0 : Int} {s1 : Int} {s2 : Int} {h h' : pv_H} {r : Int} (hd : 53 ≤ d)    (hf : fX10_text_32 N  a1 a2 a3 s0 s1 s2 h = some (h', r)) : EV RX10 cX10_text 7 (some .int) false d pv_SM (MM h') (some (.inl r)) 32 [some (.inr (.inr (0))), some (.inl (a1)), some (.inl (a2)), some (.inl (a3)), none, none, none] [.inr (.inl (s0)), .inr (.inl (s1)), .inr (.inl (s2))] pv_SM (MM h) := by
  unfold fX10_text_32 at hf
  obtain ⟨r10, hc9, hf⟩ := pv_c1o hf
  refine EV.invS (As := [.inr (.inl (s2)), .inr (.inl (s1)), .inr (.inl (s0))]) (st := []) (d1 := d - 1) (sh1 := pv_SM) (h1 := MM h) (r1 := (some (.inl r10))) dX10_text_32 md_X10_within ml_X10_193 st_X10_within (tX10_within (by omega)  hc9) (by omega) rfl rfl (Nat.le_of_ble_eq_true rfl) ⟨[], (List.append_nil _).symm⟩ ?_
  refine EV.eqS (st2 := [.inl (r10)]) rfl ?_
  refine EV.if_ne (tgt := 45) dX10_text_35 (by decide) (fun q11 => ?_) (fun q11 => ?_)
  · have hf := pv_gn hf q11
    refine EV.iload_n dX10_text_45 rfl rfl ?_
    refine EV.i2l dX10_text_46 ?_
    refine EV.lconst (x := 0) dX10_text_47 (by decide) (by decide) (by decide) ?_
    refine EV.aload_n dX10_text_48 rfl rfl ?_
    refine FV.getI dX10_text_49 sm_0 fl_10_128 rfl ?_
    refine EV.i2l dX10_text_52 ?_
    obtain ⟨r13, hc12, hf⟩ := pv_c1o hf
    refine EV.invS (As := [.inr (.inl (a3)), .inr (.inl (0)), .inr (.inl (h 0 6))]) (st := []) (d1 := d - 1) (sh1 := pv_SM) (h1 := MM h) (r1 := (some (.inl r13))) dX10_text_53 md_X10_within ml_X10_193 st_X10_within (tX10_within (by omega)  hc12) (by omega) rfl rfl (Nat.le_of_ble_eq_true rfl) ⟨[], (List.append_nil _).symm⟩ ?_
    refine EV.eqS (st2 := [.inl (r13)]) rfl ?_
    refine EV.if_ne (tgt := 66) dX10_text_56 (by decide) (fun q14 => ?_) (fun q14 => ?_)
    · have hf := pv_gn hf q14
      refine EV.aload_n dX10_text_66 rfl rfl ?_
      refine EV.iload_n dX10_text_67 rfl rfl ?_
      obtain ⟨h15, eh15, hf⟩ := pv_bo hf
      refine FV.putI dX10_text_68 sm_0 fl_10_135 rfl rfl eh15 ?_
      refine EV.aload_n dX10_text_71 rfl rfl ?_
      refine EV.iconst dX10_text_72 (by decide) (by decide) ?_
      obtain ⟨h16, eh16, hf⟩ := pv_bo hf
      refine FV.putI dX10_text_73 sm_0 fl_10_128 rfl rfl eh16 ?_
      refine EV.aload_n dX10_text_76 rfl rfl ?_
      refine EV.iconst dX10_text_77 (by decide) (by decide) ?_
      obtain ⟨h17, eh17, hf⟩ := pv_bo hf
      refine FV.putI dX10_text_78 sm_0 fl_10_153 rfl rfl eh17 ?_
      refine EV.aload_n dX10_text_81 rfl rfl ?_
      refine EV.iconst dX10_text_82 (by decide) (by decide) ?_
      obtain ⟨h18, eh18, hf⟩ := pv_bo hf
      refine FV.putI dX10_text_83 sm_0 fl_10_175 rfl rfl eh18 ?_
      refine EV.aload_n dX10_text_86 rfl rfl ?_
      refine EV.iconst dX10_text_87 (by decide) (by decide) ?_
      obtain ⟨h19, eh19, hf⟩ := pv_bo hf
      refine FV.putI dX10_text_88 sm_0 fl_10_204 rfl rfl eh19 ?_
      refine EV.aload_n dX10_text_91 rfl rfl ?_
      refine EV.iconst dX10_text_92 (by decide) (by decide) ?_
      obtain ⟨h20, eh20, hf⟩ := pv_bo hf
      refine FV.putI dX10_text_93 sm_0 fl_10_236 rfl rfl eh20 ?_
      refine EV.aload_n dX10_text_96 rfl rfl ?_
      refine EV.iconst dX10_text_97 (by decide) (by decide) ?_
      obtain ⟨h21, eh21, hf⟩ := pv_bo hf
      refine FV.putI dX10_text_98 sm_0 fl_10_224 rfl rfl eh21 ?_
      refine EV.iconst dX10_text_101 (by decide) (by decide) ?_
      refine FV.stiw (L2 := [some (.inr (.inr (0))), some (.inl (a1)), some (.inl (a2)), some (.inl (a3)), some (.inl (0)), none, none]) dX10_text_102 (Nat.le_of_ble_eq_true rfl) rfl rfl ?_
      refine EV.weak (L2 := [some (.inr (.inr (0))), some (.inl (a1)), some (.inl (a2)), none, some (.inl (0)), none, none]) (And.intro rfl (And.intro rfl (And.intro rfl (And.intro rfl trivial)))) ?_
      exact tX10_text_104 hd   _ _  _ hf
    · have hf := pv_gp hf q14
      refine EV.aload_n dX10_text_59 rfl rfl ?_
      refine EV.bipush dX10_text_60 (by decide) (by decide) ?_
      obtain ⟨h23, r24, hc22, hf⟩ := pv_c2o hf
      refine EV.invV (As := [.inl (-3)]) (st := []) (d1 := d - 1) (sh1 := pv_SM) (h1 := MM h23) (r1 := (some (.inl r24))) dX10_text_62 sm_0 (by decide) md_X10_no ml_X10_131 im_X10_no se_X10_no (tX10_no (by omega)  hc22) (by omega) rfl rfl (Nat.le_of_ble_eq_true rfl) ⟨[], (List.append_nil _).symm⟩ ?_
      refine EV.eqS (st2 := [.inl (r24)]) rfl ?_
      exact FV.iret dX10_text_65 hf
  · have hf := pv_gp hf q11
    refine EV.weak (L2 := [some (.inr (.inr (0))), none, none, none, none, none, none]) (And.intro rfl trivial) ?_
    exact tX10_text_38 hd    hf

set_option maxHeartbeats 4000000 in
set_option maxRecDepth 20000 in
theorem tX10_text {d N : Nat} {a1 : Int} {a2 : Int} {a3 : Int} {h h' : pv_H} {r : Int} (hd : 53 ≤ d)  (hf : fX10_text N a1 a2 a3 h = some (h', r)) : CALL yX10_text cX10_text 7 (some .int) d pv_SM (MM h) [.inr (.inr (0)), .inl (a1), .inl (a2), .inl (a3)] pv_SM (MM h') (some (.inl r)) := by
  unfold fX10_text at hf
  refine EV.call (own := RX10) (ini := false) rfl rfl (fun q => by cases q) ⟨[], (List.append_nil _).symm⟩ (Nat.le_of_ble_eq_true rfl) ?_
  refine EV.eqL (L2 := [some (.inr (.inr (0))), some (.inl (a1)), some (.inl (a2)), some (.inl (a3)), none, none, none]) rfl ?_
  refine EV.aload_n dX10_text_0 rfl rfl ?_
  refine EV.iconst dX10_text_1 (by decide) (by decide) ?_
  obtain ⟨h1, eh1, hf⟩ := pv_bo hf
  refine FV.putI dX10_text_2 sm_0 fl_10_1 rfl rfl eh1 ?_
  refine EV.iload_n dX10_text_5 rfl rfl ?_
  refine EV.i2l dX10_text_6 ?_
  refine EV.lconst (x := 0) dX10_text_7 (by decide) (by decide) (by decide) ?_
  refine EV.ldc2 (n := 3) dX10_text_8 kl_X10_250 (by decide) (by decide) ?_
  obtain ⟨r3, hc2, hf⟩ := pv_c1o hf
  refine EV.invS (As := [.inr (.inl (a1)), .inr (.inl (0)), .inr (.inl (3))]) (st := []) (d1 := d - 1) (sh1 := pv_SM) (h1 := MM h1) (r1 := (some (.inl r3))) dX10_text_11 md_X10_within ml_X10_193 st_X10_within (tX10_within (by omega)  hc2) (by omega) rfl rfl (Nat.le_of_ble_eq_true rfl) ⟨[], (List.append_nil _).symm⟩ ?_
  refine EV.eqS (st2 := [.inl (r3)]) rfl ?_
  refine EV.if_eq (tgt := 38) dX10_text_14 (by decide) (fun q4 => ?_) (fun q4 => ?_)
  · have hf := pv_gp hf q4
    refine EV.weak (L2 := [some (.inr (.inr (0))), none, none, none, none, none, none]) (And.intro rfl trivial) ?_
    exact tX10_text_38 hd    hf
  · have hf := pv_gn hf q4
    refine EV.iload_n dX10_text_17 rfl rfl ?_
    refine EV.i2l dX10_text_18 ?_
    refine EV.lconst (x := 0) dX10_text_19 (by decide) (by decide) (by decide) ?_
    refine EV.iload_n dX10_text_20 rfl rfl ?_
    refine EV.iconst dX10_text_21 (by decide) (by decide) ?_
    refine EV.icmp_le (tgt := 29) dX10_text_22 (by decide) (fun q5 => ?_) (fun q5 => ?_)
    · have hf := pv_gp hf q5
      refine EV.ldc2 (n := 3) dX10_text_29 kl_X10_250 (by decide) (by decide) ?_
      refine EV.weak (L2 := [some (.inr (.inr (0))), some (.inl (a1)), some (.inl (a2)), some (.inl (a3)), none, none, none]) (And.intro rfl (And.intro rfl (And.intro rfl (And.intro rfl trivial)))) ?_
      exact tX10_text_32 hd    hf
    · have hf := pv_gn hf q5
      refine EV.lconst (x := 0) dX10_text_25 (by decide) (by decide) (by decide) ?_
      refine EV.goto (tgt := 32) dX10_text_26 (by decide) ?_
      refine EV.weak (L2 := [some (.inr (.inr (0))), some (.inl (a1)), some (.inl (a2)), some (.inl (a3)), none, none, none]) (And.intro rfl (And.intro rfl (And.intro rfl (And.intro rfl trivial)))) ?_
      exact tX10_text_32 hd    hf
