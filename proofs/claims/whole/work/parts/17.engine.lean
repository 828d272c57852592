noncomputable def fX1_isEnd_22 (N : Nat)  (a1 : Int) (s0 : Int) (h : pv_H) : Option (Int) :=
  if s0 = 0 ∨ s0 = 1 then (some (s0)) else none

noncomputable def fX1_isEnd_17 (N : Nat)  (a1 : Int)  (h : pv_H) : Option (Int) :=
  fX1_isEnd_22 N  a1 (1) h

noncomputable def fX1_isEnd (N : Nat) (a1 : Int) (h : pv_H) : Option (Int) :=
  if a1 = 0 then (fX1_isEnd_17 N  a1  h) else (if 0 ≤ h 78 3 ∧ (h 78 3).toNat ∈ pv_l5 then (pv_b ((h 78 3).toNat) fun x3 => if a1 = (pv_w ((h x3 0) - 1)) then (fX1_isEnd_17 N  a1  h) else (fX1_isEnd_22 N  a1 (0) h)) else none)

set_option maxHeartbeats 4000000 in
set_option maxRecDepth 20000 in
theorem tX1_isEnd_22 {d N : Nat}  {a1 : Int} {s0 : Int} {h : pv_H} {r : Int} (hd : 1 ≤ d)    (hf : fX1_isEnd_22 N  a1 s0 h = some r) : EV RX1 cX1_isEnd 2 (some .boolean) false d pv_SC (MC h) (some (.inl r)) 22 [none, none] [.inl (s0)] pv_SC (MC h) := by
  unfold fX1_isEnd_22 at hf
  obtain ⟨g5, hf⟩ := pv_gd hf
  exact FV.zretp dX1_isEnd_22 g5 hf

set_option maxHeartbeats 4000000 in
set_option maxRecDepth 20000 in
theorem tX1_isEnd_17 {d N : Nat}  {a1 : Int}  {h : pv_H} {r : Int} (hd : 1 ≤ d)    (hf : fX1_isEnd_17 N  a1  h = some r) : EV RX1 cX1_isEnd 2 (some .boolean) false d pv_SC (MC h) (some (.inl r)) 17 [none, none] [] pv_SC (MC h) := by
  unfold fX1_isEnd_17 at hf
  refine EV.iconst dX1_isEnd_17 (by decide) (by decide) ?_
  refine EV.goto (tgt := 22) dX1_isEnd_18 (by decide) ?_
  refine EV.weak (L2 := [none, none]) trivial ?_
  exact tX1_isEnd_22 hd    hf

set_option maxHeartbeats 4000000 in
set_option maxRecDepth 20000 in
theorem tX1_isEnd {d N : Nat} {a1 : Int} {h : pv_H} {r : Int} (hd : 1 ≤ d)  (hf : fX1_isEnd N a1 h = some r) : CALL yX1_isEnd cX1_isEnd 2 (some .boolean) d pv_SC (MC h) [.inr (.inr (78)), .inl (a1)] pv_SC (MC h) (some (.inl r)) := by
  unfold fX1_isEnd at hf
  refine EV.call (own := RX1) (ini := false) rfl rfl (fun q => by cases q) ⟨[], (List.append_nil _).symm⟩ (Nat.le_of_ble_eq_true rfl) ?_
  refine EV.eqL (L2 := [some (.inr (.inr (78))), some (.inl (a1))]) rfl ?_
  refine EV.iload_n dX1_isEnd_0 rfl rfl ?_
  refine EV.if_eq (tgt := 17) dX1_isEnd_1 (by decide) (fun q1 => ?_) (fun q1 => ?_)
  · have hf := pv_gp hf q1
    refine EV.weak (L2 := [none, none]) trivial ?_
    exact tX1_isEnd_17 hd    hf
  · have hf := pv_gn hf q1
    refine EV.iload_n dX1_isEnd_4 rfl rfl ?_
    refine EV.aload_n dX1_isEnd_5 rfl rfl ?_
    obtain ⟨g2, hf⟩ := pv_gd hf
    obtain ⟨x3, ex3, hf⟩ := pv_bo hf
    have mx3 : x3 ∈ pv_l5 := ex3 ▸ g2.2
    refine FV.getM dX1_isEnd_6 sc_78 fl_1_21 rfl rfl g2.1 ex3 ?_
    refine FV.getI dX1_isEnd_9 (sl5_0 _ mx3) fl_1_84 rfl ?_
    refine EV.iconst dX1_isEnd_12 (by decide) (by decide) ?_
    refine EV.isub dX1_isEnd_13 ?_
    refine EV.icmp_ne (tgt := 21) dX1_isEnd_14 (by decide) (fun q4 => ?_) (fun q4 => ?_)
    · have hf := pv_gn hf q4
      refine EV.iconst dX1_isEnd_21 (by decide) (by decide) ?_
      refine EV.weak (L2 := [none, none]) trivial ?_
      exact tX1_isEnd_22 hd    hf
    · have hf := pv_gp hf q4
      refine EV.weak (L2 := [none, none]) trivial ?_
      exact tX1_isEnd_17 hd    hf

noncomputable def fX1_loadOf_58 (N : Nat)  (a1 : Int) (a2 : Int) (s0 : Int) (h : pv_H) : Option (Int) :=
  some (s0)

noncomputable def fX1_loadOf (N : Nat) (a1 : Int) (a2 : Int) (h : pv_H) : Option (Int) :=
  if 0 ≤ h 78 3 ∧ (h 78 3).toNat ∈ pv_l5 then (pv_b ((h 78 3).toNat) fun x2 => if 0 ≤ a1 ∧ a1 < 60 then (if 0 ≤ h 78 3 ∧ (h 78 3).toNat ∈ pv_l5 then (pv_b ((h 78 3).toNat) fun x5 => if 0 ≤ a1 ∧ a1 < 60 then (if ¬ (max 1 (pv_w (10 * (h (x5 + 1) (Int.toNat (a1)))))) = 0 then (pv_b (pv_w (Int.tdiv (pv_w (a2 * (h (x2 + 5) (Int.toNat (a1))))) (max 1 (pv_w (10 * (h (x5 + 1) (Int.toNat (a1)))))))) fun x8 => pv_c1 (fX1_isEnd N a1 h) fun r10 => if r10 = 0 then (fX1_loadOf_58 N  a1 a2 (x8) h) else (if 0 ≤ h 78 4 ∧ (h 78 4).toNat ∈ pv_l2 then (pv_b ((h 78 4).toNat) fun x13 => fX1_loadOf_58 N  a1 a2 (pv_w (x8 + (pv_w (Int.tdiv (pv_w (a2 * (h (x13 + 1) 7))) 100)))) h) else none)) else none) else none) else none) else none) else none

set_option maxHeartbeats 4000000 in
set_option maxRecDepth 20000 in
theorem tX1_loadOf_58 {d N : Nat}  {a1 : Int} {a2 : Int} {s0 : Int} {h : pv_H} {r : Int} (hd : 2 ≤ d)    (hf : fX1_loadOf_58 N  a1 a2 s0 h = some r) : EV RX1 cX1_loadOf 4 (some .int) false d pv_SC (MC h) (some (.inl r)) 58 [none, none, none, none] [.inl (s0)] pv_SC (MC h) := by
  unfold fX1_loadOf_58 at hf
  exact FV.iretp dX1_loadOf_58 hf

set_option maxHeartbeats 4000000 in
set_option maxRecDepth 20000 in
theorem tX1_loadOf {d N : Nat} {a1 : Int} {a2 : Int} {h : pv_H} {r : Int} (hd : 2 ≤ d)  (hf : fX1_loadOf N a1 a2 h = some r) : CALL yX1_loadOf cX1_loadOf 4 (some .int) d pv_SC (MC h) [.inr (.inr (78)), .inl (a1), .inl (a2)] pv_SC (MC h) (some (.inl r)) := by
  unfold fX1_loadOf at hf
  refine EV.call (own := RX1) (ini := false) rfl rfl (fun q => by cases q) ⟨[], (List.append_nil _).symm⟩ (Nat.le_of_ble_eq_true rfl) ?_
  refine EV.eqL (L2 := [some (.inr (.inr (78))), some (.inl (a1)), some (.inl (a2)), none]) rfl ?_
  refine EV.iload_n dX1_loadOf_0 rfl rfl ?_
  refine EV.aload_n dX1_loadOf_1 rfl rfl ?_
  obtain ⟨g1, hf⟩ := pv_gd hf
  obtain ⟨x2, ex2, hf⟩ := pv_bo hf
  have mx2 : x2 ∈ pv_l5 := ex2 ▸ g1.2
  refine FV.getM dX1_loadOf_2 sc_78 fl_1_21 rfl rfl g1.1 ex2 ?_
  refine FV.getF (v := x2 + 5) dX1_loadOf_5 (sl5_0 _ mx2) fl_1_93 rfl (mu5_0 _ mx2 _) (hl5_0_6 _ mx2) ?_
  refine EV.iload_n dX1_loadOf_8 rfl rfl ?_
  obtain ⟨g3, hf⟩ := pv_gd hf
  refine FV.iald dX1_loadOf_9 (sl5_5 _ mx2) g3.1 g3.2 (j := (Int.toNat (a1))) rfl ?_
  refine EV.imul dX1_loadOf_10 ?_
  refine EV.iconst dX1_loadOf_11 (by decide) (by decide) ?_
  refine EV.bipush dX1_loadOf_12 (by decide) (by decide) ?_
  refine EV.aload_n dX1_loadOf_14 rfl rfl ?_
  obtain ⟨g4, hf⟩ := pv_gd hf
  obtain ⟨x5, ex5, hf⟩ := pv_bo hf
  have mx5 : x5 ∈ pv_l5 := ex5 ▸ g4.2
  refine FV.getM dX1_loadOf_15 sc_78 fl_1_21 rfl rfl g4.1 ex5 ?_
  refine FV.getF (v := x5 + 1) dX1_loadOf_18 (sl5_0 _ mx5) fl_1_96 rfl (mu5_0 _ mx5 _) (hl5_0_2 _ mx5) ?_
  refine EV.iload_n dX1_loadOf_21 rfl rfl ?_
  obtain ⟨g6, hf⟩ := pv_gd hf
  refine FV.iald dX1_loadOf_22 (sl5_1 _ mx5) g6.1 g6.2 (j := (Int.toNat (a1))) rfl ?_
  refine EV.imul dX1_loadOf_23 ?_
  refine EV.mmax dX1_loadOf_24 ml_X1_99 w_maxs w_mai w_maxc (by omega) (Nat.le_of_ble_eq_true rfl) ?_
  obtain ⟨g7, hf⟩ := pv_gd hf
  refine EV.idiv dX1_loadOf_27 g7 ?_
  obtain ⟨x8, ex8, hf⟩ := pv_bo hf
  refine FV.sti (L2 := [some (.inr (.inr (78))), some (.inl (a1)), some (.inl (a2)), some (.inl (x8))]) dX1_loadOf_28 rfl (Nat.le_of_ble_eq_true rfl) ex8 rfl ?_
  refine EV.aload_n dX1_loadOf_29 rfl rfl ?_
  refine EV.iload_n dX1_loadOf_30 rfl rfl ?_
  obtain ⟨r10, hc9, hf⟩ := pv_c1o hf
  refine EV.invV (As := [.inl (a1)]) (st := []) (d1 := d - 1) (sh1 := pv_SC) (h1 := MC h) (r1 := (some (.inl r10))) dX1_loadOf_31 sc_78 (by decide) md_X1_isEnd ml_X1_102 im_X1_isEnd se_X1_isEnd (tX1_isEnd (by omega)  hc9) (by omega) rfl rfl (Nat.le_of_ble_eq_true rfl) ⟨[], (List.append_nil _).symm⟩ ?_
  refine EV.eqS (st2 := [.inl (r10)]) rfl ?_
  refine EV.if_eq (tgt := 57) dX1_loadOf_34 (by decide) (fun q11 => ?_) (fun q11 => ?_)
  · have hf := pv_gp hf q11
    refine EV.iload_n dX1_loadOf_57 rfl rfl ?_
    refine EV.weak (L2 := [none, none, none, none]) trivial ?_
    exact tX1_loadOf_58 hd    hf
  · have hf := pv_gn hf q11
    refine EV.iload_n dX1_loadOf_37 rfl rfl ?_
    refine EV.iload_n dX1_loadOf_38 rfl rfl ?_
    refine EV.aload_n dX1_loadOf_39 rfl rfl ?_
    obtain ⟨g12, hf⟩ := pv_gd hf
    obtain ⟨x13, ex13, hf⟩ := pv_bo hf
    have mx13 : x13 ∈ pv_l2 := ex13 ▸ g12.2
    refine FV.getM dX1_loadOf_40 sc_78 fl_1_28 rfl rfl g12.1 ex13 ?_
    refine FV.getF (v := x13 + 1) dX1_loadOf_43 (sl2_0 _ mx13) fl_1_66 rfl (mu2_0 _ mx13 _) (hl2_0_1 _ mx13) ?_
    refine EV.bipush dX1_loadOf_46 (by decide) (by decide) ?_
    refine FV.iald dX1_loadOf_48 (sl2_1 _ mx13) (by decide) (by decide) (j := 7) rfl ?_
    refine EV.imul dX1_loadOf_49 ?_
    refine EV.bipush dX1_loadOf_50 (by decide) (by decide) ?_
    refine EV.idiv dX1_loadOf_52 (by decide) ?_
    refine EV.iadd dX1_loadOf_53 ?_
    refine EV.goto (tgt := 58) dX1_loadOf_54 (by decide) ?_
    refine EV.weak (L2 := [none, none, none, none]) trivial ?_
    exact tX1_loadOf_58 hd    hf

noncomputable def fX1_bendThatBreaks_63 (N : Nat)  (a1 : Int) (v3 : Int) (h : pv_H) : Option (Int) :=
  some (v3)

noncomputable def fX1_bendThatBreaks_126 (N : Nat)  (a1 : Int) (v3 : Int) (h : pv_H) : Option (Int) :=
  some (v3)

noncomputable def fX1_bendThatBreaks_120 (N : Nat) (k71 : Int → Int → Int → pv_H → Option (Int)) (a1 : Int) (v3 : Int) (v4 : Int) (v5 : Int) (h : pv_H) : Option (Int) :=
  pv_b (pv_w (v5 + 1)) fun x25 => k71 (v3) (v4) (x25) h

noncomputable def fX1_bendThatBreaks_71 (N : Nat)  (a1 : Int) : Nat → Int → Int → Int → pv_H → Option (Int)
  | 0, _, _, _, _ => none
  | n + 1, v3, v4, v5, h => if 32 ≤ v5 then (fX1_bendThatBreaks_126 N  a1 (v3) h) else (if v3 ≤ v4 then (fX1_bendThatBreaks_126 N  a1 (v3) h) else (pv_b (pv_w (Int.tdiv (pv_w (v4 + v3)) 2)) fun x19 => pv_c1 (fX1_loadOf N a1 x19 h) fun r21 => if 0 ≤ a1 ∧ a1 < 60 then (if r21 ≤ (h 92 (Int.toNat (a1))) then (pv_b (pv_w (x19 + 1)) fun x24 => fX1_bendThatBreaks_120 N (fun v3_ v4_ v5_ hh => fX1_bendThatBreaks_71 N  a1 n v3_ v4_ v5_ hh) a1 (v3) (x24) (v5) h) else (fX1_bendThatBreaks_120 N (fun v3_ v4_ v5_ hh => fX1_bendThatBreaks_71 N  a1 n v3_ v4_ v5_ hh) a1 (x19) (v4) (v5) h)) else none))

noncomputable def fX1_bendThatBreaks (N : Nat) (a1 : Int) (h : pv_H) : Option (Int) :=
  if 0 ≤ h 78 3 ∧ (h 78 3).toNat ∈ pv_l5 then (pv_b ((h 78 3).toNat) fun x2 => if 0 ≤ a1 ∧ a1 < 60 then (pv_b (max 1 (h (x2 + 5) (Int.toNat (a1)))) fun x4 => if 0 ≤ a1 ∧ a1 < 60 then (if 0 ≤ h 78 3 ∧ (h 78 3).toNat ∈ pv_l5 then (pv_b ((h 78 3).toNat) fun x7 => if 0 ≤ a1 ∧ a1 < 60 then (if ¬ x4 = 0 then (pv_b (pv_w (Int.tdiv (pv_w ((pv_w ((pv_w ((pv_w ((pv_w ((h 92 (Int.toNat (a1))) + 1)) * 10)) * (h (x7 + 1) (Int.toNat (a1))))) + x4)) - 1)) x4)) fun x10 => pv_c1 (fX1_isEnd N a1 h) fun r12 => if r12 = 0 then (fX1_bendThatBreaks_63 N  a1 (x10) h) else (if 0 ≤ h 78 4 ∧ (h 78 4).toNat ∈ pv_l2 then (pv_b ((h 78 4).toNat) fun x15 => if (h (x15 + 1) 7) = 0 then (fX1_bendThatBreaks_63 N  a1 (x10) h) else (fX1_bendThatBreaks_71 N  a1 N (x10) (1) (0) h)) else none)) else none) else none) else none) else none) else none) else none

set_option maxHeartbeats 4000000 in
set_option maxRecDepth 20000 in
theorem tX1_bendThatBreaks_63 {d N : Nat}  {a1 : Int} {v3 : Int} {h : pv_H} {r : Int} (hd : 3 ≤ d)    (hf : fX1_bendThatBreaks_63 N  a1 v3 h = some r) : EV RX1 cX1_bendThatBreaks 7 (some .int) false d pv_SC (MC h) (some (.inl r)) 63 [none, none, none, some (.inl (v3)), none, none, none] [] pv_SC (MC h) := by
  unfold fX1_bendThatBreaks_63 at hf
  refine EV.iload_n dX1_bendThatBreaks_63 rfl rfl ?_
  exact FV.iretp dX1_bendThatBreaks_64 hf

set_option maxHeartbeats 4000000 in
set_option maxRecDepth 20000 in
theorem tX1_bendThatBreaks_126 {d N : Nat}  {a1 : Int} {v3 : Int} {h : pv_H} {r : Int} (hd : 3 ≤ d)    (hf : fX1_bendThatBreaks_126 N  a1 v3 h = some r) : EV RX1 cX1_bendThatBreaks 7 (some .int) false d pv_SC (MC h) (some (.inl r)) 126 [none, none, none, some (.inl (v3)), none, none, none] [] pv_SC (MC h) := by
  unfold fX1_bendThatBreaks_126 at hf
  refine EV.iload_n dX1_bendThatBreaks_126 rfl rfl ?_
  exact FV.iretp dX1_bendThatBreaks_127 hf

set_option maxHeartbeats 4000000 in
set_option maxRecDepth 20000 in
theorem tX1_bendThatBreaks_120 {d N : Nat} {k71 : Int → Int → Int → pv_H → Option (Int)} {a1 : Int} {v3 : Int} {v4 : Int} {v5 : Int} {h : pv_H} {r : Int} (hd : 3 ≤ d) (hk71 : ∀ (v3 : Int) (v4 : Int) (v5 : Int) , k71 v3 v4 v5 h = some r → EV RX1 cX1_bendThatBreaks 7 (some .int) false d pv_SC (MC h) (some (.inl r)) 71 [some (.inr (.inr (78))), some (.inl (a1)), none, some (.inl (v3)), some (.inl (v4)), some (.inl (v5)), none] [] pv_SC (MC h))   (hf : fX1_bendThatBreaks_120 N k71 a1 v3 v4 v5 h = some r) : EV RX1 cX1_bendThatBreaks 7 (some .int) false d pv_SC (MC h) (some (.inl r)) 120 [some (.inr (.inr (78))), some (.inl (a1)), none, some (.inl (v3)), some (.inl (v4)), some (.inl (v5)), none] [] pv_SC (MC h) := by
  unfold fX1_bendThatBreaks_120 at hf
  obtain ⟨x25, ex25, hf⟩ := pv_bo hf
  refine FV.inc (L2 := [some (.inr (.inr (78))), some (.inl (a1)), none, some (.inl (v3)), some (.inl (v4)), some (.inl (x25)), none]) dX1_bendThatBreaks_120 rfl (Nat.le_of_ble_eq_true rfl) ex25 rfl ?_
  refine EV.goto (tgt := 71) dX1_bendThatBreaks_123 (by decide) ?_
  refine EV.weak (L2 := [some (.inr (.inr (78))), some (.inl (a1)), none, some (.inl (v3)), some (.inl (v4)), some (.inl (x25)), none]) (And.intro rfl (And.intro rfl (And.intro rfl (And.intro rfl (And.intro rfl trivial))))) ?_
  exact hk71 _ _ _   hf

set_option maxHeartbeats 4000000 in
set_option maxRecDepth 20000 in
theorem tX1_bendThatBreaks_71 {d N : Nat}  {a1 : Int} {h : pv_H} {r : Int} (hd : 3 ≤ d)   : ∀ (n : Nat) (v3 : Int) (v4 : Int) (v5 : Int) , fX1_bendThatBreaks_71 N  a1 n v3 v4 v5 h = some r → EV RX1 cX1_bendThatBreaks 7 (some .int) false d pv_SC (MC h) (some (.inl r)) 71 [some (.inr (.inr (78))), some (.inl (a1)), none, some (.inl (v3)), some (.inl (v4)), some (.inl (v5)), none] [] pv_SC (MC h) := by
  intro n
  induction n with
  | zero =>
    intro v3 v4 v5   hf
    cases hf
  | succ n ih =>
    intro v3 v4 v5   hf
    rw [fX1_bendThatBreaks_71] at hf
    refine EV.iload dX1_bendThatBreaks_71 rfl ?_
    refine EV.bipush dX1_bendThatBreaks_73 (by decide) (by decide) ?_
    refine EV.icmp_ge (tgt := 126) dX1_bendThatBreaks_75 (by decide) (fun q17 => ?_) (fun q17 => ?_)
    · have hf := pv_gp hf q17
      refine EV.weak (L2 := [none, none, none, some (.inl (v3)), none, none, none]) (And.intro rfl trivial) ?_
      exact tX1_bendThatBreaks_126 hd    hf
    · have hf := pv_gn hf q17
      refine EV.iload dX1_bendThatBreaks_78 rfl ?_
      refine EV.iload_n dX1_bendThatBreaks_80 rfl rfl ?_
      refine EV.icmp_ge (tgt := 126) dX1_bendThatBreaks_81 (by decide) (fun q18 => ?_) (fun q18 => ?_)
      · have hf := pv_gp hf q18
        refine EV.weak (L2 := [none, none, none, some (.inl (v3)), none, none, none]) (And.intro rfl trivial) ?_
        exact tX1_bendThatBreaks_126 hd    hf
      · have hf := pv_gn hf q18
        refine EV.iload dX1_bendThatBreaks_84 rfl ?_
        refine EV.iload_n dX1_bendThatBreaks_86 rfl rfl ?_
        refine EV.iadd dX1_bendThatBreaks_87 ?_
        refine EV.iconst dX1_bendThatBreaks_88 (by decide) (by decide) ?_
        refine EV.idiv dX1_bendThatBreaks_89 (by decide) ?_
        obtain ⟨x19, ex19, hf⟩ := pv_bo hf
        refine FV.stiw (L2 := [some (.inr (.inr (78))), some (.inl (a1)), none, some (.inl (v3)), some (.inl (v4)), some (.inl (v5)), some (.inl (x19))]) dX1_bendThatBreaks_90 (Nat.le_of_ble_eq_true rfl) ex19 rfl ?_
        refine EV.aload_n dX1_bendThatBreaks_92 rfl rfl ?_
        refine EV.iload_n dX1_bendThatBreaks_93 rfl rfl ?_
        refine EV.iload dX1_bendThatBreaks_94 rfl ?_
        obtain ⟨r21, hc20, hf⟩ := pv_c1o hf
        refine EV.invV (As := [.inl (a1), .inl (x19)]) (st := []) (d1 := d - 1) (sh1 := pv_SC) (h1 := MC h) (r1 := (some (.inl r21))) dX1_bendThatBreaks_96 sc_78 (by decide) md_X1_loadOf ml_X1_106 im_X1_loadOf se_X1_loadOf (tX1_loadOf (by omega)  hc20) (by omega) rfl rfl (Nat.le_of_ble_eq_true rfl) ⟨[], (List.append_nil _).symm⟩ ?_
        refine EV.eqS (st2 := [.inl (r21)]) rfl ?_
        refine EV.aload_n dX1_bendThatBreaks_99 rfl rfl ?_
        refine FV.getF (v := 92) dX1_bendThatBreaks_100 sc_78 fl_1_32 rfl rfl hvc_78_11 ?_
        refine EV.iload_n dX1_bendThatBreaks_103 rfl rfl ?_
        obtain ⟨g22, hf⟩ := pv_gd hf
        refine FV.iald dX1_bendThatBreaks_104 sc_92 g22.1 g22.2 (j := (Int.toNat (a1))) rfl ?_
        refine EV.icmp_le (tgt := 114) dX1_bendThatBreaks_105 (by decide) (fun q23 => ?_) (fun q23 => ?_)
        · have hf := pv_gp hf q23
          refine EV.iload dX1_bendThatBreaks_114 rfl ?_
          refine EV.iconst dX1_bendThatBreaks_116 (by decide) (by decide) ?_
          refine EV.iadd dX1_bendThatBreaks_117 ?_
          obtain ⟨x24, ex24, hf⟩ := pv_bo hf
          refine FV.stiw (L2 := [some (.inr (.inr (78))), some (.inl (a1)), none, some (.inl (v3)), some (.inl (x24)), some (.inl (v5)), some (.inl (x19))]) dX1_bendThatBreaks_118 (Nat.le_of_ble_eq_true rfl) ex24 rfl ?_
          refine EV.weak (L2 := [some (.inr (.inr (78))), some (.inl (a1)), none, some (.inl (v3)), some (.inl (x24)), some (.inl (v5)), none]) (And.intro rfl (And.intro rfl (And.intro rfl (And.intro rfl (And.intro rfl trivial))))) ?_
          exact tX1_bendThatBreaks_120 hd (ih)   hf
        · have hf := pv_gn hf q23
          refine EV.iload dX1_bendThatBreaks_108 rfl ?_
          refine FV.sti (L2 := [some (.inr (.inr (78))), some (.inl (a1)), none, some (.inl (x19)), some (.inl (v4)), some (.inl (v5)), some (.inl (x19))]) dX1_bendThatBreaks_110 rfl (Nat.le_of_ble_eq_true rfl) rfl rfl ?_
          refine EV.goto (tgt := 120) dX1_bendThatBreaks_111 (by decide) ?_
          refine EV.weak (L2 := [some (.inr (.inr (78))), some (.inl (a1)), none, some (.inl (x19)), some (.inl (v4)), some (.inl (v5)), none]) (And.intro rfl (And.intro rfl (And.intro rfl (And.intro rfl (And.intro rfl trivial))))) ?_
          exact tX1_bendThatBreaks_120 hd (ih)   hf

set_option maxHeartbeats 4000000 in
set_option maxRecDepth 20000 in
theorem tX1_bendThatBreaks {d N : Nat} {a1 : Int} {h : pv_H} {r : Int} (hd : 3 ≤ d)  (hf : fX1_bendThatBreaks N a1 h = some r) : CALL yX1_bendThatBreaks cX1_bendThatBreaks 7 (some .int) d pv_SC (MC h) [.inr (.inr (78)), .inl (a1)] pv_SC (MC h) (some (.inl r)) := by
  unfold fX1_bendThatBreaks at hf
  refine EV.call (own := RX1) (ini := false) rfl rfl (fun q => by cases q) ⟨[], (List.append_nil _).symm⟩ (Nat.le_of_ble_eq_true rfl) ?_
  refine EV.eqL (L2 := [some (.inr (.inr (78))), some (.inl (a1)), none, none, none, none, none]) rfl ?_
  refine EV.iconst dX1_bendThatBreaks_0 (by decide) (by decide) ?_
  refine EV.aload_n dX1_bendThatBreaks_1 rfl rfl ?_
  obtain ⟨g1, hf⟩ := pv_gd hf
  obtain ⟨x2, ex2, hf⟩ := pv_bo hf
  have mx2 : x2 ∈ pv_l5 := ex2 ▸ g1.2
  refine FV.getM dX1_bendThatBreaks_2 sc_78 fl_1_21 rfl rfl g1.1 ex2 ?_
  refine FV.getF (v := x2 + 5) dX1_bendThatBreaks_5 (sl5_0 _ mx2) fl_1_93 rfl (mu5_0 _ mx2 _) (hl5_0_6 _ mx2) ?_
  refine EV.iload_n dX1_bendThatBreaks_8 rfl rfl ?_
  obtain ⟨g3, hf⟩ := pv_gd hf
  refine FV.iald dX1_bendThatBreaks_9 (sl5_5 _ mx2) g3.1 g3.2 (j := (Int.toNat (a1))) rfl ?_
  refine EV.mmax dX1_bendThatBreaks_10 ml_X1_99 w_maxs w_mai w_maxc (by omega) (Nat.le_of_ble_eq_true rfl) ?_
  obtain ⟨x4, ex4, hf⟩ := pv_bo hf
  refine FV.sti (L2 := [some (.inr (.inr (78))), some (.inl (a1)), some (.inl (x4)), none, none, none, none]) dX1_bendThatBreaks_13 rfl (Nat.le_of_ble_eq_true rfl) ex4 rfl ?_
  refine EV.aload_n dX1_bendThatBreaks_14 rfl rfl ?_
  refine FV.getF (v := 92) dX1_bendThatBreaks_15 sc_78 fl_1_32 rfl rfl hvc_78_11 ?_
  refine EV.iload_n dX1_bendThatBreaks_18 rfl rfl ?_
  obtain ⟨g5, hf⟩ := pv_gd hf
  refine FV.iald dX1_bendThatBreaks_19 sc_92 g5.1 g5.2 (j := (Int.toNat (a1))) rfl ?_
  refine EV.iconst dX1_bendThatBreaks_20 (by decide) (by decide) ?_
  refine EV.iadd dX1_bendThatBreaks_21 ?_
  refine EV.bipush dX1_bendThatBreaks_22 (by decide) (by decide) ?_
  refine EV.imul dX1_bendThatBreaks_24 ?_
  refine EV.aload_n dX1_bendThatBreaks_25 rfl rfl ?_
  obtain ⟨g6, hf⟩ := pv_gd hf
  obtain ⟨x7, ex7, hf⟩ := pv_bo hf
  have mx7 : x7 ∈ pv_l5 := ex7 ▸ g6.2
  refine FV.getM dX1_bendThatBreaks_26 sc_78 fl_1_21 rfl rfl g6.1 ex7 ?_
  refine FV.getF (v := x7 + 1) dX1_bendThatBreaks_29 (sl5_0 _ mx7) fl_1_96 rfl (mu5_0 _ mx7 _) (hl5_0_2 _ mx7) ?_
  refine EV.iload_n dX1_bendThatBreaks_32 rfl rfl ?_
  obtain ⟨g8, hf⟩ := pv_gd hf
  refine FV.iald dX1_bendThatBreaks_33 (sl5_1 _ mx7) g8.1 g8.2 (j := (Int.toNat (a1))) rfl ?_
  refine EV.imul dX1_bendThatBreaks_34 ?_
  refine EV.iload_n dX1_bendThatBreaks_35 rfl rfl ?_
  refine EV.iadd dX1_bendThatBreaks_36 ?_
  refine EV.iconst dX1_bendThatBreaks_37 (by decide) (by decide) ?_
  refine EV.isub dX1_bendThatBreaks_38 ?_
  refine EV.iload_n dX1_bendThatBreaks_39 rfl rfl ?_
  obtain ⟨g9, hf⟩ := pv_gd hf
  refine EV.idiv dX1_bendThatBreaks_40 g9 ?_
  obtain ⟨x10, ex10, hf⟩ := pv_bo hf
  refine FV.sti (L2 := [some (.inr (.inr (78))), some (.inl (a1)), some (.inl (x4)), some (.inl (x10)), none, none, none]) dX1_bendThatBreaks_41 rfl (Nat.le_of_ble_eq_true rfl) ex10 rfl ?_
  refine EV.aload_n dX1_bendThatBreaks_42 rfl rfl ?_
  refine EV.iload_n dX1_bendThatBreaks_43 rfl rfl ?_
  obtain ⟨r12, hc11, hf⟩ := pv_c1o hf
  refine EV.invV (As := [.inl (a1)]) (st := []) (d1 := d - 1) (sh1 := pv_SC) (h1 := MC h) (r1 := (some (.inl r12))) dX1_bendThatBreaks_44 sc_78 (by decide) md_X1_isEnd ml_X1_102 im_X1_isEnd se_X1_isEnd (tX1_isEnd (by omega)  hc11) (by omega) rfl rfl (Nat.le_of_ble_eq_true rfl) ⟨[], (List.append_nil _).symm⟩ ?_
  refine EV.eqS (st2 := [.inl (r12)]) rfl ?_
  refine EV.if_eq (tgt := 63) dX1_bendThatBreaks_47 (by decide) (fun q13 => ?_) (fun q13 => ?_)
  · have hf := pv_gp hf q13
    refine EV.weak (L2 := [none, none, none, some (.inl (x10)), none, none, none]) (And.intro rfl trivial) ?_
    exact tX1_bendThatBreaks_63 hd    hf
  · have hf := pv_gn hf q13
    refine EV.aload_n dX1_bendThatBreaks_50 rfl rfl ?_
    obtain ⟨g14, hf⟩ := pv_gd hf
    obtain ⟨x15, ex15, hf⟩ := pv_bo hf
    have mx15 : x15 ∈ pv_l2 := ex15 ▸ g14.2
    refine FV.getM dX1_bendThatBreaks_51 sc_78 fl_1_28 rfl rfl g14.1 ex15 ?_
    refine FV.getF (v := x15 + 1) dX1_bendThatBreaks_54 (sl2_0 _ mx15) fl_1_66 rfl (mu2_0 _ mx15 _) (hl2_0_1 _ mx15) ?_
    refine EV.bipush dX1_bendThatBreaks_57 (by decide) (by decide) ?_
    refine FV.iald dX1_bendThatBreaks_59 (sl2_1 _ mx15) (by decide) (by decide) (j := 7) rfl ?_
    refine EV.if_ne (tgt := 65) dX1_bendThatBreaks_60 (by decide) (fun q16 => ?_) (fun q16 => ?_)
    · have hf := pv_gn hf q16
      refine EV.iconst dX1_bendThatBreaks_65 (by decide) (by decide) ?_
      refine FV.stiw (L2 := [some (.inr (.inr (78))), some (.inl (a1)), some (.inl (x4)), some (.inl (x10)), some (.inl (1)), none, none]) dX1_bendThatBreaks_66 (Nat.le_of_ble_eq_true rfl) rfl rfl ?_
      refine EV.iconst dX1_bendThatBreaks_68 (by decide) (by decide) ?_
      refine FV.stiw (L2 := [some (.inr (.inr (78))), some (.inl (a1)), some (.inl (x4)), some (.inl (x10)), some (.inl (1)), some (.inl (0)), none]) dX1_bendThatBreaks_69 (Nat.le_of_ble_eq_true rfl) rfl rfl ?_
      refine EV.weak (L2 := [some (.inr (.inr (78))), some (.inl (a1)), none, some (.inl (x10)), some (.inl (1)), some (.inl (0)), none]) (And.intro rfl (And.intro rfl (And.intro rfl (And.intro rfl (And.intro rfl trivial))))) ?_
      exact tX1_bendThatBreaks_71 hd   _ _ _ _   hf
    · have hf := pv_gp hf q16
      refine EV.weak (L2 := [none, none, none, some (.inl (x10)), none, none, none]) (And.intro rfl trivial) ?_
      exact tX1_bendThatBreaks_63 hd    hf

noncomputable def fX1_take_51 (N : Nat)  (a1 : Nat) (a2 : Nat) (a3 : Int) : Nat → Int → pv_H → Option (pv_H)
  | 0, _, _ => none
  | n + 1, v4, h => if (h a1 0) ≤ v4 then (some h) else (pv_c1 (fX1_bendThatBreaks N v4 h) fun r11 => pv_b (pv_up h 78 5 (min (h 78 5) r11)) fun h12 => pv_b (pv_w (v4 + 1)) fun x13 => fX1_take_51 N  a1 a2 a3 n (x13) h12)

noncomputable def fX1_take (N : Nat) (a1 : Nat) (a2 : Nat) (a3 : Int) (h : pv_H) : Option (pv_H) :=
  pv_b (pv_up h 78 3 ((a1 : Nat) : Int)) fun h1 => pv_b (pv_up h1 78 4 ((a2 : Nat) : Int)) fun h2 => pv_b (pv_up h2 79 0 (pv_w ((h2 (a2 + 1) 2) - (h2 (a2 + 1) 3)))) fun h3 => pv_c1 (fX5_drawStrengths N a1 a3 92 h3) fun h5 => pv_c1 (fX1_bendThatBreaks N 0 h5) fun r7 => pv_b (pv_up h5 78 5 r7) fun h8 => fX1_take_51 N  a1 a2 a3 N (1) h8

set_option maxHeartbeats 4000000 in
set_option maxRecDepth 20000 in
theorem tX1_take_51 {d N : Nat}  {a1 : Nat} {a2 : Nat} {a3 : Int} {h' : pv_H}  (hd : 4 ≤ d)  (ma1 : a1 ∈ pv_l5) (ma2 : a2 ∈ pv_l2) : ∀ (n : Nat) (v4 : Int)  (h : pv_H), fX1_take_51 N  a1 a2 a3 n v4 h = some h' → EV RX1 cX1_take 5 none false d pv_SC (MC h') none 51 [some (.inr (.inr (78))), some (.inr (.inr (a1))), none, none, some (.inl (v4))] [] pv_SC (MC h) := by
  intro n
  induction n with
  | zero =>
    intro v4  h hf
    cases hf
  | succ n ih =>
    intro v4  h hf
    rw [fX1_take_51] at hf
    refine EV.iload dX1_take_51 rfl ?_
    refine EV.aload_n dX1_take_53 rfl rfl ?_
    refine FV.getI dX1_take_54 (sl5_0 _ ma1) fl_1_84 rfl ?_
    refine EV.icmp_ge (tgt := 83) dX1_take_57 (by decide) (fun q9 => ?_) (fun q9 => ?_)
    · have hf := pv_gp hf q9
      exact FV.vret dX1_take_83 hf
    · have hf := pv_gn hf q9
      refine EV.aload_n dX1_take_60 rfl rfl ?_
      refine EV.aload_n dX1_take_61 rfl rfl ?_
      refine FV.getI dX1_take_62 sc_78 fl_1_81 rfl ?_
      refine EV.aload_n dX1_take_65 rfl rfl ?_
      refine EV.iload dX1_take_66 rfl ?_
      obtain ⟨r11, hc10, hf⟩ := pv_c1o hf
      refine EV.invV (As := [.inl (v4)]) (st := [.inl (h 78 5), .inr (.inr (78))]) (d1 := d - 1) (sh1 := pv_SC) (h1 := MC h) (r1 := (some (.inl r11))) dX1_take_68 sc_78 (by decide) md_X1_bendThatBreaks ml_X1_77 im_X1_bendThatBreaks se_X1_bendThatBreaks (tX1_bendThatBreaks (by omega)  hc10) (by omega) rfl rfl (Nat.le_of_ble_eq_true rfl) ⟨[], (List.append_nil _).symm⟩ ?_
      refine EV.eqS (st2 := [.inl (r11), .inl (h 78 5), .inr (.inr (78))]) rfl ?_
      refine EV.mmin dX1_take_71 ml_X1_87 w_mins w_mai w_minc (by omega) (Nat.le_of_ble_eq_true rfl) ?_
      obtain ⟨h12, eh12, hf⟩ := pv_bo hf
      refine FV.putI dX1_take_74 sc_78 fl_1_81 rfl rfl eh12 ?_
      obtain ⟨x13, ex13, hf⟩ := pv_bo hf
      refine FV.inc (L2 := [some (.inr (.inr (78))), some (.inr (.inr (a1))), none, none, some (.inl (x13))]) dX1_take_77 rfl (Nat.le_of_ble_eq_true rfl) ex13 rfl ?_
      refine EV.goto (tgt := 51) dX1_take_80 (by decide) ?_
      refine EV.weak (L2 := [some (.inr (.inr (78))), some (.inr (.inr (a1))), none, none, some (.inl (x13))]) (And.intro rfl (And.intro rfl (And.intro rfl trivial))) ?_
      exact ih _  _ hf

set_option maxHeartbeats 4000000 in
set_option maxRecDepth 20000 in
theorem tX1_take {d N : Nat} {a1 : Nat} {a2 : Nat} {a3 : Int} {h h' : pv_H}  (hd : 4 ≤ d) (ma1 : a1 ∈ pv_l5) (ma2 : a2 ∈ pv_l2) (hf : fX1_take N a1 a2 a3 h = some h') : CALL yX1_take cX1_take 5 none d pv_SC (MC h) [.inr (.inr (78)), .inr (.inr (a1)), .inr (.inr (a2)), .inl (a3)] pv_SC (MC h') none := by
  unfold fX1_take at hf
  refine EV.call (own := RX1) (ini := false) rfl rfl (fun q => by cases q) ⟨[], (List.append_nil _).symm⟩ (Nat.le_of_ble_eq_true rfl) ?_
  refine EV.eqL (L2 := [some (.inr (.inr (78))), some (.inr (.inr (a1))), some (.inr (.inr (a2))), some (.inl (a3)), none]) rfl ?_
  refine EV.aload_n dX1_take_0 rfl rfl ?_
  refine EV.aload_n dX1_take_1 rfl rfl ?_
  obtain ⟨h1, eh1, hf⟩ := pv_bo hf
  refine FV.putM dX1_take_2 sc_78 fl_1_21 rfl rfl rfl (lt5 _ ma1) eh1 ?_
  refine EV.aload_n dX1_take_5 rfl rfl ?_
  refine EV.aload_n dX1_take_6 rfl rfl ?_
  obtain ⟨h2, eh2, hf⟩ := pv_bo hf
  refine FV.putM dX1_take_7 sc_78 fl_1_28 rfl rfl rfl (lt2 _ ma2) eh2 ?_
  refine EV.aload_n dX1_take_10 rfl rfl ?_
  refine FV.getF (v := 79) dX1_take_11 sc_78 fl_1_12 rfl rfl hvc_78_0 ?_
  refine EV.aload_n dX1_take_14 rfl rfl ?_
  refine FV.getF (v := a2 + 1) dX1_take_15 (sl2_0 _ ma2) fl_1_66 rfl (mu2_0 _ ma2 _) (hl2_0_1 _ ma2) ?_
  refine EV.iconst dX1_take_18 (by decide) (by decide) ?_
  refine FV.iald dX1_take_19 (sl2_1 _ ma2) (by decide) (by decide) (j := 2) rfl ?_
  refine EV.aload_n dX1_take_20 rfl rfl ?_
  refine FV.getF (v := a2 + 1) dX1_take_21 (sl2_0 _ ma2) fl_1_66 rfl (mu2_0 _ ma2 _) (hl2_0_1 _ ma2) ?_
  refine EV.iconst dX1_take_24 (by decide) (by decide) ?_
  refine FV.iald dX1_take_25 (sl2_1 _ ma2) (by decide) (by decide) (j := 3) rfl ?_
  refine EV.isub dX1_take_26 ?_
  obtain ⟨h3, eh3, hf⟩ := pv_bo hf
  refine FV.putI dX1_take_27 sc_79 fl_1_69 rfl rfl eh3 ?_
  refine EV.aload_n dX1_take_30 rfl rfl ?_
  refine EV.iload_n dX1_take_31 rfl rfl ?_
  refine EV.aload_n dX1_take_32 rfl rfl ?_
  refine FV.getF (v := 92) dX1_take_33 sc_78 fl_1_32 rfl rfl hvc_78_11 ?_
  obtain ⟨h5, hc4, hf⟩ := pv_c1o hf
  refine EV.invV (As := [.inl (a3), .inr (.inr (92))]) (st := []) (d1 := d - 1) (sh1 := pv_SC) (h1 := MC h5) (r1 := none) dX1_take_36 (sl5_0 _ ma1) (by decide) md_X5_drawStrengths ml_X1_73 im_X5_drawStrengths se_X5_drawStrengths (tX5_drawStrengths (by omega) (ma1) (sc_92) hc4) (by omega) rfl rfl (Nat.le_of_ble_eq_true rfl) ⟨[], (List.append_nil _).symm⟩ ?_
  refine EV.aload_n dX1_take_39 rfl rfl ?_
  refine EV.aload_n dX1_take_40 rfl rfl ?_
  refine EV.iconst dX1_take_41 (by decide) (by decide) ?_
  obtain ⟨r7, hc6, hf⟩ := pv_c1o hf
  refine EV.invV (As := [.inl (0)]) (st := [.inr (.inr (78))]) (d1 := d - 1) (sh1 := pv_SC) (h1 := MC h5) (r1 := (some (.inl r7))) dX1_take_42 sc_78 (by decide) md_X1_bendThatBreaks ml_X1_77 im_X1_bendThatBreaks se_X1_bendThatBreaks (tX1_bendThatBreaks (by omega)  hc6) (by omega) rfl rfl (Nat.le_of_ble_eq_true rfl) ⟨[], (List.append_nil _).symm⟩ ?_
  refine EV.eqS (st2 := [.inl (r7), .inr (.inr (78))]) rfl ?_
  obtain ⟨h8, eh8, hf⟩ := pv_bo hf
  refine FV.putI dX1_take_45 sc_78 fl_1_81 rfl rfl eh8 ?_
  refine EV.iconst dX1_take_48 (by decide) (by decide) ?_
  refine FV.stiw (L2 := [some (.inr (.inr (78))), some (.inr (.inr (a1))), some (.inr (.inr (a2))), some (.inl (a3)), some (.inl (1))]) dX1_take_49 (Nat.le_of_ble_eq_true rfl) rfl rfl ?_
  refine EV.weak (L2 := [some (.inr (.inr (78))), some (.inr (.inr (a1))), none, none, some (.inl (1))]) (And.intro rfl (And.intro rfl (And.intro rfl trivial))) ?_
  exact tX1_take_51 hd  ma1 ma2 _ _  _ hf

noncomputable def fX1_findFirstCell_71 (N : Nat) (k4 : Int → Int → pv_H → Option (pv_H))  (v1 : Int) (v2 : Int) (h : pv_H) : Option (pv_H) :=
  pv_b (pv_w (v2 + 1)) fun x15 => k4 (v1) (x15) h

noncomputable def fX1_findFirstCell_4 (N : Nat)   : Nat → Int → Int → pv_H → Option (pv_H)
  | 0, _, _, _ => none
  | n + 1, v1, v2, h => if 0 ≤ h 78 3 ∧ (h 78 3).toNat ∈ pv_l5 then (pv_b ((h 78 3).toNat) fun x2 => if (h x2 0) ≤ v2 then (some h) else (pv_c1 (fX1_loadOf N v2 (h 80 5) h) fun r5 => if 0 ≤ v2 ∧ v2 < 60 then (pv_b (pv_up h 93 (Int.toNat (v2)) r5) fun h7 => if 0 ≤ v2 ∧ v2 < 60 then (if 0 ≤ v2 ∧ v2 < 60 then (if (pv_w ((h7 93 (Int.toNat (v2))) - (h7 92 (Int.toNat (v2))))) ≤ v1 then (fX1_findFirstCell_71 N (fun v1_ v2_ hh => fX1_findFirstCell_4 N   n v1_ v2_ hh)  (v1) (v2) h7) else (if 0 ≤ v2 ∧ v2 < 60 then (if 0 ≤ v2 ∧ v2 < 60 then (pv_b (pv_w ((h7 93 (Int.toNat (v2))) - (h7 92 (Int.toNat (v2))))) fun x13 => pv_b (pv_up h7 78 6 v2) fun h14 => fX1_findFirstCell_71 N (fun v1_ v2_ hh => fX1_findFirstCell_4 N   n v1_ v2_ hh)  (x13) (v2) h14) else none) else none)) else none) else none) else none)) else none

noncomputable def fX1_findFirstCell (N : Nat)  (h : pv_H) : Option (pv_H) :=
  fX1_findFirstCell_4 N   N (0) (0) h

set_option maxHeartbeats 4000000 in
set_option maxRecDepth 20000 in
theorem tX1_findFirstCell_71 {d N : Nat} {k4 : Int → Int → pv_H → Option (pv_H)}  {v1 : Int} {v2 : Int} {h h' : pv_H}  (hd : 3 ≤ d) (hk4 : ∀ (v1 : Int) (v2 : Int)  (hh : pv_H), k4 v1 v2 hh = some h' → EV RX1 cX1_findFirstCell 3 none false d pv_SC (MC h') none 4 [some (.inr (.inr (78))), some (.inl (v1)), some (.inl (v2))] [] pv_SC (MC hh))   (hf : fX1_findFirstCell_71 N k4  v1 v2 h = some h') : EV RX1 cX1_findFirstCell 3 none false d pv_SC (MC h') none 71 [some (.inr (.inr (78))), some (.inl (v1)), some (.inl (v2))] [] pv_SC (MC h) := by
  unfold fX1_findFirstCell_71 at hf
  obtain ⟨x15, ex15, hf⟩ := pv_bo hf
  refine FV.inc (L2 := [some (.inr (.inr (78))), some (.inl (v1)), some (.inl (x15))]) dX1_findFirstCell_71 rfl (Nat.le_of_ble_eq_true rfl) ex15 rfl ?_
  refine EV.goto (tgt := 4) dX1_findFirstCell_74 (by decide) ?_
  refine EV.weak (L2 := [some (.inr (.inr (78))), some (.inl (v1)), some (.inl (x15))]) (And.intro rfl (And.intro rfl (And.intro rfl trivial))) ?_
  exact hk4 _ _  _ hf

set_option maxHeartbeats 4000000 in
set_option maxRecDepth 20000 in
theorem tX1_findFirstCell_4 {d N : Nat}   {h' : pv_H}  (hd : 3 ≤ d)   : ∀ (n : Nat) (v1 : Int) (v2 : Int)  (h : pv_H), fX1_findFirstCell_4 N   n v1 v2 h = some h' → EV RX1 cX1_findFirstCell 3 none false d pv_SC (MC h') none 4 [some (.inr (.inr (78))), some (.inl (v1)), some (.inl (v2))] [] pv_SC (MC h) := by
  intro n
  induction n with
  | zero =>
    intro v1 v2  h hf
    cases hf
  | succ n ih =>
    intro v1 v2  h hf
    rw [fX1_findFirstCell_4] at hf
    refine EV.iload_n dX1_findFirstCell_4 rfl rfl ?_
    refine EV.aload_n dX1_findFirstCell_5 rfl rfl ?_
    obtain ⟨g1, hf⟩ := pv_gd hf
    obtain ⟨x2, ex2, hf⟩ := pv_bo hf
    have mx2 : x2 ∈ pv_l5 := ex2 ▸ g1.2
    refine FV.getM dX1_findFirstCell_6 sc_78 fl_1_21 rfl rfl g1.1 ex2 ?_
    refine FV.getI dX1_findFirstCell_9 (sl5_0 _ mx2) fl_1_84 rfl ?_
    refine EV.icmp_ge (tgt := 77) dX1_findFirstCell_12 (by decide) (fun q3 => ?_) (fun q3 => ?_)
    · have hf := pv_gp hf q3
      exact FV.vret dX1_findFirstCell_77 hf
    · have hf := pv_gn hf q3
      refine EV.aload_n dX1_findFirstCell_15 rfl rfl ?_
      refine FV.getF (v := 93) dX1_findFirstCell_16 sc_78 fl_1_36 rfl rfl hvc_78_12 ?_
      refine EV.iload_n dX1_findFirstCell_19 rfl rfl ?_
      refine EV.aload_n dX1_findFirstCell_20 rfl rfl ?_
      refine EV.iload_n dX1_findFirstCell_21 rfl rfl ?_
      refine EV.aload_n dX1_findFirstCell_22 rfl rfl ?_
      refine FV.getF (v := 79) dX1_findFirstCell_23 sc_78 fl_1_12 rfl rfl hvc_78_0 ?_
      refine FV.getF (v := 80) dX1_findFirstCell_26 sc_79 fl_1_124 rfl rfl hvc_79_1 ?_
      refine EV.iconst dX1_findFirstCell_29 (by decide) (by decide) ?_
      refine FV.iald dX1_findFirstCell_30 sc_80 (by decide) (by decide) (j := 5) rfl ?_
      obtain ⟨r5, hc4, hf⟩ := pv_c1o hf
      refine EV.invV (As := [.inl (v2), .inl (h 80 5)]) (st := [.inl (v2), .inr (.inr (93))]) (d1 := d - 1) (sh1 := pv_SC) (h1 := MC h) (r1 := (some (.inl r5))) dX1_findFirstCell_31 sc_78 (by decide) md_X1_loadOf ml_X1_106 im_X1_loadOf se_X1_loadOf (tX1_loadOf (by omega)  hc4) (by omega) rfl rfl (Nat.le_of_ble_eq_true rfl) ⟨[], (List.append_nil _).symm⟩ ?_
      refine EV.eqS (st2 := [.inl (r5), .inl (v2), .inr (.inr (93))]) rfl ?_
      obtain ⟨g6, hf⟩ := pv_gd hf
      obtain ⟨h7, eh7, hf⟩ := pv_bo hf
      refine FV.iast dX1_findFirstCell_34 sc_93 g6.1 g6.2 (j := (Int.toNat (v2))) rfl eh7 ?_
      refine EV.aload_n dX1_findFirstCell_35 rfl rfl ?_
      refine FV.getF (v := 93) dX1_findFirstCell_36 sc_78 fl_1_36 rfl rfl hvc_78_12 ?_
      refine EV.iload_n dX1_findFirstCell_39 rfl rfl ?_
      obtain ⟨g8, hf⟩ := pv_gd hf
      refine FV.iald dX1_findFirstCell_40 sc_93 g8.1 g8.2 (j := (Int.toNat (v2))) rfl ?_
      refine EV.aload_n dX1_findFirstCell_41 rfl rfl ?_
      refine FV.getF (v := 92) dX1_findFirstCell_42 sc_78 fl_1_32 rfl rfl hvc_78_11 ?_
      refine EV.iload_n dX1_findFirstCell_45 rfl rfl ?_
      obtain ⟨g9, hf⟩ := pv_gd hf
      refine FV.iald dX1_findFirstCell_46 sc_92 g9.1 g9.2 (j := (Int.toNat (v2))) rfl ?_
      refine EV.isub dX1_findFirstCell_47 ?_
      refine EV.iload_n dX1_findFirstCell_48 rfl rfl ?_
      refine EV.icmp_le (tgt := 71) dX1_findFirstCell_49 (by decide) (fun q10 => ?_) (fun q10 => ?_)
      · have hf := pv_gp hf q10
        refine EV.weak (L2 := [some (.inr (.inr (78))), some (.inl (v1)), some (.inl (v2))]) (And.intro rfl (And.intro rfl (And.intro rfl trivial))) ?_
        exact tX1_findFirstCell_71 hd (ih)   hf
      · have hf := pv_gn hf q10
        refine EV.aload_n dX1_findFirstCell_52 rfl rfl ?_
        refine FV.getF (v := 93) dX1_findFirstCell_53 sc_78 fl_1_36 rfl rfl hvc_78_12 ?_
        refine EV.iload_n dX1_findFirstCell_56 rfl rfl ?_
        obtain ⟨g11, hf⟩ := pv_gd hf
        refine FV.iald dX1_findFirstCell_57 sc_93 g11.1 g11.2 (j := (Int.toNat (v2))) rfl ?_
        refine EV.aload_n dX1_findFirstCell_58 rfl rfl ?_
        refine FV.getF (v := 92) dX1_findFirstCell_59 sc_78 fl_1_32 rfl rfl hvc_78_11 ?_
        refine EV.iload_n dX1_findFirstCell_62 rfl rfl ?_
        obtain ⟨g12, hf⟩ := pv_gd hf
        refine FV.iald dX1_findFirstCell_63 sc_92 g12.1 g12.2 (j := (Int.toNat (v2))) rfl ?_
        refine EV.isub dX1_findFirstCell_64 ?_
        obtain ⟨x13, ex13, hf⟩ := pv_bo hf
        refine FV.sti (L2 := [some (.inr (.inr (78))), some (.inl (x13)), some (.inl (v2))]) dX1_findFirstCell_65 rfl (Nat.le_of_ble_eq_true rfl) ex13 rfl ?_
        refine EV.aload_n dX1_findFirstCell_66 rfl rfl ?_
        refine EV.iload_n dX1_findFirstCell_67 rfl rfl ?_
        obtain ⟨h14, eh14, hf⟩ := pv_bo hf
        refine FV.putI dX1_findFirstCell_68 sc_78 fl_1_117 rfl rfl eh14 ?_
        refine EV.weak (L2 := [some (.inr (.inr (78))), some (.inl (x13)), some (.inl (v2))]) (And.intro rfl (And.intro rfl (And.intro rfl trivial))) ?_
        exact tX1_findFirstCell_71 hd (ih)   hf

set_option maxHeartbeats 4000000 in
set_option maxRecDepth 20000 in
theorem tX1_findFirstCell {d N : Nat}  {h h' : pv_H}  (hd : 3 ≤ d)  (hf : fX1_findFirstCell N  h = some h') : CALL yX1_findFirstCell cX1_findFirstCell 3 none d pv_SC (MC h) [.inr (.inr (78))] pv_SC (MC h') none := by
  unfold fX1_findFirstCell at hf
  refine EV.call (own := RX1) (ini := false) rfl rfl (fun q => by cases q) ⟨[], (List.append_nil _).symm⟩ (Nat.le_of_ble_eq_true rfl) ?_
  refine EV.eqL (L2 := [some (.inr (.inr (78))), none, none]) rfl ?_
  refine EV.iconst dX1_findFirstCell_0 (by decide) (by decide) ?_
  refine FV.sti (L2 := [some (.inr (.inr (78))), some (.inl (0)), none]) dX1_findFirstCell_1 rfl (Nat.le_of_ble_eq_true rfl) rfl rfl ?_
  refine EV.iconst dX1_findFirstCell_2 (by decide) (by decide) ?_
  refine FV.sti (L2 := [some (.inr (.inr (78))), some (.inl (0)), some (.inl (0))]) dX1_findFirstCell_3 rfl (Nat.le_of_ble_eq_true rfl) rfl rfl ?_
  refine EV.weak (L2 := [some (.inr (.inr (78))), some (.inl (0)), some (.inl (0))]) (And.intro rfl (And.intro rfl (And.intro rfl trivial))) ?_
  exact tX1_findFirstCell_4 hd   _ _ _  _ hf

noncomputable def fX1_bendBy_99 (N : Nat)  (a1 : Nat) (a2 : Int)  (h : pv_H) : Option (pv_H) :=
  some h

noncomputable def fX1_bendBy_46 (N : Nat)  (a1 : Nat) (a2 : Int) (v3 : Int) (h : pv_H) : Option (pv_H) :=
  pv_b (pv_up h 80 4 v3) fun h10 => pv_c1 (fX0_bendBehind N a1 v3 a2 h10) fun r12 => pv_b (pv_up h10 80 5 r12) fun h13 => pv_c1 (fX0_turnBehind N a1 v3 a2 h13) fun r15 => pv_b (pv_up h13 80 6 r15) fun h16 => if (h16 78 7) = (-1) then (fX1_bendBy_99 N  a1 a2  h16) else (pv_c1 (fX1_findFirstCell N  h16) fun h19 => fX1_bendBy_99 N  a1 a2  h19)

noncomputable def fX1_bendBy (N : Nat) (a1 : Nat) (a2 : Int) (h : pv_H) : Option (pv_H) :=
  pv_c1 (fX0_tickOfBend N a1 (h 78 5) a2 h) fun r2 => pv_b (pv_up h 78 7 r2) fun h3 => pv_b (pv_up h3 78 6 (-1)) fun h4 => pv_b (pv_w ((h4 78 7) + 1)) fun x5 => if (h4 78 7) = (-1) then (pv_c1 (fX0_allTicks N a1 h4) fun r8 => pv_b (min (pv_w (r8 * a2)) 4000) fun x9 => fX1_bendBy_46 N  a1 a2 (x9) h4) else (fX1_bendBy_46 N  a1 a2 (x5) h4)

set_option maxHeartbeats 4000000 in
set_option maxRecDepth 20000 in
theorem tX1_bendBy_99 {d N : Nat}  {a1 : Nat} {a2 : Int}  {h h' : pv_H}  (hd : 4 ≤ d)  (ma1 : a1 ∈ pv_l0)  (hf : fX1_bendBy_99 N  a1 a2  h = some h') : EV RX1 cX1_bendBy 4 none false d pv_SC (MC h') none 99 [none, none, none, none] [] pv_SC (MC h) := by
  unfold fX1_bendBy_99 at hf
  exact FV.vret dX1_bendBy_99 hf

set_option maxHeartbeats 4000000 in
set_option maxRecDepth 20000 in
theorem tX1_bendBy_46 {d N : Nat}  {a1 : Nat} {a2 : Int} {v3 : Int} {h h' : pv_H}  (hd : 4 ≤ d)  (ma1 : a1 ∈ pv_l0)  (hf : fX1_bendBy_46 N  a1 a2 v3 h = some h') : EV RX1 cX1_bendBy 4 none false d pv_SC (MC h') none 46 [some (.inr (.inr (78))), some (.inr (.inr (a1))), some (.inl (a2)), some (.inl (v3))] [] pv_SC (MC h) := by
  unfold fX1_bendBy_46 at hf
  refine EV.aload_n dX1_bendBy_46 rfl rfl ?_
  refine FV.getF (v := 79) dX1_bendBy_47 sc_78 fl_1_12 rfl rfl hvc_78_0 ?_
  refine FV.getF (v := 80) dX1_bendBy_50 sc_79 fl_1_124 rfl rfl hvc_79_1 ?_
  refine EV.iconst dX1_bendBy_53 (by decide) (by decide) ?_
  refine EV.iload_n dX1_bendBy_54 rfl rfl ?_
  obtain ⟨h10, eh10, hf⟩ := pv_bo hf
  refine FV.iast dX1_bendBy_55 sc_80 (by decide) (by decide) (j := 4) rfl eh10 ?_
  refine EV.aload_n dX1_bendBy_56 rfl rfl ?_
  refine FV.getF (v := 79) dX1_bendBy_57 sc_78 fl_1_12 rfl rfl hvc_78_0 ?_
  refine FV.getF (v := 80) dX1_bendBy_60 sc_79 fl_1_124 rfl rfl hvc_79_1 ?_
  refine EV.iconst dX1_bendBy_63 (by decide) (by decide) ?_
  refine EV.aload_n dX1_bendBy_64 rfl rfl ?_
  refine EV.iload_n dX1_bendBy_65 rfl rfl ?_
  refine EV.iload_n dX1_bendBy_66 rfl rfl ?_
  obtain ⟨r12, hc11, hf⟩ := pv_c1o hf
  refine EV.invV (As := [.inl (v3), .inl (a2)]) (st := [.inl (5), .inr (.inr (80))]) (d1 := d - 1) (sh1 := pv_SC) (h1 := MC h10) (r1 := (some (.inl r12))) dX1_bendBy_67 (sl0_0 _ ma1) (by decide) md_X0_bendBehind ml_X1_127 im_X0_bendBehind se_X0_bendBehind (tX0_bendBehind (by omega) (ma1) hc11) (by omega) rfl rfl (Nat.le_of_ble_eq_true rfl) ⟨[], (List.append_nil _).symm⟩ ?_
  refine EV.eqS (st2 := [.inl (r12), .inl (5), .inr (.inr (80))]) rfl ?_
  obtain ⟨h13, eh13, hf⟩ := pv_bo hf
  refine FV.iast dX1_bendBy_70 sc_80 (by decide) (by decide) (j := 5) rfl eh13 ?_
  refine EV.aload_n dX1_bendBy_71 rfl rfl ?_
  refine FV.getF (v := 79) dX1_bendBy_72 sc_78 fl_1_12 rfl rfl hvc_78_0 ?_
  refine FV.getF (v := 80) dX1_bendBy_75 sc_79 fl_1_124 rfl rfl hvc_79_1 ?_
  refine EV.bipush dX1_bendBy_78 (by decide) (by decide) ?_
  refine EV.aload_n dX1_bendBy_80 rfl rfl ?_
  refine EV.iload_n dX1_bendBy_81 rfl rfl ?_
  refine EV.iload_n dX1_bendBy_82 rfl rfl ?_
  obtain ⟨r15, hc14, hf⟩ := pv_c1o hf
  refine EV.invV (As := [.inl (v3), .inl (a2)]) (st := [.inl (6), .inr (.inr (80))]) (d1 := d - 1) (sh1 := pv_SC) (h1 := MC h13) (r1 := (some (.inl r15))) dX1_bendBy_83 (sl0_0 _ ma1) (by decide) md_X0_turnBehind ml_X1_130 im_X0_turnBehind se_X0_turnBehind (tX0_turnBehind (by omega) (ma1) hc14) (by omega) rfl rfl (Nat.le_of_ble_eq_true rfl) ⟨[], (List.append_nil _).symm⟩ ?_
  refine EV.eqS (st2 := [.inl (r15), .inl (6), .inr (.inr (80))]) rfl ?_
  obtain ⟨h16, eh16, hf⟩ := pv_bo hf
  refine FV.iast dX1_bendBy_86 sc_80 (by decide) (by decide) (j := 6) rfl eh16 ?_
  refine EV.aload_n dX1_bendBy_87 rfl rfl ?_
  refine FV.getI dX1_bendBy_88 sc_78 fl_1_114 rfl ?_
  refine EV.iconst dX1_bendBy_91 (by decide) (by decide) ?_
  refine EV.icmp_eq (tgt := 99) dX1_bendBy_92 (by decide) (fun q17 => ?_) (fun q17 => ?_)
  · have hf := pv_gp hf q17
    refine EV.weak (L2 := [none, none, none, none]) trivial ?_
    exact tX1_bendBy_99 hd  ma1  hf
  · have hf := pv_gn hf q17
    refine EV.aload_n dX1_bendBy_95 rfl rfl ?_
    obtain ⟨h19, hc18, hf⟩ := pv_c1o hf
    refine EV.invV (As := []) (st := []) (d1 := d - 1) (sh1 := pv_SC) (h1 := MC h19) (r1 := none) dX1_bendBy_96 sc_78 (by decide) md_X1_findFirstCell ml_X1_133 im_X1_findFirstCell se_X1_findFirstCell (tX1_findFirstCell (by omega)  hc18) (by omega) rfl rfl (Nat.le_of_ble_eq_true rfl) ⟨[], (List.append_nil _).symm⟩ ?_
    refine EV.weak (L2 := [none, none, none, none]) trivial ?_
    exact tX1_bendBy_99 hd  ma1  hf

set_option maxHeartbeats 4000000 in
set_option maxRecDepth 20000 in
theorem tX1_bendBy {d N : Nat} {a1 : Nat} {a2 : Int} {h h' : pv_H}  (hd : 4 ≤ d) (ma1 : a1 ∈ pv_l0) (hf : fX1_bendBy N a1 a2 h = some h') : CALL yX1_bendBy cX1_bendBy 4 none d pv_SC (MC h) [.inr (.inr (78)), .inr (.inr (a1)), .inl (a2)] pv_SC (MC h') none := by
  unfold fX1_bendBy at hf
  refine EV.call (own := RX1) (ini := false) rfl rfl (fun q => by cases q) ⟨[], (List.append_nil _).symm⟩ (Nat.le_of_ble_eq_true rfl) ?_
  refine EV.eqL (L2 := [some (.inr (.inr (78))), some (.inr (.inr (a1))), some (.inl (a2)), none]) rfl ?_
  refine EV.aload_n dX1_bendBy_0 rfl rfl ?_
  refine EV.aload_n dX1_bendBy_1 rfl rfl ?_
  refine EV.aload_n dX1_bendBy_2 rfl rfl ?_
  refine FV.getI dX1_bendBy_3 sc_78 fl_1_81 rfl ?_
  refine EV.iload_n dX1_bendBy_6 rfl rfl ?_
  obtain ⟨r2, hc1, hf⟩ := pv_c1o hf
  refine EV.invV (As := [.inl (h 78 5), .inl (a2)]) (st := [.inr (.inr (78))]) (d1 := d - 1) (sh1 := pv_SC) (h1 := MC h) (r1 := (some (.inl r2))) dX1_bendBy_7 (sl0_0 _ ma1) (by decide) md_X0_tickOfBend ml_X1_109 im_X0_tickOfBend se_X0_tickOfBend (tX0_tickOfBend (by omega) (ma1) hc1) (by omega) rfl rfl (Nat.le_of_ble_eq_true rfl) ⟨[], (List.append_nil _).symm⟩ ?_
  refine EV.eqS (st2 := [.inl (r2), .inr (.inr (78))]) rfl ?_
  obtain ⟨h3, eh3, hf⟩ := pv_bo hf
  refine FV.putI dX1_bendBy_10 sc_78 fl_1_114 rfl rfl eh3 ?_
  refine EV.aload_n dX1_bendBy_13 rfl rfl ?_
  refine EV.iconst dX1_bendBy_14 (by decide) (by decide) ?_
  obtain ⟨h4, eh4, hf⟩ := pv_bo hf
  refine FV.putI dX1_bendBy_15 sc_78 fl_1_117 rfl rfl eh4 ?_
  refine EV.aload_n dX1_bendBy_18 rfl rfl ?_
  refine FV.getI dX1_bendBy_19 sc_78 fl_1_114 rfl ?_
  refine EV.iconst dX1_bendBy_22 (by decide) (by decide) ?_
  refine EV.iadd dX1_bendBy_23 ?_
  obtain ⟨x5, ex5, hf⟩ := pv_bo hf
  refine FV.sti (L2 := [some (.inr (.inr (78))), some (.inr (.inr (a1))), some (.inl (a2)), some (.inl (x5))]) dX1_bendBy_24 rfl (Nat.le_of_ble_eq_true rfl) ex5 rfl ?_
  refine EV.aload_n dX1_bendBy_25 rfl rfl ?_
  refine FV.getI dX1_bendBy_26 sc_78 fl_1_114 rfl ?_
  refine EV.iconst dX1_bendBy_29 (by decide) (by decide) ?_
  refine EV.icmp_ne (tgt := 46) dX1_bendBy_30 (by decide) (fun q6 => ?_) (fun q6 => ?_)
  · have hf := pv_gn hf q6
    refine EV.weak (L2 := [some (.inr (.inr (78))), some (.inr (.inr (a1))), some (.inl (a2)), some (.inl (x5))]) (And.intro rfl (And.intro rfl (And.intro rfl (And.intro rfl trivial)))) ?_
    exact tX1_bendBy_46 hd  ma1  hf
  · have hf := pv_gp hf q6
    refine EV.aload_n dX1_bendBy_33 rfl rfl ?_
    obtain ⟨r8, hc7, hf⟩ := pv_c1o hf
    refine EV.invV (As := []) (st := []) (d1 := d - 1) (sh1 := pv_SC) (h1 := MC h4) (r1 := (some (.inl r8))) dX1_bendBy_34 (sl0_0 _ ma1) (by decide) md_X0_allTicks ml_X1_120 im_X0_allTicks se_X0_allTicks (tX0_allTicks (by omega) (ma1) hc7) (by omega) rfl rfl (Nat.le_of_ble_eq_true rfl) ⟨[], (List.append_nil _).symm⟩ ?_
    refine EV.eqS (st2 := [.inl (r8)]) rfl ?_
    refine EV.iload_n dX1_bendBy_37 rfl rfl ?_
    refine EV.imul dX1_bendBy_38 ?_
    refine EV.sipush dX1_bendBy_39 (by decide) (by decide) ?_
    refine EV.mmin dX1_bendBy_42 ml_X1_87 w_mins w_mai w_minc (by omega) (Nat.le_of_ble_eq_true rfl) ?_
    obtain ⟨x9, ex9, hf⟩ := pv_bo hf
    refine FV.sti (L2 := [some (.inr (.inr (78))), some (.inr (.inr (a1))), some (.inl (a2)), some (.inl (x9))]) dX1_bendBy_45 rfl (Nat.le_of_ble_eq_true rfl) ex9 rfl ?_
    refine EV.weak (L2 := [some (.inr (.inr (78))), some (.inr (.inr (a1))), some (.inl (a2)), some (.inl (x9))]) (And.intro rfl (And.intro rfl (And.intro rfl (And.intro rfl trivial)))) ?_
    exact tX1_bendBy_46 hd  ma1  hf

noncomputable def fX1_kindOfFirst_42 (N : Nat)   (s0 : Int) (h : pv_H) : Option (Int) :=
  some (s0)

noncomputable def fX1_kindOfFirst (N : Nat)  (h : pv_H) : Option (Int) :=
  pv_c1 (fX1_isEnd N (h 78 6) h) fun r2 => if r2 = 0 then (if 0 ≤ h 78 6 ∧ h 78 6 < 60 then (if 0 ≤ h 78 3 ∧ (h 78 3).toNat ∈ pv_l5 then (pv_b ((h 78 3).toNat) fun x6 => if 0 ≤ h 78 6 ∧ h 78 6 < 60 then (if (h (x6 + 2) (Int.toNat (h 78 6))) ≤ (h 92 (Int.toNat (h 78 6))) then (fX1_kindOfFirst_42 N   (0) h) else (fX1_kindOfFirst_42 N   (4) h)) else none) else none) else none) else (some (3))

set_option maxHeartbeats 4000000 in
set_option maxRecDepth 20000 in
theorem tX1_kindOfFirst_42 {d N : Nat}   {s0 : Int} {h : pv_H} {r : Int} (hd : 2 ≤ d)    (hf : fX1_kindOfFirst_42 N   s0 h = some r) : EV RX1 cX1_kindOfFirst 1 (some .int) false d pv_SC (MC h) (some (.inl r)) 42 [none] [.inl (s0)] pv_SC (MC h) := by
  unfold fX1_kindOfFirst_42 at hf
  exact FV.iretp dX1_kindOfFirst_42 hf

set_option maxHeartbeats 4000000 in
set_option maxRecDepth 20000 in
theorem tX1_kindOfFirst {d N : Nat}  {h : pv_H} {r : Int} (hd : 2 ≤ d)  (hf : fX1_kindOfFirst N  h = some r) : CALL yX1_kindOfFirst cX1_kindOfFirst 1 (some .int) d pv_SC (MC h) [.inr (.inr (78))] pv_SC (MC h) (some (.inl r)) := by
  unfold fX1_kindOfFirst at hf
  refine EV.call (own := RX1) (ini := false) rfl rfl (fun q => by cases q) ⟨[], (List.append_nil _).symm⟩ (Nat.le_of_ble_eq_true rfl) ?_
  refine EV.eqL (L2 := [some (.inr (.inr (78)))]) rfl ?_
  refine EV.aload_n dX1_kindOfFirst_0 rfl rfl ?_
  refine EV.aload_n dX1_kindOfFirst_1 rfl rfl ?_
  refine FV.getI dX1_kindOfFirst_2 sc_78 fl_1_117 rfl ?_
  obtain ⟨r2, hc1, hf⟩ := pv_c1o hf
  refine EV.invV (As := [.inl (h 78 6)]) (st := []) (d1 := d - 1) (sh1 := pv_SC) (h1 := MC h) (r1 := (some (.inl r2))) dX1_kindOfFirst_5 sc_78 (by decide) md_X1_isEnd ml_X1_102 im_X1_isEnd se_X1_isEnd (tX1_isEnd (by omega)  hc1) (by omega) rfl rfl (Nat.le_of_ble_eq_true rfl) ⟨[], (List.append_nil _).symm⟩ ?_
  refine EV.eqS (st2 := [.inl (r2)]) rfl ?_
  refine EV.if_eq (tgt := 13) dX1_kindOfFirst_8 (by decide) (fun q3 => ?_) (fun q3 => ?_)
  · have hf := pv_gp hf q3
    refine EV.aload_n dX1_kindOfFirst_13 rfl rfl ?_
    refine FV.getF (v := 92) dX1_kindOfFirst_14 sc_78 fl_1_32 rfl rfl hvc_78_11 ?_
    refine EV.aload_n dX1_kindOfFirst_17 rfl rfl ?_
    refine FV.getI dX1_kindOfFirst_18 sc_78 fl_1_117 rfl ?_
    obtain ⟨g4, hf⟩ := pv_gd hf
    refine FV.iald dX1_kindOfFirst_21 sc_92 g4.1 g4.2 (j := (Int.toNat (h 78 6))) rfl ?_
    refine EV.aload_n dX1_kindOfFirst_22 rfl rfl ?_
    obtain ⟨g5, hf⟩ := pv_gd hf
    obtain ⟨x6, ex6, hf⟩ := pv_bo hf
    have mx6 : x6 ∈ pv_l5 := ex6 ▸ g5.2
    refine FV.getM dX1_kindOfFirst_23 sc_78 fl_1_21 rfl rfl g5.1 ex6 ?_
    refine FV.getF (v := x6 + 2) dX1_kindOfFirst_26 (sl5_0 _ mx6) fl_1_176 rfl (mu5_0 _ mx6 _) (hl5_0_3 _ mx6) ?_
    refine EV.aload_n dX1_kindOfFirst_29 rfl rfl ?_
    refine FV.getI dX1_kindOfFirst_30 sc_78 fl_1_117 rfl ?_
    obtain ⟨g7, hf⟩ := pv_gd hf
    refine FV.iald dX1_kindOfFirst_33 (sl5_2 _ mx6) g7.1 g7.2 (j := (Int.toNat (h 78 6))) rfl ?_
    refine EV.icmp_ge (tgt := 41) dX1_kindOfFirst_34 (by decide) (fun q8 => ?_) (fun q8 => ?_)
    · have hf := pv_gp hf q8
      refine EV.iconst dX1_kindOfFirst_41 (by decide) (by decide) ?_
      refine EV.weak (L2 := [none]) trivial ?_
      exact tX1_kindOfFirst_42 hd    hf
    · have hf := pv_gn hf q8
      refine EV.iconst dX1_kindOfFirst_37 (by decide) (by decide) ?_
      refine EV.goto (tgt := 42) dX1_kindOfFirst_38 (by decide) ?_
      refine EV.weak (L2 := [none]) trivial ?_
      exact tX1_kindOfFirst_42 hd    hf
  · have hf := pv_gn hf q3
    refine EV.iconst dX1_kindOfFirst_11 (by decide) (by decide) ?_
    exact FV.iretp dX1_kindOfFirst_12 hf

noncomputable def fX1_beginWave (N : Nat) (a1 : Int) (a2 : Int) (a3 : Int) (a4 : Int) (a5 : Int) (h : pv_H) : Option (pv_H) :=
  pv_b (h 80 2) fun x1 => if x1 < 200 then (if 0 ≤ pv_w (0 + x1) ∧ pv_w (0 + x1) < 1200 then (pv_b (pv_up h 82 (Int.toNat (pv_w (0 + x1))) a1) fun h4 => if 0 ≤ pv_w (200 + x1) ∧ pv_w (200 + x1) < 1200 then (pv_b (pv_up h4 82 (Int.toNat (pv_w (200 + x1))) a2) fun h6 => if 0 ≤ pv_w (400 + x1) ∧ pv_w (400 + x1) < 1200 then (pv_b (pv_up h6 82 (Int.toNat (pv_w (400 + x1))) a3) fun h8 => if 0 ≤ pv_w (600 + x1) ∧ pv_w (600 + x1) < 1200 then (pv_b (pv_up h8 82 (Int.toNat (pv_w (600 + x1))) a4) fun h10 => if 0 ≤ pv_w (800 + x1) ∧ pv_w (800 + x1) < 1200 then (pv_b (pv_up h10 82 (Int.toNat (pv_w (800 + x1))) a5) fun h12 => if 0 ≤ pv_w (1000 + x1) ∧ pv_w (1000 + x1) < 1200 then (pv_b (pv_up h12 82 (Int.toNat (pv_w (1000 + x1))) 0) fun h14 => pv_b (pv_up h14 80 2 (pv_w ((h14 80 2) + 1))) fun h15 => if 0 ≤ x1 ∧ x1 < 200 then (pv_b (pv_up h15 97 (Int.toNat (x1)) a1) fun h17 => if 0 ≤ x1 ∧ x1 < 200 then (pv_b (pv_up h17 98 (Int.toNat (x1)) a4) fun h19 => if 0 ≤ h19 78 10 ∧ h19 78 10 < 200 then (pv_b (pv_up h19 96 (Int.toNat (h19 78 10)) x1) fun h21 => pv_b (pv_up h21 78 10 (pv_w ((h21 78 10) + 1))) fun h22 => some h22) else none) else none) else none) else none) else none) else none) else none) else none) else none) else (some h)

set_option maxHeartbeats 4000000 in
set_option maxRecDepth 20000 in
theorem tX1_beginWave {d N : Nat} {a1 : Int} {a2 : Int} {a3 : Int} {a4 : Int} {a5 : Int} {h h' : pv_H}  (hd : 1 ≤ d)  (hf : fX1_beginWave N a1 a2 a3 a4 a5 h = some h') : CALL yX1_beginWave cX1_beginWave 7 none d pv_SC (MC h) [.inr (.inr (78)), .inl (a1), .inl (a2), .inl (a3), .inl (a4), .inl (a5)] pv_SC (MC h') none := by
  unfold fX1_beginWave at hf
  refine EV.call (own := RX1) (ini := false) rfl rfl (fun q => by cases q) ⟨[], (List.append_nil _).symm⟩ (Nat.le_of_ble_eq_true rfl) ?_
  refine EV.eqL (L2 := [some (.inr (.inr (78))), some (.inl (a1)), some (.inl (a2)), some (.inl (a3)), some (.inl (a4)), some (.inl (a5)), none]) rfl ?_
  refine EV.aload_n dX1_beginWave_0 rfl rfl ?_
  refine FV.getF (v := 79) dX1_beginWave_1 sc_78 fl_1_12 rfl rfl hvc_78_0 ?_
  refine FV.getF (v := 80) dX1_beginWave_4 sc_79 fl_1_124 rfl rfl hvc_79_1 ?_
  refine EV.iconst dX1_beginWave_7 (by decide) (by decide) ?_
  refine FV.iald dX1_beginWave_8 sc_80 (by decide) (by decide) (j := 2) rfl ?_
  obtain ⟨x1, ex1, hf⟩ := pv_bo hf
  refine FV.stiw (L2 := [some (.inr (.inr (78))), some (.inl (a1)), some (.inl (a2)), some (.inl (a3)), some (.inl (a4)), some (.inl (a5)), some (.inl (x1))]) dX1_beginWave_9 (Nat.le_of_ble_eq_true rfl) ex1 rfl ?_
  refine EV.iload dX1_beginWave_11 rfl ?_
  refine EV.sipush dX1_beginWave_13 (by decide) (by decide) ?_
  refine EV.icmp_lt (tgt := 20) dX1_beginWave_16 (by decide) (fun q2 => ?_) (fun q2 => ?_)
  · have hf := pv_gp hf q2
    refine EV.aload_n dX1_beginWave_20 rfl rfl ?_
    refine FV.getF (v := 79) dX1_beginWave_21 sc_78 fl_1_12 rfl rfl hvc_78_0 ?_
    refine FV.getF (v := 82) dX1_beginWave_24 sc_79 fl_1_187 rfl rfl hvc_79_3 ?_
    refine EV.iconst dX1_beginWave_27 (by decide) (by decide) ?_
    refine EV.iload dX1_beginWave_28 rfl ?_
    refine EV.iadd dX1_beginWave_30 ?_
    refine EV.iload_n dX1_beginWave_31 rfl rfl ?_
    obtain ⟨g3, hf⟩ := pv_gd hf
    obtain ⟨h4, eh4, hf⟩ := pv_bo hf
    refine FV.iast dX1_beginWave_32 sc_82 g3.1 g3.2 (j := (Int.toNat (pv_w (0 + x1)))) rfl eh4 ?_
    refine EV.aload_n dX1_beginWave_33 rfl rfl ?_
    refine FV.getF (v := 79) dX1_beginWave_34 sc_78 fl_1_12 rfl rfl hvc_78_0 ?_
    refine FV.getF (v := 82) dX1_beginWave_37 sc_79 fl_1_187 rfl rfl hvc_79_3 ?_
    refine EV.sipush dX1_beginWave_40 (by decide) (by decide) ?_
    refine EV.iload dX1_beginWave_43 rfl ?_
    refine EV.iadd dX1_beginWave_45 ?_
    refine EV.iload_n dX1_beginWave_46 rfl rfl ?_
    obtain ⟨g5, hf⟩ := pv_gd hf
    obtain ⟨h6, eh6, hf⟩ := pv_bo hf
    refine FV.iast dX1_beginWave_47 sc_82 g5.1 g5.2 (j := (Int.toNat (pv_w (200 + x1)))) rfl eh6 ?_
    refine EV.aload_n dX1_beginWave_48 rfl rfl ?_
    refine FV.getF (v := 79) dX1_beginWave_49 sc_78 fl_1_12 rfl rfl hvc_78_0 ?_
    refine FV.getF (v := 82) dX1_beginWave_52 sc_79 fl_1_187 rfl rfl hvc_79_3 ?_
    refine EV.sipush dX1_beginWave_55 (by decide) (by decide) ?_
    refine EV.iload dX1_beginWave_58 rfl ?_
    refine EV.iadd dX1_beginWave_60 ?_
    refine EV.iload_n dX1_beginWave_61 rfl rfl ?_
    obtain ⟨g7, hf⟩ := pv_gd hf
    obtain ⟨h8, eh8, hf⟩ := pv_bo hf
    refine FV.iast dX1_beginWave_62 sc_82 g7.1 g7.2 (j := (Int.toNat (pv_w (400 + x1)))) rfl eh8 ?_
    refine EV.aload_n dX1_beginWave_63 rfl rfl ?_
    refine FV.getF (v := 79) dX1_beginWave_64 sc_78 fl_1_12 rfl rfl hvc_78_0 ?_
    refine FV.getF (v := 82) dX1_beginWave_67 sc_79 fl_1_187 rfl rfl hvc_79_3 ?_
    refine EV.sipush dX1_beginWave_70 (by decide) (by decide) ?_
    refine EV.iload dX1_beginWave_73 rfl ?_
    refine EV.iadd dX1_beginWave_75 ?_
    refine EV.iload dX1_beginWave_76 rfl ?_
    obtain ⟨g9, hf⟩ := pv_gd hf
    obtain ⟨h10, eh10, hf⟩ := pv_bo hf
    refine FV.iast dX1_beginWave_78 sc_82 g9.1 g9.2 (j := (Int.toNat (pv_w (600 + x1)))) rfl eh10 ?_
    refine EV.aload_n dX1_beginWave_79 rfl rfl ?_
    refine FV.getF (v := 79) dX1_beginWave_80 sc_78 fl_1_12 rfl rfl hvc_78_0 ?_
    refine FV.getF (v := 82) dX1_beginWave_83 sc_79 fl_1_187 rfl rfl hvc_79_3 ?_
    refine EV.sipush dX1_beginWave_86 (by decide) (by decide) ?_
    refine EV.iload dX1_beginWave_89 rfl ?_
    refine EV.iadd dX1_beginWave_91 ?_
    refine EV.iload dX1_beginWave_92 rfl ?_
    obtain ⟨g11, hf⟩ := pv_gd hf
    obtain ⟨h12, eh12, hf⟩ := pv_bo hf
    refine FV.iast dX1_beginWave_94 sc_82 g11.1 g11.2 (j := (Int.toNat (pv_w (800 + x1)))) rfl eh12 ?_
    refine EV.aload_n dX1_beginWave_95 rfl rfl ?_
    refine FV.getF (v := 79) dX1_beginWave_96 sc_78 fl_1_12 rfl rfl hvc_78_0 ?_
    refine FV.getF (v := 82) dX1_beginWave_99 sc_79 fl_1_187 rfl rfl hvc_79_3 ?_
    refine EV.sipush dX1_beginWave_102 (by decide) (by decide) ?_
    refine EV.iload dX1_beginWave_105 rfl ?_
    refine EV.iadd dX1_beginWave_107 ?_
    refine EV.iconst dX1_beginWave_108 (by decide) (by decide) ?_
    obtain ⟨g13, hf⟩ := pv_gd hf
    obtain ⟨h14, eh14, hf⟩ := pv_bo hf
    refine FV.iast dX1_beginWave_109 sc_82 g13.1 g13.2 (j := (Int.toNat (pv_w (1000 + x1)))) rfl eh14 ?_
    refine EV.aload_n dX1_beginWave_110 rfl rfl ?_
    refine FV.getF (v := 79) dX1_beginWave_111 sc_78 fl_1_12 rfl rfl hvc_78_0 ?_
    refine FV.getF (v := 80) dX1_beginWave_114 sc_79 fl_1_124 rfl rfl hvc_79_1 ?_
    refine EV.iconst dX1_beginWave_117 (by decide) (by decide) ?_
    refine EV.dup2 dX1_beginWave_118 rfl rfl ?_
    refine FV.iald dX1_beginWave_119 sc_80 (by decide) (by decide) (j := 2) rfl ?_
    refine EV.iconst dX1_beginWave_120 (by decide) (by decide) ?_
    refine EV.iadd dX1_beginWave_121 ?_
    obtain ⟨h15, eh15, hf⟩ := pv_bo hf
    refine FV.iast dX1_beginWave_122 sc_80 (by decide) (by decide) (j := 2) rfl eh15 ?_
    refine EV.aload_n dX1_beginWave_123 rfl rfl ?_
    refine FV.getF (v := 97) dX1_beginWave_124 sc_78 fl_1_48 rfl rfl hvc_78_16 ?_
    refine EV.iload dX1_beginWave_127 rfl ?_
    refine EV.iload_n dX1_beginWave_129 rfl rfl ?_
    obtain ⟨g16, hf⟩ := pv_gd hf
    obtain ⟨h17, eh17, hf⟩ := pv_bo hf
    refine FV.iast dX1_beginWave_130 sc_97 g16.1 g16.2 (j := (Int.toNat (x1))) rfl eh17 ?_
    refine EV.aload_n dX1_beginWave_131 rfl rfl ?_
    refine FV.getF (v := 98) dX1_beginWave_132 sc_78 fl_1_51 rfl rfl hvc_78_17 ?_
    refine EV.iload dX1_beginWave_135 rfl ?_
    refine EV.iload dX1_beginWave_137 rfl ?_
    obtain ⟨g18, hf⟩ := pv_gd hf
    obtain ⟨h19, eh19, hf⟩ := pv_bo hf
    refine FV.iast dX1_beginWave_139 sc_98 g18.1 g18.2 (j := (Int.toNat (x1))) rfl eh19 ?_
    refine EV.aload_n dX1_beginWave_140 rfl rfl ?_
    refine FV.getF (v := 96) dX1_beginWave_141 sc_78 fl_1_45 rfl rfl hvc_78_15 ?_
    refine EV.aload_n dX1_beginWave_144 rfl rfl ?_
    refine FV.getI dX1_beginWave_145 sc_78 fl_1_152 rfl ?_
    refine EV.iload dX1_beginWave_148 rfl ?_
    obtain ⟨g20, hf⟩ := pv_gd hf
    obtain ⟨h21, eh21, hf⟩ := pv_bo hf
    refine FV.iast dX1_beginWave_150 sc_96 g20.1 g20.2 (j := (Int.toNat (h19 78 10))) rfl eh21 ?_
    refine EV.aload_n dX1_beginWave_151 rfl rfl ?_
    refine EV.dup dX1_beginWave_152 rfl ?_
    refine FV.getI dX1_beginWave_153 sc_78 fl_1_152 rfl ?_
    refine EV.iconst dX1_beginWave_156 (by decide) (by decide) ?_
    refine EV.iadd dX1_beginWave_157 ?_
    obtain ⟨h22, eh22, hf⟩ := pv_bo hf
    refine FV.putI dX1_beginWave_158 sc_78 fl_1_152 rfl rfl eh22 ?_
    exact FV.vret dX1_beginWave_161 hf
  · have hf := pv_gn hf q2
    exact FV.vret dX1_beginWave_19 hf

noncomputable def fX1_breakCell (N : Nat) (a1 : Int) (a2 : Int) (a3 : Int) (a4 : Int) (h : pv_H) : Option (pv_H) :=
  pv_b (h 80 0) fun x1 => if x1 < 60 then (if 0 ≤ pv_w (0 + x1) ∧ pv_w (0 + x1) < 240 then (pv_b (pv_up h 81 (Int.toNat (pv_w (0 + x1))) a1) fun h4 => if 0 ≤ pv_w (60 + x1) ∧ pv_w (60 + x1) < 240 then (pv_b (pv_up h4 81 (Int.toNat (pv_w (60 + x1))) a2) fun h6 => if 0 ≤ pv_w (120 + x1) ∧ pv_w (120 + x1) < 240 then (pv_b (pv_up h6 81 (Int.toNat (pv_w (120 + x1))) a3) fun h8 => if 0 ≤ pv_w (180 + x1) ∧ pv_w (180 + x1) < 240 then (pv_b (pv_up h8 81 (Int.toNat (pv_w (180 + x1))) a4) fun h10 => pv_b (pv_up h10 80 0 (pv_w ((h10 80 0) + 1))) fun h11 => if 0 ≤ a1 ∧ a1 < 60 then (pv_b (pv_up h11 94 (Int.toNat (a1)) 1) fun h13 => if 0 ≤ h13 78 4 ∧ (h13 78 4).toNat ∈ pv_l2 then (pv_b ((h13 78 4).toNat) fun x15 => pv_b (min 1000000 (pv_w (Int.tdiv (pv_w (a4 * (h13 (x15 + 1) 0))) 100))) fun x16 => pv_c1 (fX1_beginWave N a1 0 a2 x16 0 h13) fun h18 => pv_c1 (fX1_beginWave N a1 1 a2 x16 0 h18) fun h20 => some h20) else none) else none) else none) else none) else none) else none) else (some h)

set_option maxHeartbeats 4000000 in
set_option maxRecDepth 20000 in
theorem tX1_breakCell {d N : Nat} {a1 : Int} {a2 : Int} {a3 : Int} {a4 : Int} {h h' : pv_H}  (hd : 2 ≤ d)  (hf : fX1_breakCell N a1 a2 a3 a4 h = some h') : CALL yX1_breakCell cX1_breakCell 7 none d pv_SC (MC h) [.inr (.inr (78)), .inl (a1), .inl (a2), .inl (a3), .inl (a4)] pv_SC (MC h') none := by
  unfold fX1_breakCell at hf
  refine EV.call (own := RX1) (ini := false) rfl rfl (fun q => by cases q) ⟨[], (List.append_nil _).symm⟩ (Nat.le_of_ble_eq_true rfl) ?_
  refine EV.eqL (L2 := [some (.inr (.inr (78))), some (.inl (a1)), some (.inl (a2)), some (.inl (a3)), some (.inl (a4)), none, none]) rfl ?_
  refine EV.aload_n dX1_breakCell_0 rfl rfl ?_
  refine FV.getF (v := 79) dX1_breakCell_1 sc_78 fl_1_12 rfl rfl hvc_78_0 ?_
  refine FV.getF (v := 80) dX1_breakCell_4 sc_79 fl_1_124 rfl rfl hvc_79_1 ?_
  refine EV.iconst dX1_breakCell_7 (by decide) (by decide) ?_
  refine FV.iald dX1_breakCell_8 sc_80 (by decide) (by decide) (j := 0) rfl ?_
  obtain ⟨x1, ex1, hf⟩ := pv_bo hf
  refine FV.stiw (L2 := [some (.inr (.inr (78))), some (.inl (a1)), some (.inl (a2)), some (.inl (a3)), some (.inl (a4)), some (.inl (x1)), none]) dX1_breakCell_9 (Nat.le_of_ble_eq_true rfl) ex1 rfl ?_
  refine EV.iload dX1_breakCell_11 rfl ?_
  refine EV.bipush dX1_breakCell_13 (by decide) (by decide) ?_
  refine EV.icmp_lt (tgt := 19) dX1_breakCell_15 (by decide) (fun q2 => ?_) (fun q2 => ?_)
  · have hf := pv_gp hf q2
    refine EV.aload_n dX1_breakCell_19 rfl rfl ?_
    refine FV.getF (v := 79) dX1_breakCell_20 sc_78 fl_1_12 rfl rfl hvc_78_0 ?_
    refine FV.getF (v := 81) dX1_breakCell_23 sc_79 fl_1_179 rfl rfl hvc_79_2 ?_
    refine EV.iconst dX1_breakCell_26 (by decide) (by decide) ?_
    refine EV.iload dX1_breakCell_27 rfl ?_
    refine EV.iadd dX1_breakCell_29 ?_
    refine EV.iload_n dX1_breakCell_30 rfl rfl ?_
    obtain ⟨g3, hf⟩ := pv_gd hf
    obtain ⟨h4, eh4, hf⟩ := pv_bo hf
    refine FV.iast dX1_breakCell_31 sc_81 g3.1 g3.2 (j := (Int.toNat (pv_w (0 + x1)))) rfl eh4 ?_
    refine EV.aload_n dX1_breakCell_32 rfl rfl ?_
    refine FV.getF (v := 79) dX1_breakCell_33 sc_78 fl_1_12 rfl rfl hvc_78_0 ?_
    refine FV.getF (v := 81) dX1_breakCell_36 sc_79 fl_1_179 rfl rfl hvc_79_2 ?_
    refine EV.bipush dX1_breakCell_39 (by decide) (by decide) ?_
    refine EV.iload dX1_breakCell_41 rfl ?_
    refine EV.iadd dX1_breakCell_43 ?_
    refine EV.iload_n dX1_breakCell_44 rfl rfl ?_
    obtain ⟨g5, hf⟩ := pv_gd hf
    obtain ⟨h6, eh6, hf⟩ := pv_bo hf
    refine FV.iast dX1_breakCell_45 sc_81 g5.1 g5.2 (j := (Int.toNat (pv_w (60 + x1)))) rfl eh6 ?_
    refine EV.aload_n dX1_breakCell_46 rfl rfl ?_
    refine FV.getF (v := 79) dX1_breakCell_47 sc_78 fl_1_12 rfl rfl hvc_78_0 ?_
    refine FV.getF (v := 81) dX1_breakCell_50 sc_79 fl_1_179 rfl rfl hvc_79_2 ?_
    refine EV.bipush dX1_breakCell_53 (by decide) (by decide) ?_
    refine EV.iload dX1_breakCell_55 rfl ?_
    refine EV.iadd dX1_breakCell_57 ?_
    refine EV.iload_n dX1_breakCell_58 rfl rfl ?_
    obtain ⟨g7, hf⟩ := pv_gd hf
    obtain ⟨h8, eh8, hf⟩ := pv_bo hf
    refine FV.iast dX1_breakCell_59 sc_81 g7.1 g7.2 (j := (Int.toNat (pv_w (120 + x1)))) rfl eh8 ?_
    refine EV.aload_n dX1_breakCell_60 rfl rfl ?_
    refine FV.getF (v := 79) dX1_breakCell_61 sc_78 fl_1_12 rfl rfl hvc_78_0 ?_
    refine FV.getF (v := 81) dX1_breakCell_64 sc_79 fl_1_179 rfl rfl hvc_79_2 ?_
    refine EV.sipush dX1_breakCell_67 (by decide) (by decide) ?_
    refine EV.iload dX1_breakCell_70 rfl ?_
    refine EV.iadd dX1_breakCell_72 ?_
    refine EV.iload dX1_breakCell_73 rfl ?_
    obtain ⟨g9, hf⟩ := pv_gd hf
    obtain ⟨h10, eh10, hf⟩ := pv_bo hf
    refine FV.iast dX1_breakCell_75 sc_81 g9.1 g9.2 (j := (Int.toNat (pv_w (180 + x1)))) rfl eh10 ?_
    refine EV.aload_n dX1_breakCell_76 rfl rfl ?_
    refine FV.getF (v := 79) dX1_breakCell_77 sc_78 fl_1_12 rfl rfl hvc_78_0 ?_
    refine FV.getF (v := 80) dX1_breakCell_80 sc_79 fl_1_124 rfl rfl hvc_79_1 ?_
    refine EV.iconst dX1_breakCell_83 (by decide) (by decide) ?_
    refine EV.dup2 dX1_breakCell_84 rfl rfl ?_
    refine FV.iald dX1_breakCell_85 sc_80 (by decide) (by decide) (j := 0) rfl ?_
    refine EV.iconst dX1_breakCell_86 (by decide) (by decide) ?_
    refine EV.iadd dX1_breakCell_87 ?_
    obtain ⟨h11, eh11, hf⟩ := pv_bo hf
    refine FV.iast dX1_breakCell_88 sc_80 (by decide) (by decide) (j := 0) rfl eh11 ?_
    refine EV.aload_n dX1_breakCell_89 rfl rfl ?_
    refine FV.getF (v := 94) dX1_breakCell_90 sc_78 fl_1_39 rfl rfl hvc_78_13 ?_
    refine EV.iload_n dX1_breakCell_93 rfl rfl ?_
    refine EV.iconst dX1_breakCell_94 (by decide) (by decide) ?_
    obtain ⟨g12, hf⟩ := pv_gd hf
    obtain ⟨h13, eh13, hf⟩ := pv_bo hf
    refine FV.iast dX1_breakCell_95 sc_94 g12.1 g12.2 (j := (Int.toNat (a1))) rfl eh13 ?_
    refine EV.ldc (n := 1000000) dX1_breakCell_96 kc_X1_182 (by decide) (by decide) ?_
    refine EV.iload dX1_breakCell_98 rfl ?_
    refine EV.aload_n dX1_breakCell_100 rfl rfl ?_
    obtain ⟨g14, hf⟩ := pv_gd hf
    obtain ⟨x15, ex15, hf⟩ := pv_bo hf
    have mx15 : x15 ∈ pv_l2 := ex15 ▸ g14.2
    refine FV.getM dX1_breakCell_101 sc_78 fl_1_28 rfl rfl g14.1 ex15 ?_
    refine FV.getF (v := x15 + 1) dX1_breakCell_104 (sl2_0 _ mx15) fl_1_66 rfl (mu2_0 _ mx15 _) (hl2_0_1 _ mx15) ?_
    refine EV.iconst dX1_breakCell_107 (by decide) (by decide) ?_
    refine FV.iald dX1_breakCell_108 (sl2_1 _ mx15) (by decide) (by decide) (j := 0) rfl ?_
    refine EV.imul dX1_breakCell_109 ?_
    refine EV.bipush dX1_breakCell_110 (by decide) (by decide) ?_
    refine EV.idiv dX1_breakCell_112 (by decide) ?_
    refine EV.mmin dX1_breakCell_113 ml_X1_87 w_mins w_mai w_minc (by omega) (Nat.le_of_ble_eq_true rfl) ?_
    obtain ⟨x16, ex16, hf⟩ := pv_bo hf
    refine FV.stiw (L2 := [some (.inr (.inr (78))), some (.inl (a1)), some (.inl (a2)), some (.inl (a3)), some (.inl (a4)), some (.inl (x1)), some (.inl (x16))]) dX1_breakCell_116 (Nat.le_of_ble_eq_true rfl) ex16 rfl ?_
    refine EV.aload_n dX1_breakCell_118 rfl rfl ?_
    refine EV.iload_n dX1_breakCell_119 rfl rfl ?_
    refine EV.iconst dX1_breakCell_120 (by decide) (by decide) ?_
    refine EV.iload_n dX1_breakCell_121 rfl rfl ?_
    refine EV.iload dX1_breakCell_122 rfl ?_
    refine EV.iconst dX1_breakCell_124 (by decide) (by decide) ?_
    obtain ⟨h18, hc17, hf⟩ := pv_c1o hf
    refine EV.invV (As := [.inl (a1), .inl (0), .inl (a2), .inl (x16), .inl (0)]) (st := []) (d1 := d - 1) (sh1 := pv_SC) (h1 := MC h18) (r1 := none) dX1_breakCell_125 sc_78 (by decide) md_X1_beginWave ml_X1_183 im_X1_beginWave se_X1_beginWave (tX1_beginWave (by omega)  hc17) (by omega) rfl rfl (Nat.le_of_ble_eq_true rfl) ⟨[], (List.append_nil _).symm⟩ ?_
    refine EV.aload_n dX1_breakCell_128 rfl rfl ?_
    refine EV.iload_n dX1_breakCell_129 rfl rfl ?_
    refine EV.iconst dX1_breakCell_130 (by decide) (by decide) ?_
    refine EV.iload_n dX1_breakCell_131 rfl rfl ?_
    refine EV.iload dX1_breakCell_132 rfl ?_
    refine EV.iconst dX1_breakCell_134 (by decide) (by decide) ?_
    obtain ⟨h20, hc19, hf⟩ := pv_c1o hf
    refine EV.invV (As := [.inl (a1), .inl (1), .inl (a2), .inl (x16), .inl (0)]) (st := []) (d1 := d - 1) (sh1 := pv_SC) (h1 := MC h20) (r1 := none) dX1_breakCell_135 sc_78 (by decide) md_X1_beginWave ml_X1_183 im_X1_beginWave se_X1_beginWave (tX1_beginWave (by omega)  hc19) (by omega) rfl rfl (Nat.le_of_ble_eq_true rfl) ⟨[], (List.append_nil _).symm⟩ ?_
    exact FV.vret dX1_breakCell_138 hf
  · have hf := pv_gn hf q2
    exact FV.vret dX1_breakCell_18 hf

noncomputable def fX1_noteGreatest_34 (N : Nat)  (a1 : Int) (a2 : Int)  (h : pv_H) : Option (pv_H) :=
  some h

noncomputable def fX1_noteGreatest_24 (N : Nat)  (a1 : Int) (a2 : Int)  (h : pv_H) : Option (pv_H) :=
  pv_b (pv_up h 78 1 a2) fun h4 => pv_b (pv_up h4 78 2 a1) fun h5 => fX1_noteGreatest_34 N  a1 a2  h5

noncomputable def fX1_noteGreatest (N : Nat) (a1 : Int) (a2 : Int) (h : pv_H) : Option (pv_H) :=
  if (h 78 1) < a2 then (fX1_noteGreatest_24 N  a1 a2  h) else (if a2 = (h 78 1) then (if (h 78 2) ≤ a1 then (fX1_noteGreatest_34 N  a1 a2  h) else (fX1_noteGreatest_24 N  a1 a2  h)) else (fX1_noteGreatest_34 N  a1 a2  h))

set_option maxHeartbeats 4000000 in
set_option maxRecDepth 20000 in
theorem tX1_noteGreatest_34 {d N : Nat}  {a1 : Int} {a2 : Int}  {h h' : pv_H}  (hd : 1 ≤ d)    (hf : fX1_noteGreatest_34 N  a1 a2  h = some h') : EV RX1 cX1_noteGreatest 3 none false d pv_SC (MC h') none 34 [none, none, none] [] pv_SC (MC h) := by
  unfold fX1_noteGreatest_34 at hf
  exact FV.vret dX1_noteGreatest_34 hf

set_option maxHeartbeats 4000000 in
set_option maxRecDepth 20000 in
theorem tX1_noteGreatest_24 {d N : Nat}  {a1 : Int} {a2 : Int}  {h h' : pv_H}  (hd : 1 ≤ d)    (hf : fX1_noteGreatest_24 N  a1 a2  h = some h') : EV RX1 cX1_noteGreatest 3 none false d pv_SC (MC h') none 24 [some (.inr (.inr (78))), some (.inl (a1)), some (.inl (a2))] [] pv_SC (MC h) := by
  unfold fX1_noteGreatest_24 at hf
  refine EV.aload_n dX1_noteGreatest_24 rfl rfl ?_
  refine EV.iload_n dX1_noteGreatest_25 rfl rfl ?_
  obtain ⟨h4, eh4, hf⟩ := pv_bo hf
  refine FV.putI dX1_noteGreatest_26 sc_78 fl_1_140 rfl rfl eh4 ?_
  refine EV.aload_n dX1_noteGreatest_29 rfl rfl ?_
  refine EV.iload_n dX1_noteGreatest_30 rfl rfl ?_
  obtain ⟨h5, eh5, hf⟩ := pv_bo hf
  refine FV.putI dX1_noteGreatest_31 sc_78 fl_1_143 rfl rfl eh5 ?_
  refine EV.weak (L2 := [none, none, none]) trivial ?_
  exact tX1_noteGreatest_34 hd    hf

set_option maxHeartbeats 4000000 in
set_option maxRecDepth 20000 in
theorem tX1_noteGreatest {d N : Nat} {a1 : Int} {a2 : Int} {h h' : pv_H}  (hd : 1 ≤ d)  (hf : fX1_noteGreatest N a1 a2 h = some h') : CALL yX1_noteGreatest cX1_noteGreatest 3 none d pv_SC (MC h) [.inr (.inr (78)), .inl (a1), .inl (a2)] pv_SC (MC h') none := by
  unfold fX1_noteGreatest at hf
  refine EV.call (own := RX1) (ini := false) rfl rfl (fun q => by cases q) ⟨[], (List.append_nil _).symm⟩ (Nat.le_of_ble_eq_true rfl) ?_
  refine EV.eqL (L2 := [some (.inr (.inr (78))), some (.inl (a1)), some (.inl (a2))]) rfl ?_
  refine EV.iload_n dX1_noteGreatest_0 rfl rfl ?_
  refine EV.aload_n dX1_noteGreatest_1 rfl rfl ?_
  refine FV.getI dX1_noteGreatest_2 sc_78 fl_1_140 rfl ?_
  refine EV.icmp_gt (tgt := 24) dX1_noteGreatest_5 (by decide) (fun q1 => ?_) (fun q1 => ?_)
  · have hf := pv_gp hf q1
    refine EV.weak (L2 := [some (.inr (.inr (78))), some (.inl (a1)), some (.inl (a2))]) (And.intro rfl (And.intro rfl (And.intro rfl trivial))) ?_
    exact tX1_noteGreatest_24 hd    hf
  · have hf := pv_gn hf q1
    refine EV.iload_n dX1_noteGreatest_8 rfl rfl ?_
    refine EV.aload_n dX1_noteGreatest_9 rfl rfl ?_
    refine FV.getI dX1_noteGreatest_10 sc_78 fl_1_140 rfl ?_
    refine EV.icmp_ne (tgt := 34) dX1_noteGreatest_13 (by decide) (fun q2 => ?_) (fun q2 => ?_)
    · have hf := pv_gn hf q2
      refine EV.weak (L2 := [none, none, none]) trivial ?_
      exact tX1_noteGreatest_34 hd    hf
    · have hf := pv_gp hf q2
      refine EV.iload_n dX1_noteGreatest_16 rfl rfl ?_
      refine EV.aload_n dX1_noteGreatest_17 rfl rfl ?_
      refine FV.getI dX1_noteGreatest_18 sc_78 fl_1_143 rfl ?_
      refine EV.icmp_ge (tgt := 34) dX1_noteGreatest_21 (by decide) (fun q3 => ?_) (fun q3 => ?_)
      · have hf := pv_gp hf q3
        refine EV.weak (L2 := [none, none, none]) trivial ?_
        exact tX1_noteGreatest_34 hd    hf
      · have hf := pv_gn hf q3
        refine EV.weak (L2 := [some (.inr (.inr (78))), some (.inl (a1)), some (.inl (a2))]) (And.intro rfl (And.intro rfl (And.intro rfl trivial))) ?_
        exact tX1_noteGreatest_24 hd    hf

noncomputable def fX1_goesOn_161 (N : Nat)  (a1 : Int) (a2 : Int)  (h : pv_H) : Option (pv_H × Int) :=
  some (h, 0)

noncomputable def fX1_goesOn_154 (N : Nat)  (a1 : Int) (a2 : Int) (v6 : Int) (s0 : Int) (s1 : Int) (h : pv_H) : Option (pv_H × Int) :=
  pv_c1 (fX1_beginWave N s1 s0 a2 v6 1 h) fun h54 => fX1_goesOn_161 N  a1 a2  h54

noncomputable def fX1_goesOn_135 (N : Nat)  (a1 : Int) (a2 : Int) (v3 : Int) (v5 : Int) (s0 : Int) (h : pv_H) : Option (pv_H × Int) :=
  if s0 ≤ 0 then (fX1_goesOn_161 N  a1 a2  h) else (if v3 = 0 then (fX1_goesOn_154 N  a1 a2 (s0) (0) (v5) h) else (fX1_goesOn_154 N  a1 a2 (s0) (1) (v5) h))

noncomputable def fX1_goesOn_107 (N : Nat)  (a1 : Int) (a2 : Int) (v3 : Int) (v4 : Int) (v5 : Int) (h : pv_H) : Option (pv_H × Int) :=
  if v4 = 0 then (if 0 ≤ a1 ∧ a1 < 200 then (if 0 ≤ h 78 4 ∧ (h 78 4).toNat ∈ pv_l2 then (pv_b ((h 78 4).toNat) fun x38 => fX1_goesOn_135 N  a1 a2 (v3) (v5) (pv_w (Int.tdiv (pv_w ((h 98 (Int.toNat (a1))) * (h (x38 + 1) 5))) 100)) h) else none) else none) else (fX1_goesOn_135 N  a1 a2 (v3) (v5) (0) h)

noncomputable def fX1_goesOn_347 (N : Nat)  (a1 : Int) (a2 : Int)  (h : pv_H) : Option (pv_H × Int) :=
  some (h, 1)

noncomputable def fX1_goesOn_334 (N : Nat)  (a1 : Int) (a2 : Int) (v4 : Int) (v5 : Int) (v6 : Int) (h : pv_H) : Option (pv_H × Int) :=
  if v4 = 0 then (pv_c1 (fX1_noteGreatest N v5 v6 h) fun h57 => fX1_goesOn_347 N  a1 a2  h57) else (fX1_goesOn_347 N  a1 a2  h)

noncomputable def fX1_goesOn_301 (N : Nat)  (a1 : Int) (a2 : Int) (v4 : Int) (v5 : Int) (v6 : Int) (h : pv_H) : Option (pv_H × Int) :=
  if 0 ≤ v5 ∧ v5 < 60 then (pv_b (pv_up h 95 (Int.toNat (v5)) 1) fun h47 => if 0 ≤ v5 ∧ v5 < 60 then (if v6 ≤ (h47 92 (Int.toNat (v5))) then (fX1_goesOn_334 N  a1 a2 (v4) (v5) (v6) h47) else (pv_b (pv_up h47 80 3 (pv_w ((h47 80 3) + 1))) fun h50 => fX1_goesOn_334 N  a1 a2 (v4) (v5) (v6) h50)) else none) else none

noncomputable def fX1_goesOn_289 (N : Nat)  (a1 : Int) (a2 : Int) (v6 : Int) (s0 : Int) (s1 : Int) (s2 : Int) (h : pv_H) : Option (pv_H × Int) :=
  pv_c1 (fX1_breakCell N s2 s1 s0 (pv_w (v6 - (h 78 8))) h) fun h52 => some (h52, 0)

noncomputable def fX1_goesOn_248 (N : Nat)  (a1 : Int) (a2 : Int) (v4 : Int) (v5 : Int) (s0 : Int) (s1 : Int) (h : pv_H) : Option (pv_H × Int) :=
  pv_b (pv_w (s1 + s0)) fun x39 => if (h 78 9) = 0 then (if 0 ≤ v5 ∧ v5 < 60 then (if (pv_w (x39 - (h 78 8))) ≤ (h 92 (Int.toNat (v5))) then (fX1_goesOn_301 N  a1 a2 (v4) (v5) (x39) h) else (if v4 = 0 then (fX1_goesOn_289 N  a1 a2 (x39) (1) (a2) (v5) h) else (fX1_goesOn_289 N  a1 a2 (x39) (2) (a2) (v5) h))) else none) else (fX1_goesOn_301 N  a1 a2 (v4) (v5) (x39) h)

noncomputable def fX1_goesOn_69 (N : Nat)  (a1 : Int) (a2 : Int) (v3 : Int) (v4 : Int) (s0 : Int) (h : pv_H) : Option (pv_H × Int) :=
  if 0 ≤ a1 ∧ a1 < 200 then (pv_b (pv_up h 97 (Int.toNat (a1)) s0) fun h9 => if s0 < 0 then (fX1_goesOn_107 N  a1 a2 (v3) (v4) (s0) h9) else (if 0 ≤ h9 78 3 ∧ (h9 78 3).toNat ∈ pv_l5 then (pv_b ((h9 78 3).toNat) fun x12 => if (h9 x12 0) ≤ s0 then (fX1_goesOn_107 N  a1 a2 (v3) (v4) (s0) h9) else (if 0 ≤ s0 ∧ s0 < 60 then (if (h9 94 (Int.toNat (s0))) = 1 then (fX1_goesOn_107 N  a1 a2 (v3) (v4) (s0) h9) else (if 0 ≤ h9 78 4 ∧ (h9 78 4).toNat ∈ pv_l2 then (pv_b ((h9 78 4).toNat) fun x17 => if 0 ≤ h9 78 3 ∧ (h9 78 3).toNat ∈ pv_l5 then (pv_b ((h9 78 3).toNat) fun x19 => if 0 ≤ s0 ∧ s0 < 60 then (if 0 ≤ a1 ∧ a1 < 200 then (pv_c1 (fX2_hitOn N x17 (h9 (x19 + 4) (Int.toNat (s0))) (h9 98 (Int.toNat (a1))) h9) fun r23 => if 0 ≤ a1 ∧ a1 < 200 then (pv_b (pv_up h9 98 (Int.toNat (a1)) r23) fun h25 => if 0 ≤ a1 ∧ a1 < 200 then (if (h25 98 (Int.toNat (a1))) = 0 then (some (h25, 0)) else (if 0 ≤ pv_w (1000 + a1) ∧ pv_w (1000 + a1) < 1200 then (if 0 ≤ pv_w (1000 + a1) ∧ pv_w (1000 + a1) < 1200 then (pv_b (pv_up h25 82 (Int.toNat (pv_w (1000 + a1))) (pv_w ((h25 82 (Int.toNat (pv_w (1000 + a1)))) + 1))) fun h30 => if 0 ≤ a1 ∧ a1 < 200 then (if 0 ≤ s0 ∧ s0 < 60 then (if (h30 95 (Int.toNat (s0))) = 1 then (fX1_goesOn_248 N  a1 a2 (v4) (s0) (0) (h30 98 (Int.toNat (a1))) h30) else (if 0 ≤ s0 ∧ s0 < 60 then (fX1_goesOn_248 N  a1 a2 (v4) (s0) (h30 93 (Int.toNat (s0))) (h30 98 (Int.toNat (a1))) h30) else none)) else none) else none) else none) else none)) else none) else none) else none) else none) else none) else none)) else none)) else none)) else none

noncomputable def fX1_goesOn_44 (N : Nat)  (a1 : Int) (a2 : Int) (v3 : Int) (s0 : Int) (h : pv_H) : Option (pv_H × Int) :=
  if v3 = 0 then (if 0 ≤ a1 ∧ a1 < 200 then (fX1_goesOn_69 N  a1 a2 (v3) (s0) (pv_w ((h 97 (Int.toNat (a1))) + 1)) h) else none) else (if 0 ≤ a1 ∧ a1 < 200 then (fX1_goesOn_69 N  a1 a2 (v3) (s0) (pv_w ((h 97 (Int.toNat (a1))) - 1)) h) else none)

noncomputable def fX1_goesOn_21 (N : Nat)  (a1 : Int) (a2 : Int) (s0 : Int) (h : pv_H) : Option (pv_H × Int) :=
  if 0 ≤ pv_w (800 + a1) ∧ pv_w (800 + a1) < 1200 then (if (h 82 (Int.toNat (pv_w (800 + a1)))) = 1 then (fX1_goesOn_44 N  a1 a2 (s0) (1) h) else (fX1_goesOn_44 N  a1 a2 (s0) (0) h)) else none

noncomputable def fX1_goesOn (N : Nat) (a1 : Int) (a2 : Int) (h : pv_H) : Option (pv_H × Int) :=
  if 0 ≤ pv_w (200 + a1) ∧ pv_w (200 + a1) < 1200 then (if (h 82 (Int.toNat (pv_w (200 + a1)))) = 0 then (fX1_goesOn_21 N  a1 a2 (1) h) else (fX1_goesOn_21 N  a1 a2 (0) h)) else none

set_option maxHeartbeats 4000000 in
set_option maxRecDepth 20000 in
theorem tX1_goesOn_161 {d N : Nat}  {a1 : Int} {a2 : Int}  {h h' : pv_H} {r : Int} (hd : 3 ≤ d)    (hf : fX1_goesOn_161 N  a1 a2  h = some (h', r)) : EV RX1 cX1_goesOn 7 (some .boolean) false d pv_SC (MC h') (some (.inl r)) 161 [none, none, none, none, none, none, none] [] pv_SC (MC h) := by
  unfold fX1_goesOn_161 at hf
  refine EV.iconst dX1_goesOn_161 (by decide) (by decide) ?_
  exact FV.zret dX1_goesOn_162 (by decide) hf

set_option maxHeartbeats 4000000 in
set_option maxRecDepth 20000 in
theorem tX1_goesOn_154 {d N : Nat}  {a1 : Int} {a2 : Int} {v6 : Int} {s0 : Int} {s1 : Int} {h h' : pv_H} {r : Int} (hd : 3 ≤ d)    (hf : fX1_goesOn_154 N  a1 a2 v6 s0 s1 h = some (h', r)) : EV RX1 cX1_goesOn 7 (some .boolean) false d pv_SC (MC h') (some (.inl r)) 154 [none, none, some (.inl (a2)), none, none, none, some (.inl (v6))] [.inl (s0), .inl (s1), .inr (.inr (78))] pv_SC (MC h) := by
  unfold fX1_goesOn_154 at hf
  refine EV.iload_n dX1_goesOn_154 rfl rfl ?_
  refine EV.iload dX1_goesOn_155 rfl ?_
  refine EV.iconst dX1_goesOn_157 (by decide) (by decide) ?_
  obtain ⟨h54, hc53, hf⟩ := pv_c1o hf
  refine EV.invV (As := [.inl (s1), .inl (s0), .inl (a2), .inl (v6), .inl (1)]) (st := []) (d1 := d - 1) (sh1 := pv_SC) (h1 := MC h54) (r1 := none) dX1_goesOn_158 sc_78 (by decide) md_X1_beginWave ml_X1_183 im_X1_beginWave se_X1_beginWave (tX1_beginWave (by omega)  hc53) (by omega) rfl rfl (Nat.le_of_ble_eq_true rfl) ⟨[], (List.append_nil _).symm⟩ ?_
  refine EV.weak (L2 := [none, none, none, none, none, none, none]) trivial ?_
  exact tX1_goesOn_161 hd    hf

set_option maxHeartbeats 4000000 in
set_option maxRecDepth 20000 in
theorem tX1_goesOn_135 {d N : Nat}  {a1 : Int} {a2 : Int} {v3 : Int} {v5 : Int} {s0 : Int} {h h' : pv_H} {r : Int} (hd : 3 ≤ d)    (hf : fX1_goesOn_135 N  a1 a2 v3 v5 s0 h = some (h', r)) : EV RX1 cX1_goesOn 7 (some .boolean) false d pv_SC (MC h') (some (.inl r)) 135 [some (.inr (.inr (78))), none, some (.inl (a2)), some (.inl (v3)), none, some (.inl (v5)), none] [.inl (s0)] pv_SC (MC h) := by
  unfold fX1_goesOn_135 at hf
  refine FV.stiw (L2 := [some (.inr (.inr (78))), none, some (.inl (a2)), some (.inl (v3)), none, some (.inl (v5)), some (.inl (s0))]) dX1_goesOn_135 (Nat.le_of_ble_eq_true rfl) rfl rfl ?_
  refine EV.iload dX1_goesOn_137 rfl ?_
  refine EV.if_le (tgt := 161) dX1_goesOn_139 (by decide) (fun q44 => ?_) (fun q44 => ?_)
  · have hf := pv_gp hf q44
    refine EV.weak (L2 := [none, none, none, none, none, none, none]) trivial ?_
    exact tX1_goesOn_161 hd    hf
  · have hf := pv_gn hf q44
    refine EV.aload_n dX1_goesOn_142 rfl rfl ?_
    refine EV.iload dX1_goesOn_143 rfl ?_
    refine EV.iload_n dX1_goesOn_145 rfl rfl ?_
    refine EV.if_eq (tgt := 153) dX1_goesOn_146 (by decide) (fun q45 => ?_) (fun q45 => ?_)
    · have hf := pv_gp hf q45
      refine EV.iconst dX1_goesOn_153 (by decide) (by decide) ?_
      refine EV.weak (L2 := [none, none, some (.inl (a2)), none, none, none, some (.inl (s0))]) (And.intro rfl (And.intro rfl trivial)) ?_
      exact tX1_goesOn_154 hd    hf
    · have hf := pv_gn hf q45
      refine EV.iconst dX1_goesOn_149 (by decide) (by decide) ?_
      refine EV.goto (tgt := 154) dX1_goesOn_150 (by decide) ?_
      refine EV.weak (L2 := [none, none, some (.inl (a2)), none, none, none, some (.inl (s0))]) (And.intro rfl (And.intro rfl trivial)) ?_
      exact tX1_goesOn_154 hd    hf

set_option maxHeartbeats 4000000 in
set_option maxRecDepth 20000 in
theorem tX1_goesOn_107 {d N : Nat}  {a1 : Int} {a2 : Int} {v3 : Int} {v4 : Int} {v5 : Int} {h h' : pv_H} {r : Int} (hd : 3 ≤ d)    (hf : fX1_goesOn_107 N  a1 a2 v3 v4 v5 h = some (h', r)) : EV RX1 cX1_goesOn 7 (some .boolean) false d pv_SC (MC h') (some (.inl r)) 107 [some (.inr (.inr (78))), some (.inl (a1)), some (.inl (a2)), some (.inl (v3)), some (.inl (v4)), some (.inl (v5)), none] [] pv_SC (MC h) := by
  unfold fX1_goesOn_107 at hf
  refine EV.iload dX1_goesOn_107 rfl ?_
  refine EV.if_eq (tgt := 116) dX1_goesOn_109 (by decide) (fun q35 => ?_) (fun q35 => ?_)
  · have hf := pv_gp hf q35
    refine EV.aload_n dX1_goesOn_116 rfl rfl ?_
    refine FV.getF (v := 98) dX1_goesOn_117 sc_78 fl_1_51 rfl rfl hvc_78_17 ?_
    refine EV.iload_n dX1_goesOn_120 rfl rfl ?_
    obtain ⟨g36, hf⟩ := pv_gd hf
    refine FV.iald dX1_goesOn_121 sc_98 g36.1 g36.2 (j := (Int.toNat (a1))) rfl ?_
    refine EV.aload_n dX1_goesOn_122 rfl rfl ?_
    obtain ⟨g37, hf⟩ := pv_gd hf
    obtain ⟨x38, ex38, hf⟩ := pv_bo hf
    have mx38 : x38 ∈ pv_l2 := ex38 ▸ g37.2
    refine FV.getM dX1_goesOn_123 sc_78 fl_1_28 rfl rfl g37.1 ex38 ?_
    refine FV.getF (v := x38 + 1) dX1_goesOn_126 (sl2_0 _ mx38) fl_1_66 rfl (mu2_0 _ mx38 _) (hl2_0_1 _ mx38) ?_
    refine EV.iconst dX1_goesOn_129 (by decide) (by decide) ?_
    refine FV.iald dX1_goesOn_130 (sl2_1 _ mx38) (by decide) (by decide) (j := 5) rfl ?_
    refine EV.imul dX1_goesOn_131 ?_
    refine EV.bipush dX1_goesOn_132 (by decide) (by decide) ?_
    refine EV.idiv dX1_goesOn_134 (by decide) ?_
    refine EV.weak (L2 := [some (.inr (.inr (78))), none, some (.inl (a2)), some (.inl (v3)), none, some (.inl (v5)), none]) (And.intro rfl (And.intro rfl (And.intro rfl (And.intro rfl trivial)))) ?_
    exact tX1_goesOn_135 hd    hf
  · have hf := pv_gn hf q35
    refine EV.iconst dX1_goesOn_112 (by decide) (by decide) ?_
    refine EV.goto (tgt := 135) dX1_goesOn_113 (by decide) ?_
    refine EV.weak (L2 := [some (.inr (.inr (78))), none, some (.inl (a2)), some (.inl (v3)), none, some (.inl (v5)), none]) (And.intro rfl (And.intro rfl (And.intro rfl (And.intro rfl trivial)))) ?_
    exact tX1_goesOn_135 hd    hf

set_option maxHeartbeats 4000000 in
set_option maxRecDepth 20000 in
theorem tX1_goesOn_347 {d N : Nat}  {a1 : Int} {a2 : Int}  {h h' : pv_H} {r : Int} (hd : 3 ≤ d)    (hf : fX1_goesOn_347 N  a1 a2  h = some (h', r)) : EV RX1 cX1_goesOn 7 (some .boolean) false d pv_SC (MC h') (some (.inl r)) 347 [none, none, none, none, none, none, none] [] pv_SC (MC h) := by
  unfold fX1_goesOn_347 at hf
  refine EV.iconst dX1_goesOn_347 (by decide) (by decide) ?_
  exact FV.zret dX1_goesOn_348 (by decide) hf

set_option maxHeartbeats 4000000 in
set_option maxRecDepth 20000 in
theorem tX1_goesOn_334 {d N : Nat}  {a1 : Int} {a2 : Int} {v4 : Int} {v5 : Int} {v6 : Int} {h h' : pv_H} {r : Int} (hd : 3 ≤ d)    (hf : fX1_goesOn_334 N  a1 a2 v4 v5 v6 h = some (h', r)) : EV RX1 cX1_goesOn 7 (some .boolean) false d pv_SC (MC h') (some (.inl r)) 334 [some (.inr (.inr (78))), none, none, none, some (.inl (v4)), some (.inl (v5)), some (.inl (v6))] [] pv_SC (MC h) := by
  unfold fX1_goesOn_334 at hf
  refine EV.iload dX1_goesOn_334 rfl ?_
  refine EV.if_ne (tgt := 347) dX1_goesOn_336 (by decide) (fun q55 => ?_) (fun q55 => ?_)
  · have hf := pv_gn hf q55
    refine EV.weak (L2 := [none, none, none, none, none, none, none]) trivial ?_
    exact tX1_goesOn_347 hd    hf
  · have hf := pv_gp hf q55
    refine EV.aload_n dX1_goesOn_339 rfl rfl ?_
    refine EV.iload dX1_goesOn_340 rfl ?_
    refine EV.iload dX1_goesOn_342 rfl ?_
    obtain ⟨h57, hc56, hf⟩ := pv_c1o hf
    refine EV.invV (As := [.inl (v5), .inl (v6)]) (st := []) (d1 := d - 1) (sh1 := pv_SC) (h1 := MC h57) (r1 := none) dX1_goesOn_344 sc_78 (by decide) md_X1_noteGreatest ml_X1_200 im_X1_noteGreatest se_X1_noteGreatest (tX1_noteGreatest (by omega)  hc56) (by omega) rfl rfl (Nat.le_of_ble_eq_true rfl) ⟨[], (List.append_nil _).symm⟩ ?_
    refine EV.weak (L2 := [none, none, none, none, none, none, none]) trivial ?_
    exact tX1_goesOn_347 hd    hf

set_option maxHeartbeats 4000000 in
set_option maxRecDepth 20000 in
theorem tX1_goesOn_301 {d N : Nat}  {a1 : Int} {a2 : Int} {v4 : Int} {v5 : Int} {v6 : Int} {h h' : pv_H} {r : Int} (hd : 3 ≤ d)    (hf : fX1_goesOn_301 N  a1 a2 v4 v5 v6 h = some (h', r)) : EV RX1 cX1_goesOn 7 (some .boolean) false d pv_SC (MC h') (some (.inl r)) 301 [some (.inr (.inr (78))), none, none, none, some (.inl (v4)), some (.inl (v5)), some (.inl (v6))] [] pv_SC (MC h) := by
  unfold fX1_goesOn_301 at hf
  refine EV.aload_n dX1_goesOn_301 rfl rfl ?_
  refine FV.getF (v := 95) dX1_goesOn_302 sc_78 fl_1_42 rfl rfl hvc_78_14 ?_
  refine EV.iload dX1_goesOn_305 rfl ?_
  refine EV.iconst dX1_goesOn_307 (by decide) (by decide) ?_
  obtain ⟨g46, hf⟩ := pv_gd hf
  obtain ⟨h47, eh47, hf⟩ := pv_bo hf
  refine FV.iast dX1_goesOn_308 sc_95 g46.1 g46.2 (j := (Int.toNat (v5))) rfl eh47 ?_
  refine EV.iload dX1_goesOn_309 rfl ?_
  refine EV.aload_n dX1_goesOn_311 rfl rfl ?_
  refine FV.getF (v := 92) dX1_goesOn_312 sc_78 fl_1_32 rfl rfl hvc_78_11 ?_
  refine EV.iload dX1_goesOn_315 rfl ?_
  obtain ⟨g48, hf⟩ := pv_gd hf
  refine FV.iald dX1_goesOn_317 sc_92 g48.1 g48.2 (j := (Int.toNat (v5))) rfl ?_
  refine EV.icmp_le (tgt := 334) dX1_goesOn_318 (by decide) (fun q49 => ?_) (fun q49 => ?_)
  · have hf := pv_gp hf q49
    refine EV.weak (L2 := [some (.inr (.inr (78))), none, none, none, some (.inl (v4)), some (.inl (v5)), some (.inl (v6))]) (And.intro rfl (And.intro rfl (And.intro rfl (And.intro rfl trivial)))) ?_
    exact tX1_goesOn_334 hd    hf
  · have hf := pv_gn hf q49
    refine EV.aload_n dX1_goesOn_321 rfl rfl ?_
    refine FV.getF (v := 79) dX1_goesOn_322 sc_78 fl_1_12 rfl rfl hvc_78_0 ?_
    refine FV.getF (v := 80) dX1_goesOn_325 sc_79 fl_1_124 rfl rfl hvc_79_1 ?_
    refine EV.iconst dX1_goesOn_328 (by decide) (by decide) ?_
    refine EV.dup2 dX1_goesOn_329 rfl rfl ?_
    refine FV.iald dX1_goesOn_330 sc_80 (by decide) (by decide) (j := 3) rfl ?_
    refine EV.iconst dX1_goesOn_331 (by decide) (by decide) ?_
    refine EV.iadd dX1_goesOn_332 ?_
    obtain ⟨h50, eh50, hf⟩ := pv_bo hf
    refine FV.iast dX1_goesOn_333 sc_80 (by decide) (by decide) (j := 3) rfl eh50 ?_
    refine EV.weak (L2 := [some (.inr (.inr (78))), none, none, none, some (.inl (v4)), some (.inl (v5)), some (.inl (v6))]) (And.intro rfl (And.intro rfl (And.intro rfl (And.intro rfl trivial)))) ?_
    exact tX1_goesOn_334 hd    hf

set_option maxHeartbeats 4000000 in
set_option maxRecDepth 20000 in
theorem tX1_goesOn_289 {d N : Nat}  {a1 : Int} {a2 : Int} {v6 : Int} {s0 : Int} {s1 : Int} {s2 : Int} {h h' : pv_H} {r : Int} (hd : 3 ≤ d)    (hf : fX1_goesOn_289 N  a1 a2 v6 s0 s1 s2 h = some (h', r)) : EV RX1 cX1_goesOn 7 (some .boolean) false d pv_SC (MC h') (some (.inl r)) 289 [some (.inr (.inr (78))), none, none, none, none, none, some (.inl (v6))] [.inl (s0), .inl (s1), .inl (s2), .inr (.inr (78))] pv_SC (MC h) := by
  unfold fX1_goesOn_289 at hf
  refine EV.iload dX1_goesOn_289 rfl ?_
  refine EV.aload_n dX1_goesOn_291 rfl rfl ?_
  refine FV.getI dX1_goesOn_292 sc_78 fl_1_149 rfl ?_
  refine EV.isub dX1_goesOn_295 ?_
  obtain ⟨h52, hc51, hf⟩ := pv_c1o hf
  refine EV.invV (As := [.inl (s2), .inl (s1), .inl (s0), .inl (pv_w (v6 - (h 78 8)))]) (st := []) (d1 := d - 1) (sh1 := pv_SC) (h1 := MC h52) (r1 := none) dX1_goesOn_296 sc_78 (by decide) md_X1_breakCell ml_X1_164 im_X1_breakCell se_X1_breakCell (tX1_breakCell (by omega)  hc51) (by omega) rfl rfl (Nat.le_of_ble_eq_true rfl) ⟨[], (List.append_nil _).symm⟩ ?_
  refine EV.iconst dX1_goesOn_299 (by decide) (by decide) ?_
  exact FV.zret dX1_goesOn_300 (by decide) hf

set_option maxHeartbeats 4000000 in
set_option maxRecDepth 20000 in
theorem tX1_goesOn_248 {d N : Nat}  {a1 : Int} {a2 : Int} {v4 : Int} {v5 : Int} {s0 : Int} {s1 : Int} {h h' : pv_H} {r : Int} (hd : 3 ≤ d)    (hf : fX1_goesOn_248 N  a1 a2 v4 v5 s0 s1 h = some (h', r)) : EV RX1 cX1_goesOn 7 (some .boolean) false d pv_SC (MC h') (some (.inl r)) 248 [some (.inr (.inr (78))), none, some (.inl (a2)), none, some (.inl (v4)), some (.inl (v5)), none] [.inl (s0), .inl (s1)] pv_SC (MC h) := by
  unfold fX1_goesOn_248 at hf
  refine EV.iadd dX1_goesOn_248 ?_
  obtain ⟨x39, ex39, hf⟩ := pv_bo hf
  refine FV.stiw (L2 := [some (.inr (.inr (78))), none, some (.inl (a2)), none, some (.inl (v4)), some (.inl (v5)), some (.inl (x39))]) dX1_goesOn_249 (Nat.le_of_ble_eq_true rfl) ex39 rfl ?_
  refine EV.aload_n dX1_goesOn_251 rfl rfl ?_
  refine FV.getI dX1_goesOn_252 sc_78 fl_1_136 rfl ?_
  refine EV.if_ne (tgt := 301) dX1_goesOn_255 (by decide) (fun q40 => ?_) (fun q40 => ?_)
  · have hf := pv_gn hf q40
    refine EV.weak (L2 := [some (.inr (.inr (78))), none, none, none, some (.inl (v4)), some (.inl (v5)), some (.inl (x39))]) (And.intro rfl (And.intro rfl (And.intro rfl (And.intro rfl trivial)))) ?_
    exact tX1_goesOn_301 hd    hf
  · have hf := pv_gp hf q40
    refine EV.iload dX1_goesOn_258 rfl ?_
    refine EV.aload_n dX1_goesOn_260 rfl rfl ?_
    refine FV.getI dX1_goesOn_261 sc_78 fl_1_149 rfl ?_
    refine EV.isub dX1_goesOn_264 ?_
    refine EV.aload_n dX1_goesOn_265 rfl rfl ?_
    refine FV.getF (v := 92) dX1_goesOn_266 sc_78 fl_1_32 rfl rfl hvc_78_11 ?_
    refine EV.iload dX1_goesOn_269 rfl ?_
    obtain ⟨g41, hf⟩ := pv_gd hf
    refine FV.iald dX1_goesOn_271 sc_92 g41.1 g41.2 (j := (Int.toNat (v5))) rfl ?_
    refine EV.icmp_le (tgt := 301) dX1_goesOn_272 (by decide) (fun q42 => ?_) (fun q42 => ?_)
    · have hf := pv_gp hf q42
      refine EV.weak (L2 := [some (.inr (.inr (78))), none, none, none, some (.inl (v4)), some (.inl (v5)), some (.inl (x39))]) (And.intro rfl (And.intro rfl (And.intro rfl (And.intro rfl trivial)))) ?_
      exact tX1_goesOn_301 hd    hf
    · have hf := pv_gn hf q42
      refine EV.aload_n dX1_goesOn_275 rfl rfl ?_
      refine EV.iload dX1_goesOn_276 rfl ?_
      refine EV.iload_n dX1_goesOn_278 rfl rfl ?_
      refine EV.iload dX1_goesOn_279 rfl ?_
      refine EV.if_eq (tgt := 288) dX1_goesOn_281 (by decide) (fun q43 => ?_) (fun q43 => ?_)
      · have hf := pv_gp hf q43
        refine EV.iconst dX1_goesOn_288 (by decide) (by decide) ?_
        refine EV.weak (L2 := [some (.inr (.inr (78))), none, none, none, none, none, some (.inl (x39))]) (And.intro rfl (And.intro rfl trivial)) ?_
        exact tX1_goesOn_289 hd    hf
      · have hf := pv_gn hf q43
        refine EV.iconst dX1_goesOn_284 (by decide) (by decide) ?_
        refine EV.goto (tgt := 289) dX1_goesOn_285 (by decide) ?_
        refine EV.weak (L2 := [some (.inr (.inr (78))), none, none, none, none, none, some (.inl (x39))]) (And.intro rfl (And.intro rfl trivial)) ?_
        exact tX1_goesOn_289 hd    hf

set_option maxHeartbeats 4000000 in
set_option maxRecDepth 20000 in
theorem tX1_goesOn_69 {d N : Nat}  {a1 : Int} {a2 : Int} {v3 : Int} {v4 : Int} {s0 : Int} {h h' : pv_H} {r : Int} (hd : 3 ≤ d)    (hf : fX1_goesOn_69 N  a1 a2 v3 v4 s0 h = some (h', r)) : EV RX1 cX1_goesOn 7 (some .boolean) false d pv_SC (MC h') (some (.inl r)) 69 [some (.inr (.inr (78))), some (.inl (a1)), some (.inl (a2)), some (.inl (v3)), some (.inl (v4)), none, none] [.inl (s0)] pv_SC (MC h) := by
  unfold fX1_goesOn_69 at hf
  refine FV.stiw (L2 := [some (.inr (.inr (78))), some (.inl (a1)), some (.inl (a2)), some (.inl (v3)), some (.inl (v4)), some (.inl (s0)), none]) dX1_goesOn_69 (Nat.le_of_ble_eq_true rfl) rfl rfl ?_
  refine EV.aload_n dX1_goesOn_71 rfl rfl ?_
  refine FV.getF (v := 97) dX1_goesOn_72 sc_78 fl_1_48 rfl rfl hvc_78_16 ?_
  refine EV.iload_n dX1_goesOn_75 rfl rfl ?_
  refine EV.iload dX1_goesOn_76 rfl ?_
  obtain ⟨g8, hf⟩ := pv_gd hf
  obtain ⟨h9, eh9, hf⟩ := pv_bo hf
  refine FV.iast dX1_goesOn_78 sc_97 g8.1 g8.2 (j := (Int.toNat (a1))) rfl eh9 ?_
  refine EV.iload dX1_goesOn_79 rfl ?_
  refine EV.if_lt (tgt := 107) dX1_goesOn_81 (by decide) (fun q10 => ?_) (fun q10 => ?_)
  · have hf := pv_gp hf q10
    refine EV.weak (L2 := [some (.inr (.inr (78))), some (.inl (a1)), some (.inl (a2)), some (.inl (v3)), some (.inl (v4)), some (.inl (s0)), none]) (And.intro rfl (And.intro rfl (And.intro rfl (And.intro rfl (And.intro rfl (And.intro rfl trivial)))))) ?_
    exact tX1_goesOn_107 hd    hf
  · have hf := pv_gn hf q10
    refine EV.iload dX1_goesOn_84 rfl ?_
    refine EV.aload_n dX1_goesOn_86 rfl rfl ?_
    obtain ⟨g11, hf⟩ := pv_gd hf
    obtain ⟨x12, ex12, hf⟩ := pv_bo hf
    have mx12 : x12 ∈ pv_l5 := ex12 ▸ g11.2
    refine FV.getM dX1_goesOn_87 sc_78 fl_1_21 rfl rfl g11.1 ex12 ?_
    refine FV.getI dX1_goesOn_90 (sl5_0 _ mx12) fl_1_84 rfl ?_
    refine EV.icmp_ge (tgt := 107) dX1_goesOn_93 (by decide) (fun q13 => ?_) (fun q13 => ?_)
    · have hf := pv_gp hf q13
      refine EV.weak (L2 := [some (.inr (.inr (78))), some (.inl (a1)), some (.inl (a2)), some (.inl (v3)), some (.inl (v4)), some (.inl (s0)), none]) (And.intro rfl (And.intro rfl (And.intro rfl (And.intro rfl (And.intro rfl (And.intro rfl trivial)))))) ?_
      exact tX1_goesOn_107 hd    hf
    · have hf := pv_gn hf q13
      refine EV.aload_n dX1_goesOn_96 rfl rfl ?_
      refine FV.getF (v := 94) dX1_goesOn_97 sc_78 fl_1_39 rfl rfl hvc_78_13 ?_
      refine EV.iload dX1_goesOn_100 rfl ?_
      obtain ⟨g14, hf⟩ := pv_gd hf
      refine FV.iald dX1_goesOn_102 sc_94 g14.1 g14.2 (j := (Int.toNat (s0))) rfl ?_
      refine EV.iconst dX1_goesOn_103 (by decide) (by decide) ?_
      refine EV.icmp_ne (tgt := 163) dX1_goesOn_104 (by decide) (fun q15 => ?_) (fun q15 => ?_)
      · have hf := pv_gn hf q15
        refine EV.aload_n dX1_goesOn_163 rfl rfl ?_
        refine FV.getF (v := 98) dX1_goesOn_164 sc_78 fl_1_51 rfl rfl hvc_78_17 ?_
        refine EV.iload_n dX1_goesOn_167 rfl rfl ?_
        refine EV.aload_n dX1_goesOn_168 rfl rfl ?_
        obtain ⟨g16, hf⟩ := pv_gd hf
        obtain ⟨x17, ex17, hf⟩ := pv_bo hf
        have mx17 : x17 ∈ pv_l2 := ex17 ▸ g16.2
        refine FV.getM dX1_goesOn_169 sc_78 fl_1_28 rfl rfl g16.1 ex17 ?_
        refine EV.aload_n dX1_goesOn_172 rfl rfl ?_
        obtain ⟨g18, hf⟩ := pv_gd hf
        obtain ⟨x19, ex19, hf⟩ := pv_bo hf
        have mx19 : x19 ∈ pv_l5 := ex19 ▸ g18.2
        refine FV.getM dX1_goesOn_173 sc_78 fl_1_21 rfl rfl g18.1 ex19 ?_
        refine FV.getF (v := x19 + 4) dX1_goesOn_176 (sl5_0 _ mx19) fl_1_194 rfl (mu5_0 _ mx19 _) (hl5_0_5 _ mx19) ?_
        refine EV.iload dX1_goesOn_179 rfl ?_
        obtain ⟨g20, hf⟩ := pv_gd hf
        refine FV.iald dX1_goesOn_181 (sl5_4 _ mx19) g20.1 g20.2 (j := (Int.toNat (s0))) rfl ?_
        refine EV.aload_n dX1_goesOn_182 rfl rfl ?_
        refine FV.getF (v := 98) dX1_goesOn_183 sc_78 fl_1_51 rfl rfl hvc_78_17 ?_
        refine EV.iload_n dX1_goesOn_186 rfl rfl ?_
        obtain ⟨g21, hf⟩ := pv_gd hf
        refine FV.iald dX1_goesOn_187 sc_98 g21.1 g21.2 (j := (Int.toNat (a1))) rfl ?_
        obtain ⟨r23, hc22, hf⟩ := pv_c1o hf
        refine EV.invV (As := [.inl (h9 (x19 + 4) (Int.toNat (s0))), .inl (h9 98 (Int.toNat (a1)))]) (st := [.inl (a1), .inr (.inr (98))]) (d1 := d - 1) (sh1 := pv_SC) (h1 := MC h9) (r1 := (some (.inl r23))) dX1_goesOn_188 (sl2_0 _ mx17) (by decide) md_X2_hitOn ml_X1_197 im_X2_hitOn se_X2_hitOn (tX2_hitOn (by omega) (mx17) hc22) (by omega) rfl rfl (Nat.le_of_ble_eq_true rfl) ⟨[], (List.append_nil _).symm⟩ ?_
        refine EV.eqS (st2 := [.inl (r23), .inl (a1), .inr (.inr (98))]) rfl ?_
        obtain ⟨g24, hf⟩ := pv_gd hf
        obtain ⟨h25, eh25, hf⟩ := pv_bo hf
        refine FV.iast dX1_goesOn_191 sc_98 g24.1 g24.2 (j := (Int.toNat (a1))) rfl eh25 ?_
        refine EV.aload_n dX1_goesOn_192 rfl rfl ?_
        refine FV.getF (v := 98) dX1_goesOn_193 sc_78 fl_1_51 rfl rfl hvc_78_17 ?_
        refine EV.iload_n dX1_goesOn_196 rfl rfl ?_
        obtain ⟨g26, hf⟩ := pv_gd hf
        refine FV.iald dX1_goesOn_197 sc_98 g26.1 g26.2 (j := (Int.toNat (a1))) rfl ?_
        refine EV.if_ne (tgt := 203) dX1_goesOn_198 (by decide) (fun q27 => ?_) (fun q27 => ?_)
        · have hf := pv_gn hf q27
          refine EV.aload_n dX1_goesOn_203 rfl rfl ?_
          refine FV.getF (v := 79) dX1_goesOn_204 sc_78 fl_1_12 rfl rfl hvc_78_0 ?_
          refine FV.getF (v := 82) dX1_goesOn_207 sc_79 fl_1_187 rfl rfl hvc_79_3 ?_
          refine EV.sipush dX1_goesOn_210 (by decide) (by decide) ?_
          refine EV.iload_n dX1_goesOn_213 rfl rfl ?_
          refine EV.iadd dX1_goesOn_214 ?_
          refine EV.dup2 dX1_goesOn_215 rfl rfl ?_
          obtain ⟨g28, hf⟩ := pv_gd hf
          refine FV.iald dX1_goesOn_216 sc_82 g28.1 g28.2 (j := (Int.toNat (pv_w (1000 + a1)))) rfl ?_
          refine EV.iconst dX1_goesOn_217 (by decide) (by decide) ?_
          refine EV.iadd dX1_goesOn_218 ?_
          obtain ⟨g29, hf⟩ := pv_gd hf
          obtain ⟨h30, eh30, hf⟩ := pv_bo hf
          refine FV.iast dX1_goesOn_219 sc_82 g29.1 g29.2 (j := (Int.toNat (pv_w (1000 + a1)))) rfl eh30 ?_
          refine EV.aload_n dX1_goesOn_220 rfl rfl ?_
          refine FV.getF (v := 98) dX1_goesOn_221 sc_78 fl_1_51 rfl rfl hvc_78_17 ?_
          refine EV.iload_n dX1_goesOn_224 rfl rfl ?_
          obtain ⟨g31, hf⟩ := pv_gd hf
          refine FV.iald dX1_goesOn_225 sc_98 g31.1 g31.2 (j := (Int.toNat (a1))) rfl ?_
          refine EV.aload_n dX1_goesOn_226 rfl rfl ?_
          refine FV.getF (v := 95) dX1_goesOn_227 sc_78 fl_1_42 rfl rfl hvc_78_14 ?_
          refine EV.iload dX1_goesOn_230 rfl ?_
          obtain ⟨g32, hf⟩ := pv_gd hf
          refine FV.iald dX1_goesOn_232 sc_95 g32.1 g32.2 (j := (Int.toNat (s0))) rfl ?_
          refine EV.iconst dX1_goesOn_233 (by decide) (by decide) ?_
          refine EV.icmp_ne (tgt := 241) dX1_goesOn_234 (by decide) (fun q33 => ?_) (fun q33 => ?_)
          · have hf := pv_gn hf q33
            refine EV.aload_n dX1_goesOn_241 rfl rfl ?_
            refine FV.getF (v := 93) dX1_goesOn_242 sc_78 fl_1_36 rfl rfl hvc_78_12 ?_
            refine EV.iload dX1_goesOn_245 rfl ?_
            obtain ⟨g34, hf⟩ := pv_gd hf
            refine FV.iald dX1_goesOn_247 sc_93 g34.1 g34.2 (j := (Int.toNat (s0))) rfl ?_
            refine EV.weak (L2 := [some (.inr (.inr (78))), none, some (.inl (a2)), none, some (.inl (v4)), some (.inl (s0)), none]) (And.intro rfl (And.intro rfl (And.intro rfl (And.intro rfl trivial)))) ?_
            exact tX1_goesOn_248 hd    hf
          · have hf := pv_gp hf q33
            refine EV.iconst dX1_goesOn_237 (by decide) (by decide) ?_
            refine EV.goto (tgt := 248) dX1_goesOn_238 (by decide) ?_
            refine EV.weak (L2 := [some (.inr (.inr (78))), none, some (.inl (a2)), none, some (.inl (v4)), some (.inl (s0)), none]) (And.intro rfl (And.intro rfl (And.intro rfl (And.intro rfl trivial)))) ?_
            exact tX1_goesOn_248 hd    hf
        · have hf := pv_gp hf q27
          refine EV.iconst dX1_goesOn_201 (by decide) (by decide) ?_
          exact FV.zret dX1_goesOn_202 (by decide) hf
      · have hf := pv_gp hf q15
        refine EV.weak (L2 := [some (.inr (.inr (78))), some (.inl (a1)), some (.inl (a2)), some (.inl (v3)), some (.inl (v4)), some (.inl (s0)), none]) (And.intro rfl (And.intro rfl (And.intro rfl (And.intro rfl (And.intro rfl (And.intro rfl trivial)))))) ?_
        exact tX1_goesOn_107 hd    hf

set_option maxHeartbeats 4000000 in
set_option maxRecDepth 20000 in
theorem tX1_goesOn_44 {d N : Nat}  {a1 : Int} {a2 : Int} {v3 : Int} {s0 : Int} {h h' : pv_H} {r : Int} (hd : 3 ≤ d)    (hf : fX1_goesOn_44 N  a1 a2 v3 s0 h = some (h', r)) : EV RX1 cX1_goesOn 7 (some .boolean) false d pv_SC (MC h') (some (.inl r)) 44 [some (.inr (.inr (78))), some (.inl (a1)), some (.inl (a2)), some (.inl (v3)), none, none, none] [.inl (s0)] pv_SC (MC h) := by
  unfold fX1_goesOn_44 at hf
  refine FV.stiw (L2 := [some (.inr (.inr (78))), some (.inl (a1)), some (.inl (a2)), some (.inl (v3)), some (.inl (s0)), none, none]) dX1_goesOn_44 (Nat.le_of_ble_eq_true rfl) rfl rfl ?_
  refine EV.iload_n dX1_goesOn_46 rfl rfl ?_
  refine EV.if_eq (tgt := 61) dX1_goesOn_47 (by decide) (fun q5 => ?_) (fun q5 => ?_)
  · have hf := pv_gp hf q5
    refine EV.aload_n dX1_goesOn_61 rfl rfl ?_
    refine FV.getF (v := 97) dX1_goesOn_62 sc_78 fl_1_48 rfl rfl hvc_78_16 ?_
    refine EV.iload_n dX1_goesOn_65 rfl rfl ?_
    obtain ⟨g6, hf⟩ := pv_gd hf
    refine FV.iald dX1_goesOn_66 sc_97 g6.1 g6.2 (j := (Int.toNat (a1))) rfl ?_
    refine EV.iconst dX1_goesOn_67 (by decide) (by decide) ?_
    refine EV.iadd dX1_goesOn_68 ?_
    refine EV.weak (L2 := [some (.inr (.inr (78))), some (.inl (a1)), some (.inl (a2)), some (.inl (v3)), some (.inl (s0)), none, none]) (And.intro rfl (And.intro rfl (And.intro rfl (And.intro rfl (And.intro rfl trivial))))) ?_
    exact tX1_goesOn_69 hd    hf
  · have hf := pv_gn hf q5
    refine EV.aload_n dX1_goesOn_50 rfl rfl ?_
    refine FV.getF (v := 97) dX1_goesOn_51 sc_78 fl_1_48 rfl rfl hvc_78_16 ?_
    refine EV.iload_n dX1_goesOn_54 rfl rfl ?_
    obtain ⟨g7, hf⟩ := pv_gd hf
    refine FV.iald dX1_goesOn_55 sc_97 g7.1 g7.2 (j := (Int.toNat (a1))) rfl ?_
    refine EV.iconst dX1_goesOn_56 (by decide) (by decide) ?_
    refine EV.isub dX1_goesOn_57 ?_
    refine EV.goto (tgt := 69) dX1_goesOn_58 (by decide) ?_
    refine EV.weak (L2 := [some (.inr (.inr (78))), some (.inl (a1)), some (.inl (a2)), some (.inl (v3)), some (.inl (s0)), none, none]) (And.intro rfl (And.intro rfl (And.intro rfl (And.intro rfl (And.intro rfl trivial))))) ?_
    exact tX1_goesOn_69 hd    hf

set_option maxHeartbeats 4000000 in
set_option maxRecDepth 20000 in
theorem tX1_goesOn_21 {d N : Nat}  {a1 : Int} {a2 : Int} {s0 : Int} {h h' : pv_H} {r : Int} (hd : 3 ≤ d)    (hf : fX1_goesOn_21 N  a1 a2 s0 h = some (h', r)) : EV RX1 cX1_goesOn 7 (some .boolean) false d pv_SC (MC h') (some (.inl r)) 21 [some (.inr (.inr (78))), some (.inl (a1)), some (.inl (a2)), none, none, none, none] [.inl (s0)] pv_SC (MC h) := by
  unfold fX1_goesOn_21 at hf
  refine FV.sti (L2 := [some (.inr (.inr (78))), some (.inl (a1)), some (.inl (a2)), some (.inl (s0)), none, none, none]) dX1_goesOn_21 rfl (Nat.le_of_ble_eq_true rfl) rfl rfl ?_
  refine EV.aload_n dX1_goesOn_22 rfl rfl ?_
  refine FV.getF (v := 79) dX1_goesOn_23 sc_78 fl_1_12 rfl rfl hvc_78_0 ?_
  refine FV.getF (v := 82) dX1_goesOn_26 sc_79 fl_1_187 rfl rfl hvc_79_3 ?_
  refine EV.sipush dX1_goesOn_29 (by decide) (by decide) ?_
  refine EV.iload_n dX1_goesOn_32 rfl rfl ?_
  refine EV.iadd dX1_goesOn_33 ?_
  obtain ⟨g3, hf⟩ := pv_gd hf
  refine FV.iald dX1_goesOn_34 sc_82 g3.1 g3.2 (j := (Int.toNat (pv_w (800 + a1)))) rfl ?_
  refine EV.iconst dX1_goesOn_35 (by decide) (by decide) ?_
  refine EV.icmp_ne (tgt := 43) dX1_goesOn_36 (by decide) (fun q4 => ?_) (fun q4 => ?_)
  · have hf := pv_gn hf q4
    refine EV.iconst dX1_goesOn_43 (by decide) (by decide) ?_
    refine EV.weak (L2 := [some (.inr (.inr (78))), some (.inl (a1)), some (.inl (a2)), some (.inl (s0)), none, none, none]) (And.intro rfl (And.intro rfl (And.intro rfl (And.intro rfl trivial)))) ?_
    exact tX1_goesOn_44 hd    hf
  · have hf := pv_gp hf q4
    refine EV.iconst dX1_goesOn_39 (by decide) (by decide) ?_
    refine EV.goto (tgt := 44) dX1_goesOn_40 (by decide) ?_
    refine EV.weak (L2 := [some (.inr (.inr (78))), some (.inl (a1)), some (.inl (a2)), some (.inl (s0)), none, none, none]) (And.intro rfl (And.intro rfl (And.intro rfl (And.intro rfl trivial)))) ?_
    exact tX1_goesOn_44 hd    hf

set_option maxHeartbeats 4000000 in
set_option maxRecDepth 20000 in
theorem tX1_goesOn {d N : Nat} {a1 : Int} {a2 : Int} {h h' : pv_H} {r : Int} (hd : 3 ≤ d)  (hf : fX1_goesOn N a1 a2 h = some (h', r)) : CALL yX1_goesOn cX1_goesOn 7 (some .boolean) d pv_SC (MC h) [.inr (.inr (78)), .inl (a1), .inl (a2)] pv_SC (MC h') (some (.inl r)) := by
  unfold fX1_goesOn at hf
  refine EV.call (own := RX1) (ini := false) rfl rfl (fun q => by cases q) ⟨[], (List.append_nil _).symm⟩ (Nat.le_of_ble_eq_true rfl) ?_
  refine EV.eqL (L2 := [some (.inr (.inr (78))), some (.inl (a1)), some (.inl (a2)), none, none, none, none]) rfl ?_
  refine EV.aload_n dX1_goesOn_0 rfl rfl ?_
  refine FV.getF (v := 79) dX1_goesOn_1 sc_78 fl_1_12 rfl rfl hvc_78_0 ?_
  refine FV.getF (v := 82) dX1_goesOn_4 sc_79 fl_1_187 rfl rfl hvc_79_3 ?_
  refine EV.sipush dX1_goesOn_7 (by decide) (by decide) ?_
  refine EV.iload_n dX1_goesOn_10 rfl rfl ?_
  refine EV.iadd dX1_goesOn_11 ?_
  obtain ⟨g1, hf⟩ := pv_gd hf
  refine FV.iald dX1_goesOn_12 sc_82 g1.1 g1.2 (j := (Int.toNat (pv_w (200 + a1)))) rfl ?_
  refine EV.if_ne (tgt := 20) dX1_goesOn_13 (by decide) (fun q2 => ?_) (fun q2 => ?_)
  · have hf := pv_gn hf q2
    refine EV.iconst dX1_goesOn_20 (by decide) (by decide) ?_
    refine EV.weak (L2 := [some (.inr (.inr (78))), some (.inl (a1)), some (.inl (a2)), none, none, none, none]) (And.intro rfl (And.intro rfl (And.intro rfl trivial))) ?_
    exact tX1_goesOn_21 hd    hf
  · have hf := pv_gp hf q2
    refine EV.iconst dX1_goesOn_16 (by decide) (by decide) ?_
    refine EV.goto (tgt := 21) dX1_goesOn_17 (by decide) ?_
    refine EV.weak (L2 := [some (.inr (.inr (78))), some (.inl (a1)), some (.inl (a2)), none, none, none, none]) (And.intro rfl (And.intro rfl (And.intro rfl trivial))) ?_
    exact tX1_goesOn_21 hd    hf

noncomputable def fX1_moveAll_55 (N : Nat)  (a1 : Int) : Nat → Int → Int → pv_H → Option (pv_H)
  | 0, _, _, _ => none
  | n + 1, v3, v4, h => if (h 78 10) ≤ v4 then (pv_b (pv_up h 78 10 v3) fun h13 => some h13) else (if 0 ≤ v4 ∧ v4 < 200 then (if 0 ≤ v3 ∧ v3 < 200 then (pv_b (pv_up h 96 (Int.toNat (v3)) (h 96 (Int.toNat (v4)))) fun h16 => pv_b (pv_w (v3 + 1)) fun x17 => pv_b (pv_w (v4 + 1)) fun x18 => fX1_moveAll_55 N  a1 n (x17) (x18) h16) else none) else none)

noncomputable def fX1_moveAll_46 (N : Nat) (k10 : Int → Int → Int → pv_H → Option (pv_H)) (a1 : Int) (v2 : Int) (v3 : Int) (v4 : Int) (h : pv_H) : Option (pv_H) :=
  pv_b (pv_w (v4 + 1)) fun x19 => k10 (v2) (v3) (x19) h

noncomputable def fX1_moveAll_10 (N : Nat)  (a1 : Int) : Nat → Int → Int → Int → pv_H → Option (pv_H)
  | 0, _, _, _, _ => none
  | n + 1, v2, v3, v4, h => if v2 ≤ v4 then (fX1_moveAll_55 N  a1 N (v3) (v2) h) else (if 0 ≤ v4 ∧ v4 < 200 then (pv_b (h 96 (Int.toNat (v4))) fun x4 => pv_c2b (fX1_goesOn N x4 a1 h) fun h6 r7 => if r7 = 0 then (fX1_moveAll_46 N (fun v2_ v3_ v4_ hh => fX1_moveAll_10 N  a1 n v2_ v3_ v4_ hh) a1 (v2) (v3) (v4) h6) else (if 0 ≤ v3 ∧ v3 < 200 then (pv_b (pv_up h6 96 (Int.toNat (v3)) x4) fun h10 => pv_b (pv_w (v3 + 1)) fun x11 => fX1_moveAll_46 N (fun v2_ v3_ v4_ hh => fX1_moveAll_10 N  a1 n v2_ v3_ v4_ hh) a1 (v2) (x11) (v4) h10) else none)) else none)

noncomputable def fX1_moveAll (N : Nat) (a1 : Int) (h : pv_H) : Option (pv_H) :=
  pv_b (h 78 10) fun x1 => fX1_moveAll_10 N  a1 N (x1) (0) (0) h

set_option maxHeartbeats 4000000 in
set_option maxRecDepth 20000 in
theorem tX1_moveAll_55 {d N : Nat}  {a1 : Int} {h' : pv_H}  (hd : 4 ≤ d)   : ∀ (n : Nat) (v3 : Int) (v4 : Int)  (h : pv_H), fX1_moveAll_55 N  a1 n v3 v4 h = some h' → EV RX1 cX1_moveAll 6 none false d pv_SC (MC h') none 55 [some (.inr (.inr (78))), none, none, some (.inl (v3)), some (.inl (v4)), none] [] pv_SC (MC h) := by
  intro n
  induction n with
  | zero =>
    intro v3 v4  h hf
    cases hf
  | succ n ih =>
    intro v3 v4  h hf
    rw [fX1_moveAll_55] at hf
    refine EV.iload dX1_moveAll_55 rfl ?_
    refine EV.aload_n dX1_moveAll_57 rfl rfl ?_
    refine FV.getI dX1_moveAll_58 sc_78 fl_1_152 rfl ?_
    refine EV.icmp_ge (tgt := 86) dX1_moveAll_61 (by decide) (fun q12 => ?_) (fun q12 => ?_)
    · have hf := pv_gp hf q12
      refine EV.aload_n dX1_moveAll_86 rfl rfl ?_
      refine EV.iload_n dX1_moveAll_87 rfl rfl ?_
      obtain ⟨h13, eh13, hf⟩ := pv_bo hf
      refine FV.putI dX1_moveAll_88 sc_78 fl_1_152 rfl rfl eh13 ?_
      exact FV.vret dX1_moveAll_91 hf
    · have hf := pv_gn hf q12
      refine EV.aload_n dX1_moveAll_64 rfl rfl ?_
      refine FV.getF (v := 96) dX1_moveAll_65 sc_78 fl_1_45 rfl rfl hvc_78_15 ?_
      refine EV.iload_n dX1_moveAll_68 rfl rfl ?_
      refine EV.aload_n dX1_moveAll_69 rfl rfl ?_
      refine FV.getF (v := 96) dX1_moveAll_70 sc_78 fl_1_45 rfl rfl hvc_78_15 ?_
      refine EV.iload dX1_moveAll_73 rfl ?_
      obtain ⟨g14, hf⟩ := pv_gd hf
      refine FV.iald dX1_moveAll_75 sc_96 g14.1 g14.2 (j := (Int.toNat (v4))) rfl ?_
      obtain ⟨g15, hf⟩ := pv_gd hf
      obtain ⟨h16, eh16, hf⟩ := pv_bo hf
      refine FV.iast dX1_moveAll_76 sc_96 g15.1 g15.2 (j := (Int.toNat (v3))) rfl eh16 ?_
      obtain ⟨x17, ex17, hf⟩ := pv_bo hf
      refine FV.inc (L2 := [some (.inr (.inr (78))), none, none, some (.inl (x17)), some (.inl (v4)), none]) dX1_moveAll_77 rfl (Nat.le_of_ble_eq_true rfl) ex17 rfl ?_
      obtain ⟨x18, ex18, hf⟩ := pv_bo hf
      refine FV.inc (L2 := [some (.inr (.inr (78))), none, none, some (.inl (x17)), some (.inl (x18)), none]) dX1_moveAll_80 rfl (Nat.le_of_ble_eq_true rfl) ex18 rfl ?_
      refine EV.goto (tgt := 55) dX1_moveAll_83 (by decide) ?_
      refine EV.weak (L2 := [some (.inr (.inr (78))), none, none, some (.inl (x17)), some (.inl (x18)), none]) (And.intro rfl (And.intro rfl (And.intro rfl trivial))) ?_
      exact ih _ _  _ hf

set_option maxHeartbeats 4000000 in
set_option maxRecDepth 20000 in
theorem tX1_moveAll_46 {d N : Nat} {k10 : Int → Int → Int → pv_H → Option (pv_H)} {a1 : Int} {v2 : Int} {v3 : Int} {v4 : Int} {h h' : pv_H}  (hd : 4 ≤ d) (hk10 : ∀ (v2 : Int) (v3 : Int) (v4 : Int)  (hh : pv_H), k10 v2 v3 v4 hh = some h' → EV RX1 cX1_moveAll 6 none false d pv_SC (MC h') none 10 [some (.inr (.inr (78))), some (.inl (a1)), some (.inl (v2)), some (.inl (v3)), some (.inl (v4)), none] [] pv_SC (MC hh))   (hf : fX1_moveAll_46 N k10 a1 v2 v3 v4 h = some h') : EV RX1 cX1_moveAll 6 none false d pv_SC (MC h') none 46 [some (.inr (.inr (78))), some (.inl (a1)), some (.inl (v2)), some (.inl (v3)), some (.inl (v4)), none] [] pv_SC (MC h) := by
  unfold fX1_moveAll_46 at hf
  obtain ⟨x19, ex19, hf⟩ := pv_bo hf
  refine FV.inc (L2 := [some (.inr (.inr (78))), some (.inl (a1)), some (.inl (v2)), some (.inl (v3)), some (.inl (x19)), none]) dX1_moveAll_46 rfl (Nat.le_of_ble_eq_true rfl) ex19 rfl ?_
  refine EV.goto (tgt := 10) dX1_moveAll_49 (by decide) ?_
  refine EV.weak (L2 := [some (.inr (.inr (78))), some (.inl (a1)), some (.inl (v2)), some (.inl (v3)), some (.inl (x19)), none]) (And.intro rfl (And.intro rfl (And.intro rfl (And.intro rfl (And.intro rfl trivial))))) ?_
  exact hk10 _ _ _  _ hf

set_option maxHeartbeats 4000000 in
set_option maxRecDepth 20000 in
theorem tX1_moveAll_10 {d N : Nat}  {a1 : Int} {h' : pv_H}  (hd : 4 ≤ d)   : ∀ (n : Nat) (v2 : Int) (v3 : Int) (v4 : Int)  (h : pv_H), fX1_moveAll_10 N  a1 n v2 v3 v4 h = some h' → EV RX1 cX1_moveAll 6 none false d pv_SC (MC h') none 10 [some (.inr (.inr (78))), some (.inl (a1)), some (.inl (v2)), some (.inl (v3)), some (.inl (v4)), none] [] pv_SC (MC h) := by
  intro n
  induction n with
  | zero =>
    intro v2 v3 v4  h hf
    cases hf
  | succ n ih =>
    intro v2 v3 v4  h hf
    rw [fX1_moveAll_10] at hf
    refine EV.iload dX1_moveAll_10 rfl ?_
    refine EV.iload_n dX1_moveAll_12 rfl rfl ?_
    refine EV.icmp_ge (tgt := 52) dX1_moveAll_13 (by decide) (fun q2 => ?_) (fun q2 => ?_)
    · have hf := pv_gp hf q2
      refine EV.iload_n dX1_moveAll_52 rfl rfl ?_
      refine FV.stiw (L2 := [some (.inr (.inr (78))), some (.inl (a1)), some (.inl (v2)), some (.inl (v3)), some (.inl (v2)), none]) dX1_moveAll_53 (Nat.le_of_ble_eq_true rfl) rfl rfl ?_
      refine EV.weak (L2 := [some (.inr (.inr (78))), none, none, some (.inl (v3)), some (.inl (v2)), none]) (And.intro rfl (And.intro rfl (And.intro rfl trivial))) ?_
      exact tX1_moveAll_55 hd   _ _ _  _ hf
    · have hf := pv_gn hf q2
      refine EV.aload_n dX1_moveAll_16 rfl rfl ?_
      refine FV.getF (v := 96) dX1_moveAll_17 sc_78 fl_1_45 rfl rfl hvc_78_15 ?_
      refine EV.iload dX1_moveAll_20 rfl ?_
      obtain ⟨g3, hf⟩ := pv_gd hf
      refine FV.iald dX1_moveAll_22 sc_96 g3.1 g3.2 (j := (Int.toNat (v4))) rfl ?_
      obtain ⟨x4, ex4, hf⟩ := pv_bo hf
      refine FV.stiw (L2 := [some (.inr (.inr (78))), some (.inl (a1)), some (.inl (v2)), some (.inl (v3)), some (.inl (v4)), some (.inl (x4))]) dX1_moveAll_23 (Nat.le_of_ble_eq_true rfl) ex4 rfl ?_
      refine EV.aload_n dX1_moveAll_25 rfl rfl ?_
      refine EV.iload dX1_moveAll_26 rfl ?_
      refine EV.iload_n dX1_moveAll_28 rfl rfl ?_
      obtain ⟨h6, r7, hc5, hf⟩ := pv_c2o hf
      refine EV.invV (As := [.inl (x4), .inl (a1)]) (st := []) (d1 := d - 1) (sh1 := pv_SC) (h1 := MC h6) (r1 := (some (.inl r7))) dX1_moveAll_29 sc_78 (by decide) md_X1_goesOn ml_X1_190 im_X1_goesOn se_X1_goesOn (tX1_goesOn (by omega)  hc5) (by omega) rfl rfl (Nat.le_of_ble_eq_true rfl) ⟨[], (List.append_nil _).symm⟩ ?_
      refine EV.eqS (st2 := [.inl (r7)]) rfl ?_
      refine EV.if_eq (tgt := 46) dX1_moveAll_32 (by decide) (fun q8 => ?_) (fun q8 => ?_)
      · have hf := pv_gp hf q8
        refine EV.weak (L2 := [some (.inr (.inr (78))), some (.inl (a1)), some (.inl (v2)), some (.inl (v3)), some (.inl (v4)), none]) (And.intro rfl (And.intro rfl (And.intro rfl (And.intro rfl (And.intro rfl trivial))))) ?_
        exact tX1_moveAll_46 hd (ih)   hf
      · have hf := pv_gn hf q8
        refine EV.aload_n dX1_moveAll_35 rfl rfl ?_
        refine FV.getF (v := 96) dX1_moveAll_36 sc_78 fl_1_45 rfl rfl hvc_78_15 ?_
        refine EV.iload_n dX1_moveAll_39 rfl rfl ?_
        refine EV.iload dX1_moveAll_40 rfl ?_
        obtain ⟨g9, hf⟩ := pv_gd hf
        obtain ⟨h10, eh10, hf⟩ := pv_bo hf
        refine FV.iast dX1_moveAll_42 sc_96 g9.1 g9.2 (j := (Int.toNat (v3))) rfl eh10 ?_
        obtain ⟨x11, ex11, hf⟩ := pv_bo hf
        refine FV.inc (L2 := [some (.inr (.inr (78))), some (.inl (a1)), some (.inl (v2)), some (.inl (x11)), some (.inl (v4)), some (.inl (x4))]) dX1_moveAll_43 rfl (Nat.le_of_ble_eq_true rfl) ex11 rfl ?_
        refine EV.weak (L2 := [some (.inr (.inr (78))), some (.inl (a1)), some (.inl (v2)), some (.inl (x11)), some (.inl (v4)), none]) (And.intro rfl (And.intro rfl (And.intro rfl (And.intro rfl (And.intro rfl trivial))))) ?_
        exact tX1_moveAll_46 hd (ih)   hf

set_option maxHeartbeats 4000000 in
set_option maxRecDepth 20000 in
theorem tX1_moveAll {d N : Nat} {a1 : Int} {h h' : pv_H}  (hd : 4 ≤ d)  (hf : fX1_moveAll N a1 h = some h') : CALL yX1_moveAll cX1_moveAll 6 none d pv_SC (MC h) [.inr (.inr (78)), .inl (a1)] pv_SC (MC h') none := by
  unfold fX1_moveAll at hf
  refine EV.call (own := RX1) (ini := false) rfl rfl (fun q => by cases q) ⟨[], (List.append_nil _).symm⟩ (Nat.le_of_ble_eq_true rfl) ?_
  refine EV.eqL (L2 := [some (.inr (.inr (78))), some (.inl (a1)), none, none, none, none]) rfl ?_
  refine EV.aload_n dX1_moveAll_0 rfl rfl ?_
  refine FV.getI dX1_moveAll_1 sc_78 fl_1_152 rfl ?_
  obtain ⟨x1, ex1, hf⟩ := pv_bo hf
  refine FV.sti (L2 := [some (.inr (.inr (78))), some (.inl (a1)), some (.inl (x1)), none, none, none]) dX1_moveAll_4 rfl (Nat.le_of_ble_eq_true rfl) ex1 rfl ?_
  refine EV.iconst dX1_moveAll_5 (by decide) (by decide) ?_
  refine FV.sti (L2 := [some (.inr (.inr (78))), some (.inl (a1)), some (.inl (x1)), some (.inl (0)), none, none]) dX1_moveAll_6 rfl (Nat.le_of_ble_eq_true rfl) rfl rfl ?_
  refine EV.iconst dX1_moveAll_7 (by decide) (by decide) ?_
  refine FV.stiw (L2 := [some (.inr (.inr (78))), some (.inl (a1)), some (.inl (x1)), some (.inl (0)), some (.inl (0)), none]) dX1_moveAll_8 (Nat.le_of_ble_eq_true rfl) rfl rfl ?_
  refine EV.weak (L2 := [some (.inr (.inr (78))), some (.inl (a1)), some (.inl (x1)), some (.inl (0)), some (.inl (0)), none]) (And.intro rfl (And.intro rfl (And.intro rfl (And.intro rfl (And.intro rfl trivial))))) ?_
  exact tX1_moveAll_10 hd   _ _ _ _  _ hf

noncomputable def fX1_countCells_74 (N : Nat) (k9 : Int → Int → Int → Int → pv_H → Option (pv_H))  (v1 : Int) (v2 : Int) (v3 : Int) (v4 : Int) (h : pv_H) : Option (pv_H) :=
  pv_b (pv_w (v4 + 1)) fun x17 => k9 (v1) (v2) (v3) (x17) h

noncomputable def fX1_countCells_59 (N : Nat) (k9 : Int → Int → Int → Int → pv_H → Option (pv_H))  (v1 : Int) (v2 : Int) (v3 : Int) (v4 : Int) (h : pv_H) : Option (pv_H) :=
  if 0 ≤ v2 ∧ v2 < 60 then (pv_b (pv_up h 83 (Int.toNat (v2)) v3) fun h15 => pv_b (pv_w (v2 + 1)) fun x16 => fX1_countCells_74 N (k9)  (v1) (x16) (0) (v4) h15) else none

noncomputable def fX1_countCells_9 (N : Nat)   : Nat → Int → Int → Int → Int → pv_H → Option (pv_H)
  | 0, _, _, _, _, _ => none
  | n + 1, v1, v2, v3, v4, h => if 0 ≤ h 78 3 ∧ (h 78 3).toNat ∈ pv_l5 then (pv_b ((h 78 3).toNat) fun x2 => if (h x2 0) ≤ v4 then (pv_b (pv_up h 80 1 v2) fun h4 => pv_b (pv_up h4 80 7 v1) fun h5 => some h5) else (if 0 ≤ v4 ∧ v4 < 60 then (pv_b (pv_w (v1 + (h 95 (Int.toNat (v4))))) fun x7 => pv_b (pv_w (v3 + 1)) fun x8 => if 0 ≤ v4 ∧ v4 < 60 then (if (h 94 (Int.toNat (v4))) = 1 then (fX1_countCells_59 N (fun v1_ v2_ v3_ v4_ hh => fX1_countCells_9 N   n v1_ v2_ v3_ v4_ hh)  (x7) (v2) (x8) (v4) h) else (if 0 ≤ h 78 3 ∧ (h 78 3).toNat ∈ pv_l5 then (pv_b ((h 78 3).toNat) fun x12 => if v4 = (pv_w ((h x12 0) - 1)) then (fX1_countCells_59 N (fun v1_ v2_ v3_ v4_ hh => fX1_countCells_9 N   n v1_ v2_ v3_ v4_ hh)  (x7) (v2) (x8) (v4) h) else (fX1_countCells_74 N (fun v1_ v2_ v3_ v4_ hh => fX1_countCells_9 N   n v1_ v2_ v3_ v4_ hh)  (x7) (v2) (x8) (v4) h)) else none)) else none) else none)) else none

noncomputable def fX1_countCells (N : Nat)  (h : pv_H) : Option (pv_H) :=
  fX1_countCells_9 N   N (0) (0) (0) (0) h

set_option maxHeartbeats 4000000 in
set_option maxRecDepth 20000 in
theorem tX1_countCells_74 {d N : Nat} {k9 : Int → Int → Int → Int → pv_H → Option (pv_H)}  {v1 : Int} {v2 : Int} {v3 : Int} {v4 : Int} {h h' : pv_H}  (hd : 1 ≤ d) (hk9 : ∀ (v1 : Int) (v2 : Int) (v3 : Int) (v4 : Int)  (hh : pv_H), k9 v1 v2 v3 v4 hh = some h' → EV RX1 cX1_countCells 5 none false d pv_SC (MC h') none 9 [some (.inr (.inr (78))), some (.inl (v1)), some (.inl (v2)), some (.inl (v3)), some (.inl (v4))] [] pv_SC (MC hh))   (hf : fX1_countCells_74 N k9  v1 v2 v3 v4 h = some h') : EV RX1 cX1_countCells 5 none false d pv_SC (MC h') none 74 [some (.inr (.inr (78))), some (.inl (v1)), some (.inl (v2)), some (.inl (v3)), some (.inl (v4))] [] pv_SC (MC h) := by
  unfold fX1_countCells_74 at hf
  obtain ⟨x17, ex17, hf⟩ := pv_bo hf
  refine FV.inc (L2 := [some (.inr (.inr (78))), some (.inl (v1)), some (.inl (v2)), some (.inl (v3)), some (.inl (x17))]) dX1_countCells_74 rfl (Nat.le_of_ble_eq_true rfl) ex17 rfl ?_
  refine EV.goto (tgt := 9) dX1_countCells_77 (by decide) ?_
  refine EV.weak (L2 := [some (.inr (.inr (78))), some (.inl (v1)), some (.inl (v2)), some (.inl (v3)), some (.inl (x17))]) (And.intro rfl (And.intro rfl (And.intro rfl (And.intro rfl (And.intro rfl trivial))))) ?_
  exact hk9 _ _ _ _  _ hf

set_option maxHeartbeats 4000000 in
set_option maxRecDepth 20000 in
theorem tX1_countCells_59 {d N : Nat} {k9 : Int → Int → Int → Int → pv_H → Option (pv_H)}  {v1 : Int} {v2 : Int} {v3 : Int} {v4 : Int} {h h' : pv_H}  (hd : 1 ≤ d) (hk9 : ∀ (v1 : Int) (v2 : Int) (v3 : Int) (v4 : Int)  (hh : pv_H), k9 v1 v2 v3 v4 hh = some h' → EV RX1 cX1_countCells 5 none false d pv_SC (MC h') none 9 [some (.inr (.inr (78))), some (.inl (v1)), some (.inl (v2)), some (.inl (v3)), some (.inl (v4))] [] pv_SC (MC hh))   (hf : fX1_countCells_59 N k9  v1 v2 v3 v4 h = some h') : EV RX1 cX1_countCells 5 none false d pv_SC (MC h') none 59 [some (.inr (.inr (78))), some (.inl (v1)), some (.inl (v2)), some (.inl (v3)), some (.inl (v4))] [] pv_SC (MC h) := by
  unfold fX1_countCells_59 at hf
  refine EV.aload_n dX1_countCells_59 rfl rfl ?_
  refine FV.getF (v := 79) dX1_countCells_60 sc_78 fl_1_12 rfl rfl hvc_78_0 ?_
  refine FV.getF (v := 83) dX1_countCells_63 sc_79 fl_1_204 rfl rfl hvc_79_4 ?_
  refine EV.iload_n dX1_countCells_66 rfl rfl ?_
  refine EV.iload_n dX1_countCells_67 rfl rfl ?_
  obtain ⟨g14, hf⟩ := pv_gd hf
  obtain ⟨h15, eh15, hf⟩ := pv_bo hf
  refine FV.iast dX1_countCells_68 sc_83 g14.1 g14.2 (j := (Int.toNat (v2))) rfl eh15 ?_
  obtain ⟨x16, ex16, hf⟩ := pv_bo hf
  refine FV.inc (L2 := [some (.inr (.inr (78))), some (.inl (v1)), some (.inl (x16)), some (.inl (v3)), some (.inl (v4))]) dX1_countCells_69 rfl (Nat.le_of_ble_eq_true rfl) ex16 rfl ?_
  refine EV.iconst dX1_countCells_72 (by decide) (by decide) ?_
  refine FV.sti (L2 := [some (.inr (.inr (78))), some (.inl (v1)), some (.inl (x16)), some (.inl (0)), some (.inl (v4))]) dX1_countCells_73 rfl (Nat.le_of_ble_eq_true rfl) rfl rfl ?_
  refine EV.weak (L2 := [some (.inr (.inr (78))), some (.inl (v1)), some (.inl (x16)), some (.inl (0)), some (.inl (v4))]) (And.intro rfl (And.intro rfl (And.intro rfl (And.intro rfl (And.intro rfl trivial))))) ?_
  exact tX1_countCells_74 hd (hk9)   hf

set_option maxHeartbeats 4000000 in
set_option maxRecDepth 20000 in
theorem tX1_countCells_9 {d N : Nat}   {h' : pv_H}  (hd : 1 ≤ d)   : ∀ (n : Nat) (v1 : Int) (v2 : Int) (v3 : Int) (v4 : Int)  (h : pv_H), fX1_countCells_9 N   n v1 v2 v3 v4 h = some h' → EV RX1 cX1_countCells 5 none false d pv_SC (MC h') none 9 [some (.inr (.inr (78))), some (.inl (v1)), some (.inl (v2)), some (.inl (v3)), some (.inl (v4))] [] pv_SC (MC h) := by
  intro n
  induction n with
  | zero =>
    intro v1 v2 v3 v4  h hf
    cases hf
  | succ n ih =>
    intro v1 v2 v3 v4  h hf
    rw [fX1_countCells_9] at hf
    refine EV.iload dX1_countCells_9 rfl ?_
    refine EV.aload_n dX1_countCells_11 rfl rfl ?_
    obtain ⟨g1, hf⟩ := pv_gd hf
    obtain ⟨x2, ex2, hf⟩ := pv_bo hf
    have mx2 : x2 ∈ pv_l5 := ex2 ▸ g1.2
    refine FV.getM dX1_countCells_12 sc_78 fl_1_21 rfl rfl g1.1 ex2 ?_
    refine FV.getI dX1_countCells_15 (sl5_0 _ mx2) fl_1_84 rfl ?_
    refine EV.icmp_ge (tgt := 80) dX1_countCells_18 (by decide) (fun q3 => ?_) (fun q3 => ?_)
    · have hf := pv_gp hf q3
      refine EV.aload_n dX1_countCells_80 rfl rfl ?_
      refine FV.getF (v := 79) dX1_countCells_81 sc_78 fl_1_12 rfl rfl hvc_78_0 ?_
      refine FV.getF (v := 80) dX1_countCells_84 sc_79 fl_1_124 rfl rfl hvc_79_1 ?_
      refine EV.iconst dX1_countCells_87 (by decide) (by decide) ?_
      refine EV.iload_n dX1_countCells_88 rfl rfl ?_
      obtain ⟨h4, eh4, hf⟩ := pv_bo hf
      refine FV.iast dX1_countCells_89 sc_80 (by decide) (by decide) (j := 1) rfl eh4 ?_
      refine EV.aload_n dX1_countCells_90 rfl rfl ?_
      refine FV.getF (v := 79) dX1_countCells_91 sc_78 fl_1_12 rfl rfl hvc_78_0 ?_
      refine FV.getF (v := 80) dX1_countCells_94 sc_79 fl_1_124 rfl rfl hvc_79_1 ?_
      refine EV.bipush dX1_countCells_97 (by decide) (by decide) ?_
      refine EV.iload_n dX1_countCells_99 rfl rfl ?_
      obtain ⟨h5, eh5, hf⟩ := pv_bo hf
      refine FV.iast dX1_countCells_100 sc_80 (by decide) (by decide) (j := 7) rfl eh5 ?_
      exact FV.vret dX1_countCells_101 hf
    · have hf := pv_gn hf q3
      refine EV.iload_n dX1_countCells_21 rfl rfl ?_
      refine EV.aload_n dX1_countCells_22 rfl rfl ?_
      refine FV.getF (v := 95) dX1_countCells_23 sc_78 fl_1_42 rfl rfl hvc_78_14 ?_
      refine EV.iload dX1_countCells_26 rfl ?_
      obtain ⟨g6, hf⟩ := pv_gd hf
      refine FV.iald dX1_countCells_28 sc_95 g6.1 g6.2 (j := (Int.toNat (v4))) rfl ?_
      refine EV.iadd dX1_countCells_29 ?_
      obtain ⟨x7, ex7, hf⟩ := pv_bo hf
      refine FV.sti (L2 := [some (.inr (.inr (78))), some (.inl (x7)), some (.inl (v2)), some (.inl (v3)), some (.inl (v4))]) dX1_countCells_30 rfl (Nat.le_of_ble_eq_true rfl) ex7 rfl ?_
      obtain ⟨x8, ex8, hf⟩ := pv_bo hf
      refine FV.inc (L2 := [some (.inr (.inr (78))), some (.inl (x7)), some (.inl (v2)), some (.inl (x8)), some (.inl (v4))]) dX1_countCells_31 rfl (Nat.le_of_ble_eq_true rfl) ex8 rfl ?_
      refine EV.aload_n dX1_countCells_34 rfl rfl ?_
      refine FV.getF (v := 94) dX1_countCells_35 sc_78 fl_1_39 rfl rfl hvc_78_13 ?_
      refine EV.iload dX1_countCells_38 rfl ?_
      obtain ⟨g9, hf⟩ := pv_gd hf
      refine FV.iald dX1_countCells_40 sc_94 g9.1 g9.2 (j := (Int.toNat (v4))) rfl ?_
      refine EV.iconst dX1_countCells_41 (by decide) (by decide) ?_
      refine EV.icmp_eq (tgt := 59) dX1_countCells_42 (by decide) (fun q10 => ?_) (fun q10 => ?_)
      · have hf := pv_gp hf q10
        refine EV.weak (L2 := [some (.inr (.inr (78))), some (.inl (x7)), some (.inl (v2)), some (.inl (x8)), some (.inl (v4))]) (And.intro rfl (And.intro rfl (And.intro rfl (And.intro rfl (And.intro rfl trivial))))) ?_
        exact tX1_countCells_59 hd (ih)   hf
      · have hf := pv_gn hf q10
        refine EV.iload dX1_countCells_45 rfl ?_
        refine EV.aload_n dX1_countCells_47 rfl rfl ?_
        obtain ⟨g11, hf⟩ := pv_gd hf
        obtain ⟨x12, ex12, hf⟩ := pv_bo hf
        have mx12 : x12 ∈ pv_l5 := ex12 ▸ g11.2
        refine FV.getM dX1_countCells_48 sc_78 fl_1_21 rfl rfl g11.1 ex12 ?_
        refine FV.getI dX1_countCells_51 (sl5_0 _ mx12) fl_1_84 rfl ?_
        refine EV.iconst dX1_countCells_54 (by decide) (by decide) ?_
        refine EV.isub dX1_countCells_55 ?_
        refine EV.icmp_ne (tgt := 74) dX1_countCells_56 (by decide) (fun q13 => ?_) (fun q13 => ?_)
        · have hf := pv_gn hf q13
          refine EV.weak (L2 := [some (.inr (.inr (78))), some (.inl (x7)), some (.inl (v2)), some (.inl (x8)), some (.inl (v4))]) (And.intro rfl (And.intro rfl (And.intro rfl (And.intro rfl (And.intro rfl trivial))))) ?_
          exact tX1_countCells_74 hd (ih)   hf
        · have hf := pv_gp hf q13
          refine EV.weak (L2 := [some (.inr (.inr (78))), some (.inl (x7)), some (.inl (v2)), some (.inl (x8)), some (.inl (v4))]) (And.intro rfl (And.intro rfl (And.intro rfl (And.intro rfl (And.intro rfl trivial))))) ?_
          exact tX1_countCells_59 hd (ih)   hf

set_option maxHeartbeats 4000000 in
set_option maxRecDepth 20000 in
theorem tX1_countCells {d N : Nat}  {h h' : pv_H}  (hd : 1 ≤ d)  (hf : fX1_countCells N  h = some h') : CALL yX1_countCells cX1_countCells 5 none d pv_SC (MC h) [.inr (.inr (78))] pv_SC (MC h') none := by
  unfold fX1_countCells at hf
  refine EV.call (own := RX1) (ini := false) rfl rfl (fun q => by cases q) ⟨[], (List.append_nil _).symm⟩ (Nat.le_of_ble_eq_true rfl) ?_
  refine EV.eqL (L2 := [some (.inr (.inr (78))), none, none, none, none]) rfl ?_
  refine EV.iconst dX1_countCells_0 (by decide) (by decide) ?_
  refine FV.sti (L2 := [some (.inr (.inr (78))), some (.inl (0)), none, none, none]) dX1_countCells_1 rfl (Nat.le_of_ble_eq_true rfl) rfl rfl ?_
  refine EV.iconst dX1_countCells_2 (by decide) (by decide) ?_
  refine FV.sti (L2 := [some (.inr (.inr (78))), some (.inl (0)), some (.inl (0)), none, none]) dX1_countCells_3 rfl (Nat.le_of_ble_eq_true rfl) rfl rfl ?_
  refine EV.iconst dX1_countCells_4 (by decide) (by decide) ?_
  refine FV.sti (L2 := [some (.inr (.inr (78))), some (.inl (0)), some (.inl (0)), some (.inl (0)), none]) dX1_countCells_5 rfl (Nat.le_of_ble_eq_true rfl) rfl rfl ?_
  refine EV.iconst dX1_countCells_6 (by decide) (by decide) ?_
  refine FV.stiw (L2 := [some (.inr (.inr (78))), some (.inl (0)), some (.inl (0)), some (.inl (0)), some (.inl (0))]) dX1_countCells_7 (Nat.le_of_ble_eq_true rfl) rfl rfl ?_
  refine EV.weak (L2 := [some (.inr (.inr (78))), some (.inl (0)), some (.inl (0)), some (.inl (0)), some (.inl (0))]) (And.intro rfl (And.intro rfl (And.intro rfl (And.intro rfl (And.intro rfl trivial))))) ?_
  exact tX1_countCells_9 hd   _ _ _ _ _  _ hf

noncomputable def fX1_sendWaves_219 (N : Nat)  (a1 : Int) (a2 : Int)  (h : pv_H) : Option (pv_H × Int) :=
  pv_c1 (fX1_countCells N  h) fun h29 => some (h29, h29 80 1)

noncomputable def fX1_sendWaves_218 (N : Nat)  (a1 : Int) (a2 : Int) (s0 : Int) (s1 : Int) (h : pv_H) : Option (pv_H × Int) :=
  if 0 ≤ s1 ∧ s1 < 8 then (pv_b (pv_up h 80 (Int.toNat (s1)) s0) fun h38 => fX1_sendWaves_219 N  a1 a2  h38) else none

noncomputable def fX1_sendWaves_195 (N : Nat)  (a1 : Int) (a2 : Int) (v4 : Int) (h : pv_H) : Option (pv_H × Int) :=
  if (h 78 10) ≤ 0 then (fX1_sendWaves_218 N  a1 a2 (v4) (4) h) else (fX1_sendWaves_218 N  a1 a2 (4000) (4) h)

noncomputable def fX1_sendWaves_159 (N : Nat)  (a1 : Int) (a2 : Int) : Nat → Int → Int → Int → pv_H → Option (pv_H × Int)
  | 0, _, _, _, _ => none
  | n + 1, v3, v4, v5, h => if 4000 ≤ v5 then (fX1_sendWaves_195 N  a1 a2 (v4) h) else (if (h 78 10) ≤ 0 then (fX1_sendWaves_195 N  a1 a2 (v4) h) else (pv_c1 (fX1_moveAll N v5 h) fun h33 => pv_b (pv_w (v5 + 1)) fun x34 => pv_b (pv_w (v5 + v3)) fun x35 => fX1_sendWaves_159 N  a1 a2 n (v3) (x34) (x35) h33))

noncomputable def fX1_sendWaves_39 (N : Nat)  (a1 : Int) (a2 : Int) (s0 : Int) (s1 : Nat) (h : pv_H) : Option (pv_H × Int) :=
  pv_c1 (fX2_offBy N s1 s0 h) fun r9 => pv_b (pv_up h 78 8 r9) fun h10 => pv_b (pv_up h10 80 0 0) fun h11 => pv_b (pv_up h11 80 2 0) fun h12 => pv_b (pv_up h12 80 3 0) fun h13 => pv_b (pv_up h13 78 10 0) fun h14 => pv_b (pv_ur h14 94 (fun k => if k < 60 then 0 else h14 94 k)) fun h15 => pv_b (pv_ur h15 95 (fun k => if k < 60 then 0 else h15 95 k)) fun h16 => if (h16 78 6) = (-1) then (fX1_sendWaves_219 N  a1 a2  h16) else (pv_c1 (fX1_kindOfFirst N  h16) fun r19 => if 0 ≤ h16 78 6 ∧ h16 78 6 < 60 then (pv_c1 (fX1_breakCell N (h16 78 6) (h16 78 7) r19 (h16 93 (Int.toNat (h16 78 6))) h16) fun h22 => if 0 ≤ h22 78 4 ∧ (h22 78 4).toNat ∈ pv_l2 then (pv_b ((h22 78 4).toNat) fun x24 => pv_b (max 1 (h22 (x24 + 1) 2)) fun x25 => pv_b (pv_w ((h22 78 7) + 1)) fun x26 => pv_b (pv_w ((h22 78 7) + x25)) fun x27 => fX1_sendWaves_159 N  a1 a2 N (x25) (x26) (x27) h22) else none) else none)

noncomputable def fX1_sendWaves (N : Nat) (a1 : Int) (a2 : Int) (h : pv_H) : Option (pv_H × Int) :=
  if a2 = 0 ∨ a2 = 1 then (pv_b (pv_up h 78 9 a2) fun h2 => pv_b (pv_up h2 78 1 (-1)) fun h3 => pv_b (pv_up h3 78 2 (-1)) fun h4 => if 0 ≤ h4 78 4 ∧ (h4 78 4).toNat ∈ pv_l2 then (pv_b ((h4 78 4).toNat) fun x6 => if a1 = (-1) then (fX1_sendWaves_39 N  a1 a2 (h4 80 6) (x6) h4) else (fX1_sendWaves_39 N  a1 a2 (a1) (x6) h4)) else none) else none

set_option maxHeartbeats 4000000 in
set_option maxRecDepth 20000 in
theorem tX1_sendWaves_219 {d N : Nat}  {a1 : Int} {a2 : Int}  {h h' : pv_H} {r : Int} (hd : 5 ≤ d)    (hf : fX1_sendWaves_219 N  a1 a2  h = some (h', r)) : EV RX1 cX1_sendWaves 6 (some .int) false d pv_SC (MC h') (some (.inl r)) 219 [some (.inr (.inr (78))), none, none, none, none, none] [] pv_SC (MC h) := by
  unfold fX1_sendWaves_219 at hf
  refine EV.aload_n dX1_sendWaves_219 rfl rfl ?_
  obtain ⟨h29, hc28, hf⟩ := pv_c1o hf
  refine EV.invV (As := []) (st := []) (d1 := d - 1) (sh1 := pv_SC) (h1 := MC h29) (r1 := none) dX1_sendWaves_220 sc_78 (by decide) md_X1_countCells ml_X1_172 im_X1_countCells se_X1_countCells (tX1_countCells (by omega)  hc28) (by omega) rfl rfl (Nat.le_of_ble_eq_true rfl) ⟨[], (List.append_nil _).symm⟩ ?_
  refine EV.aload_n dX1_sendWaves_223 rfl rfl ?_
  refine FV.getF (v := 79) dX1_sendWaves_224 sc_78 fl_1_12 rfl rfl hvc_78_0 ?_
  refine FV.getF (v := 80) dX1_sendWaves_227 sc_79 fl_1_124 rfl rfl hvc_79_1 ?_
  refine EV.iconst dX1_sendWaves_230 (by decide) (by decide) ?_
  refine FV.iald dX1_sendWaves_231 sc_80 (by decide) (by decide) (j := 1) rfl ?_
  exact FV.iret dX1_sendWaves_232 hf

set_option maxHeartbeats 4000000 in
set_option maxRecDepth 20000 in
theorem tX1_sendWaves_218 {d N : Nat}  {a1 : Int} {a2 : Int} {s0 : Int} {s1 : Int} {h h' : pv_H} {r : Int} (hd : 5 ≤ d)    (hf : fX1_sendWaves_218 N  a1 a2 s0 s1 h = some (h', r)) : EV RX1 cX1_sendWaves 6 (some .int) false d pv_SC (MC h') (some (.inl r)) 218 [some (.inr (.inr (78))), none, none, none, none, none] [.inl (s0), .inl (s1), .inr (.inr (80))] pv_SC (MC h) := by
  unfold fX1_sendWaves_218 at hf
  obtain ⟨g37, hf⟩ := pv_gd hf
  obtain ⟨h38, eh38, hf⟩ := pv_bo hf
  refine FV.iast dX1_sendWaves_218 sc_80 g37.1 g37.2 (j := (Int.toNat (s1))) rfl eh38 ?_
  refine EV.weak (L2 := [some (.inr (.inr (78))), none, none, none, none, none]) (And.intro rfl trivial) ?_
  exact tX1_sendWaves_219 hd    hf

set_option maxHeartbeats 4000000 in
set_option maxRecDepth 20000 in
theorem tX1_sendWaves_195 {d N : Nat}  {a1 : Int} {a2 : Int} {v4 : Int} {h h' : pv_H} {r : Int} (hd : 5 ≤ d)    (hf : fX1_sendWaves_195 N  a1 a2 v4 h = some (h', r)) : EV RX1 cX1_sendWaves 6 (some .int) false d pv_SC (MC h') (some (.inl r)) 195 [some (.inr (.inr (78))), none, none, none, some (.inl (v4)), none] [] pv_SC (MC h) := by
  unfold fX1_sendWaves_195 at hf
  refine EV.aload_n dX1_sendWaves_195 rfl rfl ?_
  refine FV.getF (v := 79) dX1_sendWaves_196 sc_78 fl_1_12 rfl rfl hvc_78_0 ?_
  refine FV.getF (v := 80) dX1_sendWaves_199 sc_79 fl_1_124 rfl rfl hvc_79_1 ?_
  refine EV.iconst dX1_sendWaves_202 (by decide) (by decide) ?_
  refine EV.aload_n dX1_sendWaves_203 rfl rfl ?_
  refine FV.getI dX1_sendWaves_204 sc_78 fl_1_152 rfl ?_
  refine EV.if_le (tgt := 216) dX1_sendWaves_207 (by decide) (fun q36 => ?_) (fun q36 => ?_)
  · have hf := pv_gp hf q36
    refine EV.iload dX1_sendWaves_216 rfl ?_
    refine EV.weak (L2 := [some (.inr (.inr (78))), none, none, none, none, none]) (And.intro rfl trivial) ?_
    exact tX1_sendWaves_218 hd    hf
  · have hf := pv_gn hf q36
    refine EV.sipush dX1_sendWaves_210 (by decide) (by decide) ?_
    refine EV.goto (tgt := 218) dX1_sendWaves_213 (by decide) ?_
    refine EV.weak (L2 := [some (.inr (.inr (78))), none, none, none, none, none]) (And.intro rfl trivial) ?_
    exact tX1_sendWaves_218 hd    hf

set_option maxHeartbeats 4000000 in
set_option maxRecDepth 20000 in
theorem tX1_sendWaves_159 {d N : Nat}  {a1 : Int} {a2 : Int} {h' : pv_H} {r : Int} (hd : 5 ≤ d)   : ∀ (n : Nat) (v3 : Int) (v4 : Int) (v5 : Int)  (h : pv_H), fX1_sendWaves_159 N  a1 a2 n v3 v4 v5 h = some (h', r) → EV RX1 cX1_sendWaves 6 (some .int) false d pv_SC (MC h') (some (.inl r)) 159 [some (.inr (.inr (78))), none, none, some (.inl (v3)), some (.inl (v4)), some (.inl (v5))] [] pv_SC (MC h) := by
  intro n
  induction n with
  | zero =>
    intro v3 v4 v5  h hf
    cases hf
  | succ n ih =>
    intro v3 v4 v5  h hf
    rw [fX1_sendWaves_159] at hf
    refine EV.iload dX1_sendWaves_159 rfl ?_
    refine EV.sipush dX1_sendWaves_161 (by decide) (by decide) ?_
    refine EV.icmp_ge (tgt := 195) dX1_sendWaves_164 (by decide) (fun q30 => ?_) (fun q30 => ?_)
    · have hf := pv_gp hf q30
      refine EV.weak (L2 := [some (.inr (.inr (78))), none, none, none, some (.inl (v4)), none]) (And.intro rfl (And.intro rfl trivial)) ?_
      exact tX1_sendWaves_195 hd    hf
    · have hf := pv_gn hf q30
      refine EV.aload_n dX1_sendWaves_167 rfl rfl ?_
      refine FV.getI dX1_sendWaves_168 sc_78 fl_1_152 rfl ?_
      refine EV.if_le (tgt := 195) dX1_sendWaves_171 (by decide) (fun q31 => ?_) (fun q31 => ?_)
      · have hf := pv_gp hf q31
        refine EV.weak (L2 := [some (.inr (.inr (78))), none, none, none, some (.inl (v4)), none]) (And.intro rfl (And.intro rfl trivial)) ?_
        exact tX1_sendWaves_195 hd    hf
      · have hf := pv_gn hf q31
        refine EV.aload_n dX1_sendWaves_174 rfl rfl ?_
        refine EV.iload dX1_sendWaves_175 rfl ?_
        obtain ⟨h33, hc32, hf⟩ := pv_c1o hf
        refine EV.invV (As := [.inl (v5)]) (st := []) (d1 := d - 1) (sh1 := pv_SC) (h1 := MC h33) (r1 := none) dX1_sendWaves_177 sc_78 (by decide) md_X1_moveAll ml_X1_168 im_X1_moveAll se_X1_moveAll (tX1_moveAll (by omega)  hc32) (by omega) rfl rfl (Nat.le_of_ble_eq_true rfl) ⟨[], (List.append_nil _).symm⟩ ?_
        refine EV.iload dX1_sendWaves_180 rfl ?_
        refine EV.iconst dX1_sendWaves_182 (by decide) (by decide) ?_
        refine EV.iadd dX1_sendWaves_183 ?_
        obtain ⟨x34, ex34, hf⟩ := pv_bo hf
        refine FV.stiw (L2 := [some (.inr (.inr (78))), none, none, some (.inl (v3)), some (.inl (x34)), some (.inl (v5))]) dX1_sendWaves_184 (Nat.le_of_ble_eq_true rfl) ex34 rfl ?_
        refine EV.iload dX1_sendWaves_186 rfl ?_
        refine EV.iload_n dX1_sendWaves_188 rfl rfl ?_
        refine EV.iadd dX1_sendWaves_189 ?_
        obtain ⟨x35, ex35, hf⟩ := pv_bo hf
        refine FV.stiw (L2 := [some (.inr (.inr (78))), none, none, some (.inl (v3)), some (.inl (x34)), some (.inl (x35))]) dX1_sendWaves_190 (Nat.le_of_ble_eq_true rfl) ex35 rfl ?_
        refine EV.goto (tgt := 159) dX1_sendWaves_192 (by decide) ?_
        refine EV.weak (L2 := [some (.inr (.inr (78))), none, none, some (.inl (v3)), some (.inl (x34)), some (.inl (x35))]) (And.intro rfl (And.intro rfl (And.intro rfl (And.intro rfl trivial)))) ?_
        exact ih _ _ _  _ hf

set_option maxHeartbeats 4000000 in
set_option maxRecDepth 20000 in
theorem tX1_sendWaves_39 {d N : Nat}  {a1 : Int} {a2 : Int} {s0 : Int} {s1 : Nat} {h h' : pv_H} {r : Int} (hd : 5 ≤ d)   (ms1 : s1 ∈ pv_l2) (hf : fX1_sendWaves_39 N  a1 a2 s0 s1 h = some (h', r)) : EV RX1 cX1_sendWaves 6 (some .int) false d pv_SC (MC h') (some (.inl r)) 39 [some (.inr (.inr (78))), none, none, none, none, none] [.inl (s0), .inr (.inr (s1)), .inr (.inr (78))] pv_SC (MC h) := by
  unfold fX1_sendWaves_39 at hf
  obtain ⟨r9, hc8, hf⟩ := pv_c1o hf
  refine EV.invV (As := [.inl (s0)]) (st := [.inr (.inr (78))]) (d1 := d - 1) (sh1 := pv_SC) (h1 := MC h) (r1 := (some (.inl r9))) dX1_sendWaves_39 (sl2_0 _ ms1) (by decide) md_X2_offBy ml_X1_146 im_X2_offBy se_X2_offBy (tX2_offBy (by omega) (ms1) hc8) (by omega) rfl rfl (Nat.le_of_ble_eq_true rfl) ⟨[], (List.append_nil _).symm⟩ ?_
  refine EV.eqS (st2 := [.inl (r9), .inr (.inr (78))]) rfl ?_
  obtain ⟨h10, eh10, hf⟩ := pv_bo hf
  refine FV.putI dX1_sendWaves_42 sc_78 fl_1_149 rfl rfl eh10 ?_
  refine EV.aload_n dX1_sendWaves_45 rfl rfl ?_
  refine FV.getF (v := 79) dX1_sendWaves_46 sc_78 fl_1_12 rfl rfl hvc_78_0 ?_
  refine FV.getF (v := 80) dX1_sendWaves_49 sc_79 fl_1_124 rfl rfl hvc_79_1 ?_
  refine EV.iconst dX1_sendWaves_52 (by decide) (by decide) ?_
  refine EV.iconst dX1_sendWaves_53 (by decide) (by decide) ?_
  obtain ⟨h11, eh11, hf⟩ := pv_bo hf
  refine FV.iast dX1_sendWaves_54 sc_80 (by decide) (by decide) (j := 0) rfl eh11 ?_
  refine EV.aload_n dX1_sendWaves_55 rfl rfl ?_
  refine FV.getF (v := 79) dX1_sendWaves_56 sc_78 fl_1_12 rfl rfl hvc_78_0 ?_
  refine FV.getF (v := 80) dX1_sendWaves_59 sc_79 fl_1_124 rfl rfl hvc_79_1 ?_
  refine EV.iconst dX1_sendWaves_62 (by decide) (by decide) ?_
  refine EV.iconst dX1_sendWaves_63 (by decide) (by decide) ?_
  obtain ⟨h12, eh12, hf⟩ := pv_bo hf
  refine FV.iast dX1_sendWaves_64 sc_80 (by decide) (by decide) (j := 2) rfl eh12 ?_
  refine EV.aload_n dX1_sendWaves_65 rfl rfl ?_
  refine FV.getF (v := 79) dX1_sendWaves_66 sc_78 fl_1_12 rfl rfl hvc_78_0 ?_
  refine FV.getF (v := 80) dX1_sendWaves_69 sc_79 fl_1_124 rfl rfl hvc_79_1 ?_
  refine EV.iconst dX1_sendWaves_72 (by decide) (by decide) ?_
  refine EV.iconst dX1_sendWaves_73 (by decide) (by decide) ?_
  obtain ⟨h13, eh13, hf⟩ := pv_bo hf
  refine FV.iast dX1_sendWaves_74 sc_80 (by decide) (by decide) (j := 3) rfl eh13 ?_
  refine EV.aload_n dX1_sendWaves_75 rfl rfl ?_
  refine EV.iconst dX1_sendWaves_76 (by decide) (by decide) ?_
  obtain ⟨h14, eh14, hf⟩ := pv_bo hf
  refine FV.putI dX1_sendWaves_77 sc_78 fl_1_152 rfl rfl eh14 ?_
  refine EV.aload_n dX1_sendWaves_80 rfl rfl ?_
  refine FV.getF (v := 94) dX1_sendWaves_81 sc_78 fl_1_39 rfl rfl hvc_78_13 ?_
  refine EV.iconst dX1_sendWaves_84 (by decide) (by decide) ?_
  obtain ⟨h15, eh15, hf⟩ := pv_bo hf
  refine EV.invS (As := [.inr (.inr (94)), .inl (0)]) (st := []) (d1 := d - 1) (sh1 := pv_SC) (h1 := MC h15) (r1 := none) dX1_sendWaves_85 md_J7_fill_53178 ml_X1_155 st_J7_fill_53178 (t_fillI (by omega) sc_94 (by decide) eh15) (by omega) rfl rfl (Nat.le_of_ble_eq_true rfl) ⟨[], (List.append_nil _).symm⟩ ?_
  refine EV.aload_n dX1_sendWaves_88 rfl rfl ?_
  refine FV.getF (v := 95) dX1_sendWaves_89 sc_78 fl_1_42 rfl rfl hvc_78_14 ?_
  refine EV.iconst dX1_sendWaves_92 (by decide) (by decide) ?_
  obtain ⟨h16, eh16, hf⟩ := pv_bo hf
  refine EV.invS (As := [.inr (.inr (95)), .inl (0)]) (st := []) (d1 := d - 1) (sh1 := pv_SC) (h1 := MC h16) (r1 := none) dX1_sendWaves_93 md_J7_fill_53178 ml_X1_155 st_J7_fill_53178 (t_fillI (by omega) sc_95 (by decide) eh16) (by omega) rfl rfl (Nat.le_of_ble_eq_true rfl) ⟨[], (List.append_nil _).symm⟩ ?_
  refine EV.aload_n dX1_sendWaves_96 rfl rfl ?_
  refine FV.getI dX1_sendWaves_97 sc_78 fl_1_117 rfl ?_
  refine EV.iconst dX1_sendWaves_100 (by decide) (by decide) ?_
  refine EV.icmp_eq (tgt := 219) dX1_sendWaves_101 (by decide) (fun q17 => ?_) (fun q17 => ?_)
  · have hf := pv_gp hf q17
    refine EV.weak (L2 := [some (.inr (.inr (78))), none, none, none, none, none]) (And.intro rfl trivial) ?_
    exact tX1_sendWaves_219 hd    hf
  · have hf := pv_gn hf q17
    refine EV.aload_n dX1_sendWaves_104 rfl rfl ?_
    refine EV.aload_n dX1_sendWaves_105 rfl rfl ?_
    refine FV.getI dX1_sendWaves_106 sc_78 fl_1_117 rfl ?_
    refine EV.aload_n dX1_sendWaves_109 rfl rfl ?_
    refine FV.getI dX1_sendWaves_110 sc_78 fl_1_114 rfl ?_
    refine EV.aload_n dX1_sendWaves_113 rfl rfl ?_
    obtain ⟨r19, hc18, hf⟩ := pv_c1o hf
    refine EV.invV (As := []) (st := [.inl (h16 78 7), .inl (h16 78 6), .inr (.inr (78))]) (d1 := d - 1) (sh1 := pv_SC) (h1 := MC h16) (r1 := (some (.inl r19))) dX1_sendWaves_114 sc_78 (by decide) md_X1_kindOfFirst ml_X1_161 im_X1_kindOfFirst se_X1_kindOfFirst (tX1_kindOfFirst (by omega)  hc18) (by omega) rfl rfl (Nat.le_of_ble_eq_true rfl) ⟨[], (List.append_nil _).symm⟩ ?_
    refine EV.eqS (st2 := [.inl (r19), .inl (h16 78 7), .inl (h16 78 6), .inr (.inr (78))]) rfl ?_
    refine EV.aload_n dX1_sendWaves_117 rfl rfl ?_
    refine FV.getF (v := 93) dX1_sendWaves_118 sc_78 fl_1_36 rfl rfl hvc_78_12 ?_
    refine EV.aload_n dX1_sendWaves_121 rfl rfl ?_
    refine FV.getI dX1_sendWaves_122 sc_78 fl_1_117 rfl ?_
    obtain ⟨g20, hf⟩ := pv_gd hf
    refine FV.iald dX1_sendWaves_125 sc_93 g20.1 g20.2 (j := (Int.toNat (h16 78 6))) rfl ?_
    obtain ⟨h22, hc21, hf⟩ := pv_c1o hf
    refine EV.invV (As := [.inl (h16 78 6), .inl (h16 78 7), .inl (r19), .inl (h16 93 (Int.toNat (h16 78 6)))]) (st := []) (d1 := d - 1) (sh1 := pv_SC) (h1 := MC h22) (r1 := none) dX1_sendWaves_126 sc_78 (by decide) md_X1_breakCell ml_X1_164 im_X1_breakCell se_X1_breakCell (tX1_breakCell (by omega)  hc21) (by omega) rfl rfl (Nat.le_of_ble_eq_true rfl) ⟨[], (List.append_nil _).symm⟩ ?_
    refine EV.iconst dX1_sendWaves_129 (by decide) (by decide) ?_
    refine EV.aload_n dX1_sendWaves_130 rfl rfl ?_
    obtain ⟨g23, hf⟩ := pv_gd hf
    obtain ⟨x24, ex24, hf⟩ := pv_bo hf
    have mx24 : x24 ∈ pv_l2 := ex24 ▸ g23.2
    refine FV.getM dX1_sendWaves_131 sc_78 fl_1_28 rfl rfl g23.1 ex24 ?_
    refine FV.getF (v := x24 + 1) dX1_sendWaves_134 (sl2_0 _ mx24) fl_1_66 rfl (mu2_0 _ mx24 _) (hl2_0_1 _ mx24) ?_
    refine EV.iconst dX1_sendWaves_137 (by decide) (by decide) ?_
    refine FV.iald dX1_sendWaves_138 (sl2_1 _ mx24) (by decide) (by decide) (j := 2) rfl ?_
    refine EV.mmax dX1_sendWaves_139 ml_X1_99 w_maxs w_mai w_maxc (by omega) (Nat.le_of_ble_eq_true rfl) ?_
    obtain ⟨x25, ex25, hf⟩ := pv_bo hf
    refine FV.sti (L2 := [some (.inr (.inr (78))), none, none, some (.inl (x25)), none, none]) dX1_sendWaves_142 rfl (Nat.le_of_ble_eq_true rfl) ex25 rfl ?_
    refine EV.aload_n dX1_sendWaves_143 rfl rfl ?_
    refine FV.getI dX1_sendWaves_144 sc_78 fl_1_114 rfl ?_
    refine EV.iconst dX1_sendWaves_147 (by decide) (by decide) ?_
    refine EV.iadd dX1_sendWaves_148 ?_
    obtain ⟨x26, ex26, hf⟩ := pv_bo hf
    refine FV.stiw (L2 := [some (.inr (.inr (78))), none, none, some (.inl (x25)), some (.inl (x26)), none]) dX1_sendWaves_149 (Nat.le_of_ble_eq_true rfl) ex26 rfl ?_
    refine EV.aload_n dX1_sendWaves_151 rfl rfl ?_
    refine FV.getI dX1_sendWaves_152 sc_78 fl_1_114 rfl ?_
    refine EV.iload_n dX1_sendWaves_155 rfl rfl ?_
    refine EV.iadd dX1_sendWaves_156 ?_
    obtain ⟨x27, ex27, hf⟩ := pv_bo hf
    refine FV.stiw (L2 := [some (.inr (.inr (78))), none, none, some (.inl (x25)), some (.inl (x26)), some (.inl (x27))]) dX1_sendWaves_157 (Nat.le_of_ble_eq_true rfl) ex27 rfl ?_
    refine EV.weak (L2 := [some (.inr (.inr (78))), none, none, some (.inl (x25)), some (.inl (x26)), some (.inl (x27))]) (And.intro rfl (And.intro rfl (And.intro rfl (And.intro rfl trivial)))) ?_
    exact tX1_sendWaves_159 hd   _ _ _ _  _ hf

set_option maxHeartbeats 4000000 in
set_option maxRecDepth 20000 in
theorem tX1_sendWaves {d N : Nat} {a1 : Int} {a2 : Int} {h h' : pv_H} {r : Int} (hd : 5 ≤ d)  (hf : fX1_sendWaves N a1 a2 h = some (h', r)) : CALL yX1_sendWaves cX1_sendWaves 6 (some .int) d pv_SC (MC h) [.inr (.inr (78)), .inl (a1), .inl (a2)] pv_SC (MC h') (some (.inl r)) := by
  unfold fX1_sendWaves at hf
  refine EV.call (own := RX1) (ini := false) rfl rfl (fun q => by cases q) ⟨[], (List.append_nil _).symm⟩ (Nat.le_of_ble_eq_true rfl) ?_
  refine EV.eqL (L2 := [some (.inr (.inr (78))), some (.inl (a1)), some (.inl (a2)), none, none, none]) rfl ?_
  refine EV.aload_n dX1_sendWaves_0 rfl rfl ?_
  refine EV.iload_n dX1_sendWaves_1 rfl rfl ?_
  obtain ⟨g1, hf⟩ := pv_gd hf
  obtain ⟨h2, eh2, hf⟩ := pv_bo hf
  refine FV.putZ dX1_sendWaves_2 sc_78 fl_1_136 rfl rfl g1 eh2 ?_
  refine EV.aload_n dX1_sendWaves_5 rfl rfl ?_
  refine EV.iconst dX1_sendWaves_6 (by decide) (by decide) ?_
  obtain ⟨h3, eh3, hf⟩ := pv_bo hf
  refine FV.putI dX1_sendWaves_7 sc_78 fl_1_140 rfl rfl eh3 ?_
  refine EV.aload_n dX1_sendWaves_10 rfl rfl ?_
  refine EV.iconst dX1_sendWaves_11 (by decide) (by decide) ?_
  obtain ⟨h4, eh4, hf⟩ := pv_bo hf
  refine FV.putI dX1_sendWaves_12 sc_78 fl_1_143 rfl rfl eh4 ?_
  refine EV.aload_n dX1_sendWaves_15 rfl rfl ?_
  refine EV.aload_n dX1_sendWaves_16 rfl rfl ?_
  obtain ⟨g5, hf⟩ := pv_gd hf
  obtain ⟨x6, ex6, hf⟩ := pv_bo hf
  have mx6 : x6 ∈ pv_l2 := ex6 ▸ g5.2
  refine FV.getM dX1_sendWaves_17 sc_78 fl_1_28 rfl rfl g5.1 ex6 ?_
  refine EV.iload_n dX1_sendWaves_20 rfl rfl ?_
  refine EV.iconst dX1_sendWaves_21 (by decide) (by decide) ?_
  refine EV.icmp_ne (tgt := 38) dX1_sendWaves_22 (by decide) (fun q7 => ?_) (fun q7 => ?_)
  · have hf := pv_gn hf q7
    refine EV.iload_n dX1_sendWaves_38 rfl rfl ?_
    refine EV.weak (L2 := [some (.inr (.inr (78))), none, none, none, none, none]) (And.intro rfl trivial) ?_
    exact tX1_sendWaves_39 hd   (mx6) hf
  · have hf := pv_gp hf q7
    refine EV.aload_n dX1_sendWaves_25 rfl rfl ?_
    refine FV.getF (v := 79) dX1_sendWaves_26 sc_78 fl_1_12 rfl rfl hvc_78_0 ?_
    refine FV.getF (v := 80) dX1_sendWaves_29 sc_79 fl_1_124 rfl rfl hvc_79_1 ?_
    refine EV.bipush dX1_sendWaves_32 (by decide) (by decide) ?_
    refine FV.iald dX1_sendWaves_34 sc_80 (by decide) (by decide) (j := 6) rfl ?_
    refine EV.goto (tgt := 39) dX1_sendWaves_35 (by decide) ?_
    refine EV.weak (L2 := [some (.inr (.inr (78))), none, none, none, none, none]) (And.intro rfl trivial) ?_
    exact tX1_sendWaves_39 hd   (mx6) hf

noncomputable def fX1_breakRod (N : Nat) (a1 : Nat) (a2 : Nat) (a3 : Nat) (a4 : Int) (h : pv_H) : Option (pv_H × Int) :=
  pv_c1 (fX1_take N a1 a3 a4 h) fun h2 => pv_c1 (fX1_bendBy N a2 1 h2) fun h4 => pv_c2b (fX1_sendWaves N (-1) 0 h4) fun h6 r7 => some (h6, r7)

set_option maxHeartbeats 4000000 in
set_option maxRecDepth 20000 in
theorem tX1_breakRod {d N : Nat} {a1 : Nat} {a2 : Nat} {a3 : Nat} {a4 : Int} {h h' : pv_H} {r : Int} (hd : 6 ≤ d) (ma1 : a1 ∈ pv_l5) (ma2 : a2 ∈ pv_l0) (ma3 : a3 ∈ pv_l2) (hf : fX1_breakRod N a1 a2 a3 a4 h = some (h', r)) : CALL yX1_breakRod cX1_breakRod 5 (some .int) d pv_SC (MC h) [.inr (.inr (78)), .inr (.inr (a1)), .inr (.inr (a2)), .inr (.inr (a3)), .inl (a4)] pv_SC (MC h') (some (.inl r)) := by
  unfold fX1_breakRod at hf
  refine EV.call (own := RX1) (ini := false) rfl rfl (fun q => by cases q) ⟨[], (List.append_nil _).symm⟩ (Nat.le_of_ble_eq_true rfl) ?_
  refine EV.eqL (L2 := [some (.inr (.inr (78))), some (.inr (.inr (a1))), some (.inr (.inr (a2))), some (.inr (.inr (a3))), some (.inl (a4))]) rfl ?_
  refine EV.aload_n dX1_breakRod_0 rfl rfl ?_
  refine EV.aload_n dX1_breakRod_1 rfl rfl ?_
  refine EV.aload_n dX1_breakRod_2 rfl rfl ?_
  refine EV.iload dX1_breakRod_3 rfl ?_
  obtain ⟨h2, hc1, hf⟩ := pv_c1o hf
  refine EV.invV (As := [.inr (.inr (a1)), .inr (.inr (a3)), .inl (a4)]) (st := []) (d1 := d - 1) (sh1 := pv_SC) (h1 := MC h2) (r1 := none) dX1_breakRod_5 sc_78 (by decide) md_X1_take ml_X1_54 im_X1_take se_X1_take (tX1_take (by omega) (ma1) (ma3) hc1) (by omega) rfl rfl (Nat.le_of_ble_eq_true rfl) ⟨[], (List.append_nil _).symm⟩ ?_
  refine EV.aload_n dX1_breakRod_8 rfl rfl ?_
  refine EV.aload_n dX1_breakRod_9 rfl rfl ?_
  refine EV.iconst dX1_breakRod_10 (by decide) (by decide) ?_
  obtain ⟨h4, hc3, hf⟩ := pv_c1o hf
  refine EV.invV (As := [.inr (.inr (a2)), .inl (1)]) (st := []) (d1 := d - 1) (sh1 := pv_SC) (h1 := MC h4) (r1 := none) dX1_breakRod_11 sc_78 (by decide) md_X1_bendBy ml_X1_58 im_X1_bendBy se_X1_bendBy (tX1_bendBy (by omega) (ma2) hc3) (by omega) rfl rfl (Nat.le_of_ble_eq_true rfl) ⟨[], (List.append_nil _).symm⟩ ?_
  refine EV.aload_n dX1_breakRod_14 rfl rfl ?_
  refine EV.iconst dX1_breakRod_15 (by decide) (by decide) ?_
  refine EV.iconst dX1_breakRod_16 (by decide) (by decide) ?_
  obtain ⟨h6, r7, hc5, hf⟩ := pv_c2o hf
  refine EV.invV (As := [.inl (-1), .inl (0)]) (st := []) (d1 := d - 1) (sh1 := pv_SC) (h1 := MC h6) (r1 := (some (.inl r7))) dX1_breakRod_17 sc_78 (by decide) md_X1_sendWaves ml_X1_62 im_X1_sendWaves se_X1_sendWaves (tX1_sendWaves (by omega)  hc5) (by omega) rfl rfl (Nat.le_of_ble_eq_true rfl) ⟨[], (List.append_nil _).symm⟩ ?_
  refine EV.eqS (st2 := [.inl (r7)]) rfl ?_
  exact FV.iret dX1_breakRod_20 hf

noncomputable def fX1_aboveStrength_27 (N : Nat)   (s0 : Int) (h : pv_H) : Option (Int) :=
  some (s0)

noncomputable def fX1_aboveStrength (N : Nat)  (h : pv_H) : Option (Int) :=
  if (h 78 2) = (-1) then (fX1_aboveStrength_27 N   (-100000) h) else (if 0 ≤ h 78 2 ∧ h 78 2 < 60 then (fX1_aboveStrength_27 N   (pv_w ((h 78 1) - (h 92 (Int.toNat (h 78 2))))) h) else none)

set_option maxHeartbeats 4000000 in
set_option maxRecDepth 20000 in
theorem tX1_aboveStrength_27 {d N : Nat}   {s0 : Int} {h : pv_H} {r : Int} (hd : 1 ≤ d)    (hf : fX1_aboveStrength_27 N   s0 h = some r) : EV RX1 cX1_aboveStrength 1 (some .int) false d pv_SC (MC h) (some (.inl r)) 27 [none] [.inl (s0)] pv_SC (MC h) := by
  unfold fX1_aboveStrength_27 at hf
  exact FV.iretp dX1_aboveStrength_27 hf

set_option maxHeartbeats 4000000 in
set_option maxRecDepth 20000 in
theorem tX1_aboveStrength {d N : Nat}  {h : pv_H} {r : Int} (hd : 1 ≤ d)  (hf : fX1_aboveStrength N  h = some r) : CALL yX1_aboveStrength cX1_aboveStrength 1 (some .int) d pv_SC (MC h) [.inr (.inr (78))] pv_SC (MC h) (some (.inl r)) := by
  unfold fX1_aboveStrength at hf
  refine EV.call (own := RX1) (ini := false) rfl rfl (fun q => by cases q) ⟨[], (List.append_nil _).symm⟩ (Nat.le_of_ble_eq_true rfl) ?_
  refine EV.eqL (L2 := [some (.inr (.inr (78)))]) rfl ?_
  refine EV.aload_n dX1_aboveStrength_0 rfl rfl ?_
  refine FV.getI dX1_aboveStrength_1 sc_78 fl_1_143 rfl ?_
  refine EV.iconst dX1_aboveStrength_4 (by decide) (by decide) ?_
  refine EV.icmp_ne (tgt := 13) dX1_aboveStrength_5 (by decide) (fun q1 => ?_) (fun q1 => ?_)
  · have hf := pv_gn hf q1
    refine EV.aload_n dX1_aboveStrength_13 rfl rfl ?_
    refine FV.getI dX1_aboveStrength_14 sc_78 fl_1_140 rfl ?_
    refine EV.aload_n dX1_aboveStrength_17 rfl rfl ?_
    refine FV.getF (v := 92) dX1_aboveStrength_18 sc_78 fl_1_32 rfl rfl hvc_78_11 ?_
    refine EV.aload_n dX1_aboveStrength_21 rfl rfl ?_
    refine FV.getI dX1_aboveStrength_22 sc_78 fl_1_143 rfl ?_
    obtain ⟨g2, hf⟩ := pv_gd hf
    refine FV.iald dX1_aboveStrength_25 sc_92 g2.1 g2.2 (j := (Int.toNat (h 78 2))) rfl ?_
    refine EV.isub dX1_aboveStrength_26 ?_
    refine EV.weak (L2 := [none]) trivial ?_
    exact tX1_aboveStrength_27 hd    hf
  · have hf := pv_gp hf q1
    refine EV.ldc (n := -100000) dX1_aboveStrength_8 kc_X1_175 (by decide) (by decide) ?_
    refine EV.goto (tgt := 27) dX1_aboveStrength_10 (by decide) ?_
    refine EV.weak (L2 := [none]) trivial ?_
    exact tX1_aboveStrength_27 hd    hf
