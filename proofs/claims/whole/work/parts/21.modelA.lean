noncomputable def fX10_no (N : Nat) (a1 : Int) (h : pv_H) : Option (pv_H × Int) :=
  if 0 ≤ pv_w (-a1) ∧ pv_w (-a1) < 8 then (if 0 ≤ pv_w (-a1) ∧ pv_w (-a1) < 8 then (pv_b (pv_up h 1 (Int.toNat (pv_w (-a1))) (pv_w ((h 1 (Int.toNat (pv_w (-a1)))) + 1))) fun h3 => some (h3, a1)) else none) else none

set_option maxHeartbeats 4000000 in
set_option maxRecDepth 20000 in
theorem tX10_no {d N : Nat} {a1 : Int} {h h' : pv_H} {r : Int} (hd : 1 ≤ d)  (hf : fX10_no N a1 h = some (h', r)) : CALL yX10_no cX10_no 2 (some .int) d pv_SM (MM h) [.inr (.inr (0)), .inl (a1)] pv_SM (MM h') (some (.inl r)) := by
  unfold fX10_no at hf
  refine EV.call (own := RX10) (ini := false) rfl rfl (fun q => by cases q) ⟨[], (List.append_nil _).symm⟩ (Nat.le_of_ble_eq_true rfl) ?_
  refine EV.eqL (L2 := [some (.inr (.inr (0))), some (.inl (a1))]) rfl ?_
  refine EV.aload_n dX10_no_0 rfl rfl ?_
  refine FV.getF (v := 1) dX10_no_1 sm_0 fl_10_7 rfl rfl hvm_0_1 ?_
  refine EV.iload_n dX10_no_4 rfl rfl ?_
  refine EV.ineg dX10_no_5 ?_
  refine EV.dup2 dX10_no_6 rfl rfl ?_
  obtain ⟨g1, hf⟩ := pv_gd hf
  refine FV.iald dX10_no_7 sm_1 g1.1 g1.2 (j := (Int.toNat (pv_w (-a1)))) rfl ?_
  refine EV.iconst dX10_no_8 (by decide) (by decide) ?_
  refine EV.iadd dX10_no_9 ?_
  obtain ⟨g2, hf⟩ := pv_gd hf
  obtain ⟨h3, eh3, hf⟩ := pv_bo hf
  refine FV.iast dX10_no_10 sm_1 g2.1 g2.2 (j := (Int.toNat (pv_w (-a1)))) rfl eh3 ?_
  refine EV.iload_n dX10_no_11 rfl rfl ?_
  exact FV.iret dX10_no_12 hf

noncomputable def fX10_within_18 (N : Nat)  (a0 : Int) (a2 : Int) (a4 : Int) (s0 : Int) (h : pv_H) : Option (Int) :=
  if s0 = 0 ∨ s0 = 1 then (some (s0)) else none

noncomputable def fX10_within_17 (N : Nat)  (a0 : Int) (a2 : Int) (a4 : Int)  (h : pv_H) : Option (Int) :=
  fX10_within_18 N  a0 a2 a4 (0) h

noncomputable def fX10_within (N : Nat) (a0 : Int) (a2 : Int) (a4 : Int) (h : pv_H) : Option (Int) :=
  if (pv_cmp a0 a2) < 0 then (fX10_within_17 N  a0 a2 a4  h) else (if 0 < (pv_cmp a0 a4) then (fX10_within_17 N  a0 a2 a4  h) else (fX10_within_18 N  a0 a2 a4 (1) h))

set_option maxHeartbeats 4000000 in
set_option maxRecDepth 20000 in
theorem tX10_within_18 {d N : Nat}  {a0 : Int} {a2 : Int} {a4 : Int} {s0 : Int} {h : pv_H} {r : Int} (hd : 1 ≤ d)    (hf : fX10_within_18 N  a0 a2 a4 s0 h = some r) : EV RX10 cX10_within 6 (some .boolean) false d pv_SM (MM h) (some (.inl r)) 18 [none, none, none, none, none, none] [.inl (s0)] pv_SM (MM h) := by
  unfold fX10_within_18 at hf
  obtain ⟨g3, hf⟩ := pv_gd hf
  exact FV.zretp dX10_within_18 g3 hf

set_option maxHeartbeats 4000000 in
set_option maxRecDepth 20000 in
theorem tX10_within_17 {d N : Nat}  {a0 : Int} {a2 : Int} {a4 : Int}  {h : pv_H} {r : Int} (hd : 1 ≤ d)    (hf : fX10_within_17 N  a0 a2 a4  h = some r) : EV RX10 cX10_within 6 (some .boolean) false d pv_SM (MM h) (some (.inl r)) 17 [none, none, none, none, none, none] [] pv_SM (MM h) := by
  unfold fX10_within_17 at hf
  refine EV.iconst dX10_within_17 (by decide) (by decide) ?_
  refine EV.weak (L2 := [none, none, none, none, none, none]) trivial ?_
  exact tX10_within_18 hd    hf

set_option maxHeartbeats 4000000 in
set_option maxRecDepth 20000 in
theorem tX10_within {d N : Nat} {a0 : Int} {a2 : Int} {a4 : Int} {h : pv_H} {r : Int} (hd : 1 ≤ d)  (hf : fX10_within N a0 a2 a4 h = some r) : CALL yX10_within cX10_within 6 (some .boolean) d pv_SM (MM h) [.inr (.inl (a0)), .inr (.inl (a2)), .inr (.inl (a4))] pv_SM (MM h) (some (.inl r)) := by
  unfold fX10_within at hf
  refine EV.call (own := RX10) (ini := false) rfl rfl (fun q => by cases q) ⟨[], (List.append_nil _).symm⟩ (Nat.le_of_ble_eq_true rfl) ?_
  refine EV.eqL (L2 := [some (.inr (.inl (a0))), none, some (.inr (.inl (a2))), none, some (.inr (.inl (a4))), none]) rfl ?_
  refine EV.lload_n dX10_within_0 rfl rfl ?_
  refine EV.lload_n dX10_within_1 rfl rfl ?_
  refine EV.lcmp dX10_within_2 ?_
  refine EV.if_lt (tgt := 17) dX10_within_3 (by decide) (fun q1 => ?_) (fun q1 => ?_)
  · have hf := pv_gp hf q1
    refine EV.weak (L2 := [none, none, none, none, none, none]) trivial ?_
    exact tX10_within_17 hd    hf
  · have hf := pv_gn hf q1
    refine EV.lload_n dX10_within_6 rfl rfl ?_
    refine EV.lload dX10_within_7 rfl ?_
    refine EV.lcmp dX10_within_9 ?_
    refine EV.if_gt (tgt := 17) dX10_within_10 (by decide) (fun q2 => ?_) (fun q2 => ?_)
    · have hf := pv_gp hf q2
      refine EV.weak (L2 := [none, none, none, none, none, none]) trivial ?_
      exact tX10_within_17 hd    hf
    · have hf := pv_gn hf q2
      refine EV.iconst dX10_within_13 (by decide) (by decide) ?_
      refine EV.goto (tgt := 18) dX10_within_14 (by decide) ?_
      refine EV.weak (L2 := [none, none, none, none, none, none]) trivial ?_
      exact tX10_within_18 hd    hf

noncomputable def fX10_feed_81 (N : Nat) (k28 : Int → pv_H → Option (pv_H × Int)) (a1 : Int) (a2 : Int) (a3 : Int) (a4 : Int) (a5 : Int) (v6 : Int) (s0 : Int) (h : pv_H) : Option (pv_H × Int) :=
  if 0 ≤ h 0 6 ∧ h 0 6 < 400 then (pv_b (pv_up h 4 (Int.toNat (h 0 6)) (pv_and (pv_shr s0 (pv_w (24 - (pv_w (8 * (pv_w (Int.tmod v6 4))))))) 255)) fun h12 => pv_b (pv_up h12 0 6 (pv_w ((h12 0 6) + 1))) fun h13 => pv_b (pv_w (v6 + 1)) fun x14 => k28 (x14) h13) else none

noncomputable def fX10_feed_28 (N : Nat)  (a1 : Int) (a2 : Int) (a3 : Int) (a4 : Int) (a5 : Int) : Nat → Int → pv_H → Option (pv_H × Int)
  | 0, _, _ => none
  | n + 1, v6, h => if 20 ≤ v6 then (some (h, h 0 6)) else (if 4 ≤ v6 then (if 8 ≤ v6 then (if 12 ≤ v6 then (if 16 ≤ v6 then (fX10_feed_81 N (fun v6_ hh => fX10_feed_28 N  a1 a2 a3 a4 a5 n v6_ hh) a1 a2 a3 a4 a5 (v6) (a5) h) else (fX10_feed_81 N (fun v6_ hh => fX10_feed_28 N  a1 a2 a3 a4 a5 n v6_ hh) a1 a2 a3 a4 a5 (v6) (a4) h)) else (fX10_feed_81 N (fun v6_ hh => fX10_feed_28 N  a1 a2 a3 a4 a5 n v6_ hh) a1 a2 a3 a4 a5 (v6) (a3) h)) else (fX10_feed_81 N (fun v6_ hh => fX10_feed_28 N  a1 a2 a3 a4 a5 n v6_ hh) a1 a2 a3 a4 a5 (v6) (a2) h)) else (fX10_feed_81 N (fun v6_ hh => fX10_feed_28 N  a1 a2 a3 a4 a5 n v6_ hh) a1 a2 a3 a4 a5 (v6) (a1) h))

noncomputable def fX10_feed (N : Nat) (a1 : Int) (a2 : Int) (a3 : Int) (a4 : Int) (a5 : Int) (h : pv_H) : Option (pv_H × Int) :=
  pv_b (pv_up h 0 0 0) fun h1 => if (pv_w ((h1 0 6) + 20)) ≤ 400 then (fX10_feed_28 N  a1 a2 a3 a4 a5 N (0) h1) else (pv_c2b (fX10_no N (-5) h1) fun h4 r5 => some (h4, r5))

set_option maxHeartbeats 4000000 in
set_option maxRecDepth 20000 in
theorem tX10_feed_81 {d N : Nat} {k28 : Int → pv_H → Option (pv_H × Int)} {a1 : Int} {a2 : Int} {a3 : Int} {a4 : Int} {a5 : Int} {v6 : Int} {s0 : Int} {h h' : pv_H} {r : Int} (hd : 2 ≤ d) (hk28 : ∀ (v6 : Int)  (hh : pv_H), k28 v6 hh = some (h', r) → EV RX10 cX10_feed 8 (some .int) false d pv_SM (MM h') (some (.inl r)) 28 [some (.inr (.inr (0))), some (.inl (a1)), some (.inl (a2)), some (.inl (a3)), some (.inl (a4)), some (.inl (a5)), some (.inl (v6)), none] [] pv_SM (MM hh))   (hf : fX10_feed_81 N k28 a1 a2 a3 a4 a5 v6 s0 h = some (h', r)) : EV RX10 cX10_feed 8 (some .int) false d pv_SM (MM h') (some (.inl r)) 81 [some (.inr (.inr (0))), some (.inl (a1)), some (.inl (a2)), some (.inl (a3)), some (.inl (a4)), some (.inl (a5)), some (.inl (v6)), none] [.inl (s0)] pv_SM (MM h) := by
  unfold fX10_feed_81 at hf
  refine FV.stiw (L2 := [some (.inr (.inr (0))), some (.inl (a1)), some (.inl (a2)), some (.inl (a3)), some (.inl (a4)), some (.inl (a5)), some (.inl (v6)), some (.inl (s0))]) dX10_feed_81 (Nat.le_of_ble_eq_true rfl) rfl rfl ?_
  refine EV.aload_n dX10_feed_83 rfl rfl ?_
  refine FV.getF (v := 4) dX10_feed_84 sm_0 fl_10_24 rfl rfl hvm_0_4 ?_
  refine EV.aload_n dX10_feed_87 rfl rfl ?_
  refine FV.getI dX10_feed_88 sm_0 fl_10_128 rfl ?_
  refine EV.iload dX10_feed_91 rfl ?_
  refine EV.bipush dX10_feed_93 (by decide) (by decide) ?_
  refine EV.bipush dX10_feed_95 (by decide) (by decide) ?_
  refine EV.iload dX10_feed_97 rfl ?_
  refine EV.iconst dX10_feed_99 (by decide) (by decide) ?_
  refine EV.irem dX10_feed_100 (by decide) ?_
  refine EV.imul dX10_feed_101 ?_
  refine EV.isub dX10_feed_102 ?_
  refine EV.ishr dX10_feed_103 ?_
  refine EV.sipush dX10_feed_104 (by decide) (by decide) ?_
  refine EV.iand dX10_feed_107 ?_
  obtain ⟨g11, hf⟩ := pv_gd hf
  obtain ⟨h12, eh12, hf⟩ := pv_bo hf
  refine FV.iast dX10_feed_108 sm_4 g11.1 g11.2 (j := (Int.toNat (h 0 6))) rfl eh12 ?_
  refine EV.aload_n dX10_feed_109 rfl rfl ?_
  refine EV.dup dX10_feed_110 rfl ?_
  refine FV.getI dX10_feed_111 sm_0 fl_10_128 rfl ?_
  refine EV.iconst dX10_feed_114 (by decide) (by decide) ?_
  refine EV.iadd dX10_feed_115 ?_
  obtain ⟨h13, eh13, hf⟩ := pv_bo hf
  refine FV.putI dX10_feed_116 sm_0 fl_10_128 rfl rfl eh13 ?_
  obtain ⟨x14, ex14, hf⟩ := pv_bo hf
  refine FV.inc (L2 := [some (.inr (.inr (0))), some (.inl (a1)), some (.inl (a2)), some (.inl (a3)), some (.inl (a4)), some (.inl (a5)), some (.inl (x14)), some (.inl (s0))]) dX10_feed_119 rfl (Nat.le_of_ble_eq_true rfl) ex14 rfl ?_
  refine EV.goto (tgt := 28) dX10_feed_122 (by decide) ?_
  refine EV.weak (L2 := [some (.inr (.inr (0))), some (.inl (a1)), some (.inl (a2)), some (.inl (a3)), some (.inl (a4)), some (.inl (a5)), some (.inl (x14)), none]) (And.intro rfl (And.intro rfl (And.intro rfl (And.intro rfl (And.intro rfl (And.intro rfl (And.intro rfl trivial))))))) ?_
  exact hk28 _  _ hf

set_option maxHeartbeats 4000000 in
set_option maxRecDepth 20000 in
theorem tX10_feed_28 {d N : Nat}  {a1 : Int} {a2 : Int} {a3 : Int} {a4 : Int} {a5 : Int} {h' : pv_H} {r : Int} (hd : 2 ≤ d)   : ∀ (n : Nat) (v6 : Int)  (h : pv_H), fX10_feed_28 N  a1 a2 a3 a4 a5 n v6 h = some (h', r) → EV RX10 cX10_feed 8 (some .int) false d pv_SM (MM h') (some (.inl r)) 28 [some (.inr (.inr (0))), some (.inl (a1)), some (.inl (a2)), some (.inl (a3)), some (.inl (a4)), some (.inl (a5)), some (.inl (v6)), none] [] pv_SM (MM h) := by
  intro n
  induction n with
  | zero =>
    intro v6  h hf
    cases hf
  | succ n ih =>
    intro v6  h hf
    rw [fX10_feed_28] at hf
    refine EV.iload dX10_feed_28 rfl ?_
    refine EV.bipush dX10_feed_30 (by decide) (by decide) ?_
    refine EV.icmp_ge (tgt := 125) dX10_feed_32 (by decide) (fun q6 => ?_) (fun q6 => ?_)
    · have hf := pv_gp hf q6
      refine EV.aload_n dX10_feed_125 rfl rfl ?_
      refine FV.getI dX10_feed_126 sm_0 fl_10_128 rfl ?_
      exact FV.iret dX10_feed_129 hf
    · have hf := pv_gn hf q6
      refine EV.iload dX10_feed_35 rfl ?_
      refine EV.iconst dX10_feed_37 (by decide) (by decide) ?_
      refine EV.icmp_ge (tgt := 45) dX10_feed_38 (by decide) (fun q7 => ?_) (fun q7 => ?_)
      · have hf := pv_gp hf q7
        refine EV.iload dX10_feed_45 rfl ?_
        refine EV.bipush dX10_feed_47 (by decide) (by decide) ?_
        refine EV.icmp_ge (tgt := 56) dX10_feed_49 (by decide) (fun q8 => ?_) (fun q8 => ?_)
        · have hf := pv_gp hf q8
          refine EV.iload dX10_feed_56 rfl ?_
          refine EV.bipush dX10_feed_58 (by decide) (by decide) ?_
          refine EV.icmp_ge (tgt := 67) dX10_feed_60 (by decide) (fun q9 => ?_) (fun q9 => ?_)
          · have hf := pv_gp hf q9
            refine EV.iload dX10_feed_67 rfl ?_
            refine EV.bipush dX10_feed_69 (by decide) (by decide) ?_
            refine EV.icmp_ge (tgt := 79) dX10_feed_71 (by decide) (fun q10 => ?_) (fun q10 => ?_)
            · have hf := pv_gp hf q10
              refine EV.iload dX10_feed_79 rfl ?_
              refine EV.weak (L2 := [some (.inr (.inr (0))), some (.inl (a1)), some (.inl (a2)), some (.inl (a3)), some (.inl (a4)), some (.inl (a5)), some (.inl (v6)), none]) (And.intro rfl (And.intro rfl (And.intro rfl (And.intro rfl (And.intro rfl (And.intro rfl (And.intro rfl trivial))))))) ?_
              exact tX10_feed_81 hd (ih)   hf
            · have hf := pv_gn hf q10
              refine EV.iload dX10_feed_74 rfl ?_
              refine EV.goto (tgt := 81) dX10_feed_76 (by decide) ?_
              refine EV.weak (L2 := [some (.inr (.inr (0))), some (.inl (a1)), some (.inl (a2)), some (.inl (a3)), some (.inl (a4)), some (.inl (a5)), some (.inl (v6)), none]) (And.intro rfl (And.intro rfl (And.intro rfl (And.intro rfl (And.intro rfl (And.intro rfl (And.intro rfl trivial))))))) ?_
              exact tX10_feed_81 hd (ih)   hf
          · have hf := pv_gn hf q9
            refine EV.iload_n dX10_feed_63 rfl rfl ?_
            refine EV.goto (tgt := 81) dX10_feed_64 (by decide) ?_
            refine EV.weak (L2 := [some (.inr (.inr (0))), some (.inl (a1)), some (.inl (a2)), some (.inl (a3)), some (.inl (a4)), some (.inl (a5)), some (.inl (v6)), none]) (And.intro rfl (And.intro rfl (And.intro rfl (And.intro rfl (And.intro rfl (And.intro rfl (And.intro rfl trivial))))))) ?_
            exact tX10_feed_81 hd (ih)   hf
        · have hf := pv_gn hf q8
          refine EV.iload_n dX10_feed_52 rfl rfl ?_
          refine EV.goto (tgt := 81) dX10_feed_53 (by decide) ?_
          refine EV.weak (L2 := [some (.inr (.inr (0))), some (.inl (a1)), some (.inl (a2)), some (.inl (a3)), some (.inl (a4)), some (.inl (a5)), some (.inl (v6)), none]) (And.intro rfl (And.intro rfl (And.intro rfl (And.intro rfl (And.intro rfl (And.intro rfl (And.intro rfl trivial))))))) ?_
          exact tX10_feed_81 hd (ih)   hf
      · have hf := pv_gn hf q7
        refine EV.iload_n dX10_feed_41 rfl rfl ?_
        refine EV.goto (tgt := 81) dX10_feed_42 (by decide) ?_
        refine EV.weak (L2 := [some (.inr (.inr (0))), some (.inl (a1)), some (.inl (a2)), some (.inl (a3)), some (.inl (a4)), some (.inl (a5)), some (.inl (v6)), none]) (And.intro rfl (And.intro rfl (And.intro rfl (And.intro rfl (And.intro rfl (And.intro rfl (And.intro rfl trivial))))))) ?_
        exact tX10_feed_81 hd (ih)   hf

set_option maxHeartbeats 4000000 in
set_option maxRecDepth 20000 in
theorem tX10_feed {d N : Nat} {a1 : Int} {a2 : Int} {a3 : Int} {a4 : Int} {a5 : Int} {h h' : pv_H} {r : Int} (hd : 2 ≤ d)  (hf : fX10_feed N a1 a2 a3 a4 a5 h = some (h', r)) : CALL yX10_feed cX10_feed 8 (some .int) d pv_SM (MM h) [.inr (.inr (0)), .inl (a1), .inl (a2), .inl (a3), .inl (a4), .inl (a5)] pv_SM (MM h') (some (.inl r)) := by
  unfold fX10_feed at hf
  refine EV.call (own := RX10) (ini := false) rfl rfl (fun q => by cases q) ⟨[], (List.append_nil _).symm⟩ (Nat.le_of_ble_eq_true rfl) ?_
  refine EV.eqL (L2 := [some (.inr (.inr (0))), some (.inl (a1)), some (.inl (a2)), some (.inl (a3)), some (.inl (a4)), some (.inl (a5)), none, none]) rfl ?_
  refine EV.aload_n dX10_feed_0 rfl rfl ?_
  refine EV.iconst dX10_feed_1 (by decide) (by decide) ?_
  obtain ⟨h1, eh1, hf⟩ := pv_bo hf
  refine FV.putI dX10_feed_2 sm_0 fl_10_1 rfl rfl eh1 ?_
  refine EV.aload_n dX10_feed_5 rfl rfl ?_
  refine FV.getI dX10_feed_6 sm_0 fl_10_128 rfl ?_
  refine EV.bipush dX10_feed_9 (by decide) (by decide) ?_
  refine EV.iadd dX10_feed_11 ?_
  refine EV.sipush dX10_feed_12 (by decide) (by decide) ?_
  refine EV.icmp_le (tgt := 25) dX10_feed_15 (by decide) (fun q2 => ?_) (fun q2 => ?_)
  · have hf := pv_gp hf q2
    refine EV.iconst dX10_feed_25 (by decide) (by decide) ?_
    refine FV.stiw (L2 := [some (.inr (.inr (0))), some (.inl (a1)), some (.inl (a2)), some (.inl (a3)), some (.inl (a4)), some (.inl (a5)), some (.inl (0)), none]) dX10_feed_26 (Nat.le_of_ble_eq_true rfl) rfl rfl ?_
    refine EV.weak (L2 := [some (.inr (.inr (0))), some (.inl (a1)), some (.inl (a2)), some (.inl (a3)), some (.inl (a4)), some (.inl (a5)), some (.inl (0)), none]) (And.intro rfl (And.intro rfl (And.intro rfl (And.intro rfl (And.intro rfl (And.intro rfl (And.intro rfl trivial))))))) ?_
    exact tX10_feed_28 hd   _ _  _ hf
  · have hf := pv_gn hf q2
    refine EV.aload_n dX10_feed_18 rfl rfl ?_
    refine EV.bipush dX10_feed_19 (by decide) (by decide) ?_
    obtain ⟨h4, r5, hc3, hf⟩ := pv_c2o hf
    refine EV.invV (As := [.inl (-5)]) (st := []) (d1 := d - 1) (sh1 := pv_SM) (h1 := MM h4) (r1 := (some (.inl r5))) dX10_feed_21 sm_0 (by decide) md_X10_no ml_X10_131 im_X10_no se_X10_no (tX10_no (by omega)  hc3) (by omega) rfl rfl (Nat.le_of_ble_eq_true rfl) ⟨[], (List.append_nil _).symm⟩ ?_
    refine EV.eqS (st2 := [.inl (r5)]) rfl ?_
    exact FV.iret dX10_feed_24 hf

noncomputable def fX10_see_18 (N : Nat)  (a1 : Int) (s0 : Int) (h : pv_H) : Option (Int) :=
  some (s0)

noncomputable def fX10_see (N : Nat) (a1 : Int) (h : pv_H) : Option (Int) :=
  if (h 0 9) ≤ a1 then (fX10_see_18 N  a1 (-1) h) else (if 0 ≤ a1 ∧ a1 < 400 then (fX10_see_18 N  a1 (h 4 (Int.toNat (a1))) h) else none)

set_option maxHeartbeats 4000000 in
set_option maxRecDepth 20000 in
theorem tX10_see_18 {d N : Nat}  {a1 : Int} {s0 : Int} {h : pv_H} {r : Int} (hd : 1 ≤ d)    (hf : fX10_see_18 N  a1 s0 h = some r) : EV RX10 cX10_see 2 (some .int) false d pv_SM (MM h) (some (.inl r)) 18 [none, none] [.inl (s0)] pv_SM (MM h) := by
  unfold fX10_see_18 at hf
  exact FV.iretp dX10_see_18 hf

set_option maxHeartbeats 4000000 in
set_option maxRecDepth 20000 in
theorem tX10_see {d N : Nat} {a1 : Int} {h : pv_H} {r : Int} (hd : 1 ≤ d)  (hf : fX10_see N a1 h = some r) : CALL yX10_see cX10_see 2 (some .int) d pv_SM (MM h) [.inr (.inr (0)), .inl (a1)] pv_SM (MM h) (some (.inl r)) := by
  unfold fX10_see at hf
  refine EV.call (own := RX10) (ini := false) rfl rfl (fun q => by cases q) ⟨[], (List.append_nil _).symm⟩ (Nat.le_of_ble_eq_true rfl) ?_
  refine EV.eqL (L2 := [some (.inr (.inr (0))), some (.inl (a1))]) rfl ?_
  refine EV.iload_n dX10_see_0 rfl rfl ?_
  refine EV.aload_n dX10_see_1 rfl rfl ?_
  refine FV.getI dX10_see_2 sm_0 fl_10_135 rfl ?_
  refine EV.icmp_ge (tgt := 17) dX10_see_5 (by decide) (fun q1 => ?_) (fun q1 => ?_)
  · have hf := pv_gp hf q1
    refine EV.iconst dX10_see_17 (by decide) (by decide) ?_
    refine EV.weak (L2 := [none, none]) trivial ?_
    exact tX10_see_18 hd    hf
  · have hf := pv_gn hf q1
    refine EV.aload_n dX10_see_8 rfl rfl ?_
    refine FV.getF (v := 4) dX10_see_9 sm_0 fl_10_24 rfl rfl hvm_0_4 ?_
    refine EV.iload_n dX10_see_12 rfl rfl ?_
    obtain ⟨g2, hf⟩ := pv_gd hf
    refine FV.iald dX10_see_13 sm_4 g2.1 g2.2 (j := (Int.toNat (a1))) rfl ?_
    refine EV.goto (tgt := 18) dX10_see_14 (by decide) ?_
    refine EV.weak (L2 := [none, none]) trivial ?_
    exact tX10_see_18 hd    hf

noncomputable def fX10_isSmall_17 (N : Nat)  (a0 : Int) (s0 : Int) (h : pv_H) : Option (Int) :=
  if s0 = 0 ∨ s0 = 1 then (some (s0)) else none

noncomputable def fX10_isSmall_16 (N : Nat)  (a0 : Int)  (h : pv_H) : Option (Int) :=
  fX10_isSmall_17 N  a0 (0) h

noncomputable def fX10_isSmall (N : Nat) (a0 : Int) (h : pv_H) : Option (Int) :=
  if a0 < 97 then (fX10_isSmall_16 N  a0  h) else (if 122 < a0 then (fX10_isSmall_16 N  a0  h) else (fX10_isSmall_17 N  a0 (1) h))

set_option maxHeartbeats 4000000 in
set_option maxRecDepth 20000 in
theorem tX10_isSmall_17 {d N : Nat}  {a0 : Int} {s0 : Int} {h : pv_H} {r : Int} (hd : 1 ≤ d)    (hf : fX10_isSmall_17 N  a0 s0 h = some r) : EV RX10 cX10_isSmall 1 (some .boolean) false d pv_SM (MM h) (some (.inl r)) 17 [none] [.inl (s0)] pv_SM (MM h) := by
  unfold fX10_isSmall_17 at hf
  obtain ⟨g3, hf⟩ := pv_gd hf
  exact FV.zretp dX10_isSmall_17 g3 hf

set_option maxHeartbeats 4000000 in
set_option maxRecDepth 20000 in
theorem tX10_isSmall_16 {d N : Nat}  {a0 : Int}  {h : pv_H} {r : Int} (hd : 1 ≤ d)    (hf : fX10_isSmall_16 N  a0  h = some r) : EV RX10 cX10_isSmall 1 (some .boolean) false d pv_SM (MM h) (some (.inl r)) 16 [none] [] pv_SM (MM h) := by
  unfold fX10_isSmall_16 at hf
  refine EV.iconst dX10_isSmall_16 (by decide) (by decide) ?_
  refine EV.weak (L2 := [none]) trivial ?_
  exact tX10_isSmall_17 hd    hf

set_option maxHeartbeats 4000000 in
set_option maxRecDepth 20000 in
theorem tX10_isSmall {d N : Nat} {a0 : Int} {h : pv_H} {r : Int} (hd : 1 ≤ d)  (hf : fX10_isSmall N a0 h = some r) : CALL yX10_isSmall cX10_isSmall 1 (some .boolean) d pv_SM (MM h) [.inl (a0)] pv_SM (MM h) (some (.inl r)) := by
  unfold fX10_isSmall at hf
  refine EV.call (own := RX10) (ini := false) rfl rfl (fun q => by cases q) ⟨[], (List.append_nil _).symm⟩ (Nat.le_of_ble_eq_true rfl) ?_
  refine EV.eqL (L2 := [some (.inl (a0))]) rfl ?_
  refine EV.iload_n dX10_isSmall_0 rfl rfl ?_
  refine EV.bipush dX10_isSmall_1 (by decide) (by decide) ?_
  refine EV.icmp_lt (tgt := 16) dX10_isSmall_3 (by decide) (fun q1 => ?_) (fun q1 => ?_)
  · have hf := pv_gp hf q1
    refine EV.weak (L2 := [none]) trivial ?_
    exact tX10_isSmall_16 hd    hf
  · have hf := pv_gn hf q1
    refine EV.iload_n dX10_isSmall_6 rfl rfl ?_
    refine EV.bipush dX10_isSmall_7 (by decide) (by decide) ?_
    refine EV.icmp_gt (tgt := 16) dX10_isSmall_9 (by decide) (fun q2 => ?_) (fun q2 => ?_)
    · have hf := pv_gp hf q2
      refine EV.weak (L2 := [none]) trivial ?_
      exact tX10_isSmall_16 hd    hf
    · have hf := pv_gn hf q2
      refine EV.iconst dX10_isSmall_12 (by decide) (by decide) ?_
      refine EV.goto (tgt := 17) dX10_isSmall_13 (by decide) ?_
      refine EV.weak (L2 := [none]) trivial ?_
      exact tX10_isSmall_17 hd    hf

noncomputable def fX10_isDigit_17 (N : Nat)  (a0 : Int) (s0 : Int) (h : pv_H) : Option (Int) :=
  if s0 = 0 ∨ s0 = 1 then (some (s0)) else none

noncomputable def fX10_isDigit_16 (N : Nat)  (a0 : Int)  (h : pv_H) : Option (Int) :=
  fX10_isDigit_17 N  a0 (0) h

noncomputable def fX10_isDigit (N : Nat) (a0 : Int) (h : pv_H) : Option (Int) :=
  if a0 < 48 then (fX10_isDigit_16 N  a0  h) else (if 57 < a0 then (fX10_isDigit_16 N  a0  h) else (fX10_isDigit_17 N  a0 (1) h))

set_option maxHeartbeats 4000000 in
set_option maxRecDepth 20000 in
theorem tX10_isDigit_17 {d N : Nat}  {a0 : Int} {s0 : Int} {h : pv_H} {r : Int} (hd : 1 ≤ d)    (hf : fX10_isDigit_17 N  a0 s0 h = some r) : EV RX10 cX10_isDigit 1 (some .boolean) false d pv_SM (MM h) (some (.inl r)) 17 [none] [.inl (s0)] pv_SM (MM h) := by
  unfold fX10_isDigit_17 at hf
  obtain ⟨g3, hf⟩ := pv_gd hf
  exact FV.zretp dX10_isDigit_17 g3 hf

set_option maxHeartbeats 4000000 in
set_option maxRecDepth 20000 in
theorem tX10_isDigit_16 {d N : Nat}  {a0 : Int}  {h : pv_H} {r : Int} (hd : 1 ≤ d)    (hf : fX10_isDigit_16 N  a0  h = some r) : EV RX10 cX10_isDigit 1 (some .boolean) false d pv_SM (MM h) (some (.inl r)) 16 [none] [] pv_SM (MM h) := by
  unfold fX10_isDigit_16 at hf
  refine EV.iconst dX10_isDigit_16 (by decide) (by decide) ?_
  refine EV.weak (L2 := [none]) trivial ?_
  exact tX10_isDigit_17 hd    hf

set_option maxHeartbeats 4000000 in
set_option maxRecDepth 20000 in
theorem tX10_isDigit {d N : Nat} {a0 : Int} {h : pv_H} {r : Int} (hd : 1 ≤ d)  (hf : fX10_isDigit N a0 h = some r) : CALL yX10_isDigit cX10_isDigit 1 (some .boolean) d pv_SM (MM h) [.inl (a0)] pv_SM (MM h) (some (.inl r)) := by
  unfold fX10_isDigit at hf
  refine EV.call (own := RX10) (ini := false) rfl rfl (fun q => by cases q) ⟨[], (List.append_nil _).symm⟩ (Nat.le_of_ble_eq_true rfl) ?_
  refine EV.eqL (L2 := [some (.inl (a0))]) rfl ?_
  refine EV.iload_n dX10_isDigit_0 rfl rfl ?_
  refine EV.bipush dX10_isDigit_1 (by decide) (by decide) ?_
  refine EV.icmp_lt (tgt := 16) dX10_isDigit_3 (by decide) (fun q1 => ?_) (fun q1 => ?_)
  · have hf := pv_gp hf q1
    refine EV.weak (L2 := [none]) trivial ?_
    exact tX10_isDigit_16 hd    hf
  · have hf := pv_gn hf q1
    refine EV.iload_n dX10_isDigit_6 rfl rfl ?_
    refine EV.bipush dX10_isDigit_7 (by decide) (by decide) ?_
    refine EV.icmp_gt (tgt := 16) dX10_isDigit_9 (by decide) (fun q2 => ?_) (fun q2 => ?_)
    · have hf := pv_gp hf q2
      refine EV.weak (L2 := [none]) trivial ?_
      exact tX10_isDigit_16 hd    hf
    · have hf := pv_gn hf q2
      refine EV.iconst dX10_isDigit_12 (by decide) (by decide) ?_
      refine EV.goto (tgt := 17) dX10_isDigit_13 (by decide) ?_
      refine EV.weak (L2 := [none]) trivial ?_
      exact tX10_isDigit_17 hd    hf

noncomputable def fX10_keyAt_97 (N : Nat) (k4 : Int → Int → pv_H → Option (Int))  : Nat → Int → Int → pv_H → Option (Int)
  | 0, _, _, _ => none
  | n + 1, v1, v2, h => if 0 ≤ v2 ∧ v2 < 205 then (if ((pv_tx 1).getD (Int.toNat v2) 0) = 32 then (pv_b (pv_w (v2 + 1)) fun x14 => pv_b (pv_w (v1 + 1)) fun x15 => k4 (x15) (x14) h) else (pv_b (pv_w (v2 + 1)) fun x16 => fX10_keyAt_97 N k4  n (v1) (x16) h)) else none

noncomputable def fX10_keyAt_69 (N : Nat) (k4 : Int → Int → pv_H → Option (Int))  (v1 : Int) (v2 : Int) (v3 : Int) (h : pv_H) : Option (Int) :=
  if 0 ≤ pv_w (v2 + v3) ∧ pv_w (v2 + v3) < 205 then (if ((pv_tx 1).getD (Int.toNat (pv_w (v2 + v3))) 0) = 32 then (if (pv_w ((h 0 7) + v3)) = (h 0 8) then (some (v1)) else (fX10_keyAt_97 N (k4)  N (v1) (v2) h)) else (fX10_keyAt_97 N (k4)  N (v1) (v2) h)) else none

noncomputable def fX10_keyAt_15 (N : Nat) (k4 : Int → Int → pv_H → Option (Int))  : Nat → Int → Int → Int → pv_H → Option (Int)
  | 0, _, _, _, _ => none
  | n + 1, v1, v2, v3, h => if 0 ≤ pv_w (v2 + v3) ∧ pv_w (v2 + v3) < 205 then (if ((pv_tx 1).getD (Int.toNat (pv_w (v2 + v3))) 0) = 32 then (fX10_keyAt_69 N (k4)  (v1) (v2) (v3) h) else (if (h 0 8) ≤ (pv_w ((h 0 7) + v3)) then (fX10_keyAt_69 N (k4)  (v1) (v2) (v3) h) else (if 0 ≤ pv_w ((h 0 7) + v3) ∧ pv_w ((h 0 7) + v3) < 400 then (if 0 ≤ pv_w (v2 + v3) ∧ pv_w (v2 + v3) < 205 then (if (h 4 (Int.toNat (pv_w ((h 0 7) + v3)))) = ((pv_tx 1).getD (Int.toNat (pv_w (v2 + v3))) 0) then (pv_b (pv_w (v3 + 1)) fun x8 => fX10_keyAt_15 N k4  n (v1) (v2) (x8) h) else (fX10_keyAt_69 N (k4)  (v1) (v2) (v3) h)) else none) else none))) else none

noncomputable def fX10_keyAt_4 (N : Nat)   : Nat → Int → Int → pv_H → Option (Int)
  | 0, _, _, _ => none
  | n + 1, v1, v2, h => if 205 ≤ v2 then (some (37)) else (fX10_keyAt_15 N (fun v1_ v2_ hh => fX10_keyAt_4 N   n v1_ v2_ hh)  N (v1) (v2) (0) h)

noncomputable def fX10_keyAt (N : Nat)  (h : pv_H) : Option (Int) :=
  fX10_keyAt_4 N   N (0) (1) h

set_option maxHeartbeats 4000000 in
set_option maxRecDepth 20000 in
theorem tX10_keyAt_97 {d N : Nat} {k4 : Int → Int → pv_H → Option (Int)}  {h : pv_H} {r : Int} (hd : 6 ≤ d) (hk4 : ∀ (v1 : Int) (v2 : Int) , k4 v1 v2 h = some r → EV RX10 cX10_keyAt 4 (some .int) false d pv_SM (MM h) (some (.inl r)) 4 [some (.inr (.inr (0))), some (.inl (v1)), some (.inl (v2)), none] [] pv_SM (MM h))  : ∀ (n : Nat) (v1 : Int) (v2 : Int) , fX10_keyAt_97 N k4  n v1 v2 h = some r → EV RX10 cX10_keyAt 4 (some .int) false d pv_SM (MM h) (some (.inl r)) 97 [some (.inr (.inr (0))), some (.inl (v1)), some (.inl (v2)), none] [] pv_SM (MM h) := by
  intro n
  induction n with
  | zero =>
    intro v1 v2   hf
    cases hf
  | succ n ih =>
    intro v1 v2   hf
    rw [fX10_keyAt_97] at hf
    refine EV.ldcS1 rfl dX10_keyAt_97 ?_
    refine EV.iload_n dX10_keyAt_99 rfl rfl ?_
    obtain ⟨g12, hf⟩ := pv_gd hf
    refine FV.schar1 dX10_keyAt_100 ml_X10_146 (by omega) (Nat.le_of_ble_eq_true rfl) g12.1 g12.2 ?_
    refine EV.bipush dX10_keyAt_103 (by decide) (by decide) ?_
    refine EV.icmp_eq (tgt := 114) dX10_keyAt_105 (by decide) (fun q13 => ?_) (fun q13 => ?_)
    · have hf := pv_gp hf q13
      obtain ⟨x14, ex14, hf⟩ := pv_bo hf
      refine FV.inc (L2 := [some (.inr (.inr (0))), some (.inl (v1)), some (.inl (x14)), none]) dX10_keyAt_114 rfl (Nat.le_of_ble_eq_true rfl) ex14 rfl ?_
      obtain ⟨x15, ex15, hf⟩ := pv_bo hf
      refine FV.inc (L2 := [some (.inr (.inr (0))), some (.inl (x15)), some (.inl (x14)), none]) dX10_keyAt_117 rfl (Nat.le_of_ble_eq_true rfl) ex15 rfl ?_
      refine EV.goto (tgt := 4) dX10_keyAt_120 (by decide) ?_
      refine EV.weak (L2 := [some (.inr (.inr (0))), some (.inl (x15)), some (.inl (x14)), none]) (And.intro rfl (And.intro rfl (And.intro rfl trivial))) ?_
      exact hk4 _ _   hf
    · have hf := pv_gn hf q13
      obtain ⟨x16, ex16, hf⟩ := pv_bo hf
      refine FV.inc (L2 := [some (.inr (.inr (0))), some (.inl (v1)), some (.inl (x16)), none]) dX10_keyAt_108 rfl (Nat.le_of_ble_eq_true rfl) ex16 rfl ?_
      refine EV.goto (tgt := 97) dX10_keyAt_111 (by decide) ?_
      refine EV.weak (L2 := [some (.inr (.inr (0))), some (.inl (v1)), some (.inl (x16)), none]) (And.intro rfl (And.intro rfl (And.intro rfl trivial))) ?_
      exact ih _ _   hf

set_option maxHeartbeats 4000000 in
set_option maxRecDepth 20000 in
theorem tX10_keyAt_69 {d N : Nat} {k4 : Int → Int → pv_H → Option (Int)}  {v1 : Int} {v2 : Int} {v3 : Int} {h : pv_H} {r : Int} (hd : 6 ≤ d) (hk4 : ∀ (v1 : Int) (v2 : Int) , k4 v1 v2 h = some r → EV RX10 cX10_keyAt 4 (some .int) false d pv_SM (MM h) (some (.inl r)) 4 [some (.inr (.inr (0))), some (.inl (v1)), some (.inl (v2)), none] [] pv_SM (MM h))   (hf : fX10_keyAt_69 N k4  v1 v2 v3 h = some r) : EV RX10 cX10_keyAt 4 (some .int) false d pv_SM (MM h) (some (.inl r)) 69 [some (.inr (.inr (0))), some (.inl (v1)), some (.inl (v2)), some (.inl (v3))] [] pv_SM (MM h) := by
  unfold fX10_keyAt_69 at hf
  refine EV.ldcS1 rfl dX10_keyAt_69 ?_
  refine EV.iload_n dX10_keyAt_71 rfl rfl ?_
  refine EV.iload_n dX10_keyAt_72 rfl rfl ?_
  refine EV.iadd dX10_keyAt_73 ?_
  obtain ⟨g9, hf⟩ := pv_gd hf
  refine FV.schar1 dX10_keyAt_74 ml_X10_146 (by omega) (Nat.le_of_ble_eq_true rfl) g9.1 g9.2 ?_
  refine EV.bipush dX10_keyAt_77 (by decide) (by decide) ?_
  refine EV.icmp_ne (tgt := 97) dX10_keyAt_79 (by decide) (fun q10 => ?_) (fun q10 => ?_)
  · have hf := pv_gn hf q10
    refine EV.weak (L2 := [some (.inr (.inr (0))), some (.inl (v1)), some (.inl (v2)), none]) (And.intro rfl (And.intro rfl (And.intro rfl trivial))) ?_
    exact tX10_keyAt_97 hd (hk4)  _ _ _   hf
  · have hf := pv_gp hf q10
    refine EV.aload_n dX10_keyAt_82 rfl rfl ?_
    refine FV.getI dX10_keyAt_83 sm_0 fl_10_150 rfl ?_
    refine EV.iload_n dX10_keyAt_86 rfl rfl ?_
    refine EV.iadd dX10_keyAt_87 ?_
    refine EV.aload_n dX10_keyAt_88 rfl rfl ?_
    refine FV.getI dX10_keyAt_89 sm_0 fl_10_153 rfl ?_
    refine EV.icmp_ne (tgt := 97) dX10_keyAt_92 (by decide) (fun q11 => ?_) (fun q11 => ?_)
    · have hf := pv_gn hf q11
      refine EV.weak (L2 := [some (.inr (.inr (0))), some (.inl (v1)), some (.inl (v2)), none]) (And.intro rfl (And.intro rfl (And.intro rfl trivial))) ?_
      exact tX10_keyAt_97 hd (hk4)  _ _ _   hf
    · have hf := pv_gp hf q11
      refine EV.iload_n dX10_keyAt_95 rfl rfl ?_
      exact FV.iretp dX10_keyAt_96 hf

set_option maxHeartbeats 4000000 in
set_option maxRecDepth 20000 in
theorem tX10_keyAt_15 {d N : Nat} {k4 : Int → Int → pv_H → Option (Int)}  {h : pv_H} {r : Int} (hd : 6 ≤ d) (hk4 : ∀ (v1 : Int) (v2 : Int) , k4 v1 v2 h = some r → EV RX10 cX10_keyAt 4 (some .int) false d pv_SM (MM h) (some (.inl r)) 4 [some (.inr (.inr (0))), some (.inl (v1)), some (.inl (v2)), none] [] pv_SM (MM h))  : ∀ (n : Nat) (v1 : Int) (v2 : Int) (v3 : Int) , fX10_keyAt_15 N k4  n v1 v2 v3 h = some r → EV RX10 cX10_keyAt 4 (some .int) false d pv_SM (MM h) (some (.inl r)) 15 [some (.inr (.inr (0))), some (.inl (v1)), some (.inl (v2)), some (.inl (v3))] [] pv_SM (MM h) := by
  intro n
  induction n with
  | zero =>
    intro v1 v2 v3   hf
    cases hf
  | succ n ih =>
    intro v1 v2 v3   hf
    rw [fX10_keyAt_15] at hf
    refine EV.ldcS1 rfl dX10_keyAt_15 ?_
    refine EV.iload_n dX10_keyAt_17 rfl rfl ?_
    refine EV.iload_n dX10_keyAt_18 rfl rfl ?_
    refine EV.iadd dX10_keyAt_19 ?_
    obtain ⟨g2, hf⟩ := pv_gd hf
    refine FV.schar1 dX10_keyAt_20 ml_X10_146 (by omega) (Nat.le_of_ble_eq_true rfl) g2.1 g2.2 ?_
    refine EV.bipush dX10_keyAt_23 (by decide) (by decide) ?_
    refine EV.icmp_eq (tgt := 69) dX10_keyAt_25 (by decide) (fun q3 => ?_) (fun q3 => ?_)
    · have hf := pv_gp hf q3
      refine EV.weak (L2 := [some (.inr (.inr (0))), some (.inl (v1)), some (.inl (v2)), some (.inl (v3))]) (And.intro rfl (And.intro rfl (And.intro rfl (And.intro rfl trivial)))) ?_
      exact tX10_keyAt_69 hd (hk4)   hf
    · have hf := pv_gn hf q3
      refine EV.aload_n dX10_keyAt_28 rfl rfl ?_
      refine FV.getI dX10_keyAt_29 sm_0 fl_10_150 rfl ?_
      refine EV.iload_n dX10_keyAt_32 rfl rfl ?_
      refine EV.iadd dX10_keyAt_33 ?_
      refine EV.aload_n dX10_keyAt_34 rfl rfl ?_
      refine FV.getI dX10_keyAt_35 sm_0 fl_10_153 rfl ?_
      refine EV.icmp_ge (tgt := 69) dX10_keyAt_38 (by decide) (fun q4 => ?_) (fun q4 => ?_)
      · have hf := pv_gp hf q4
        refine EV.weak (L2 := [some (.inr (.inr (0))), some (.inl (v1)), some (.inl (v2)), some (.inl (v3))]) (And.intro rfl (And.intro rfl (And.intro rfl (And.intro rfl trivial)))) ?_
        exact tX10_keyAt_69 hd (hk4)   hf
      · have hf := pv_gn hf q4
        refine EV.aload_n dX10_keyAt_41 rfl rfl ?_
        refine FV.getF (v := 4) dX10_keyAt_42 sm_0 fl_10_24 rfl rfl hvm_0_4 ?_
        refine EV.aload_n dX10_keyAt_45 rfl rfl ?_
        refine FV.getI dX10_keyAt_46 sm_0 fl_10_150 rfl ?_
        refine EV.iload_n dX10_keyAt_49 rfl rfl ?_
        refine EV.iadd dX10_keyAt_50 ?_
        obtain ⟨g5, hf⟩ := pv_gd hf
        refine FV.iald dX10_keyAt_51 sm_4 g5.1 g5.2 (j := (Int.toNat (pv_w ((h 0 7) + v3)))) rfl ?_
        refine EV.ldcS1 rfl dX10_keyAt_52 ?_
        refine EV.iload_n dX10_keyAt_54 rfl rfl ?_
        refine EV.iload_n dX10_keyAt_55 rfl rfl ?_
        refine EV.iadd dX10_keyAt_56 ?_
        obtain ⟨g6, hf⟩ := pv_gd hf
        refine FV.schar1 dX10_keyAt_57 ml_X10_146 (by omega) (Nat.le_of_ble_eq_true rfl) g6.1 g6.2 ?_
        refine EV.icmp_ne (tgt := 69) dX10_keyAt_60 (by decide) (fun q7 => ?_) (fun q7 => ?_)
        · have hf := pv_gn hf q7
          refine EV.weak (L2 := [some (.inr (.inr (0))), some (.inl (v1)), some (.inl (v2)), some (.inl (v3))]) (And.intro rfl (And.intro rfl (And.intro rfl (And.intro rfl trivial)))) ?_
          exact tX10_keyAt_69 hd (hk4)   hf
        · have hf := pv_gp hf q7
          obtain ⟨x8, ex8, hf⟩ := pv_bo hf
          refine FV.inc (L2 := [some (.inr (.inr (0))), some (.inl (v1)), some (.inl (v2)), some (.inl (x8))]) dX10_keyAt_63 rfl (Nat.le_of_ble_eq_true rfl) ex8 rfl ?_
          refine EV.goto (tgt := 15) dX10_keyAt_66 (by decide) ?_
          refine EV.weak (L2 := [some (.inr (.inr (0))), some (.inl (v1)), some (.inl (v2)), some (.inl (x8))]) (And.intro rfl (And.intro rfl (And.intro rfl (And.intro rfl trivial)))) ?_
          exact ih _ _ _   hf

set_option maxHeartbeats 4000000 in
set_option maxRecDepth 20000 in
theorem tX10_keyAt_4 {d N : Nat}   {h : pv_H} {r : Int} (hd : 6 ≤ d)   : ∀ (n : Nat) (v1 : Int) (v2 : Int) , fX10_keyAt_4 N   n v1 v2 h = some r → EV RX10 cX10_keyAt 4 (some .int) false d pv_SM (MM h) (some (.inl r)) 4 [some (.inr (.inr (0))), some (.inl (v1)), some (.inl (v2)), none] [] pv_SM (MM h) := by
  intro n
  induction n with
  | zero =>
    intro v1 v2   hf
    cases hf
  | succ n ih =>
    intro v1 v2   hf
    rw [fX10_keyAt_4] at hf
    refine EV.iload_n dX10_keyAt_4 rfl rfl ?_
    refine EV.ldcS1 rfl dX10_keyAt_5 ?_
    refine FV.slen1 dX10_keyAt_7 ml_X10_140 (by omega) (Nat.le_of_ble_eq_true rfl) ?_
    refine EV.icmp_ge (tgt := 123) dX10_keyAt_10 (by decide) (fun q1 => ?_) (fun q1 => ?_)
    · have hf := pv_gp hf q1
      refine EV.bipush dX10_keyAt_123 (by decide) (by decide) ?_
      exact FV.iretp dX10_keyAt_125 hf
    · have hf := pv_gn hf q1
      refine EV.iconst dX10_keyAt_13 (by decide) (by decide) ?_
      refine FV.sti (L2 := [some (.inr (.inr (0))), some (.inl (v1)), some (.inl (v2)), some (.inl (0))]) dX10_keyAt_14 rfl (Nat.le_of_ble_eq_true rfl) rfl rfl ?_
      refine EV.weak (L2 := [some (.inr (.inr (0))), some (.inl (v1)), some (.inl (v2)), some (.inl (0))]) (And.intro rfl (And.intro rfl (And.intro rfl (And.intro rfl trivial)))) ?_
      exact tX10_keyAt_15 hd (ih)  _ _ _ _   hf

set_option maxHeartbeats 4000000 in
set_option maxRecDepth 20000 in
theorem tX10_keyAt {d N : Nat}  {h : pv_H} {r : Int} (hd : 6 ≤ d)  (hf : fX10_keyAt N  h = some r) : CALL yX10_keyAt cX10_keyAt 4 (some .int) d pv_SM (MM h) [.inr (.inr (0))] pv_SM (MM h) (some (.inl r)) := by
  unfold fX10_keyAt at hf
  refine EV.call (own := RX10) (ini := false) rfl rfl (fun q => by cases q) ⟨[], (List.append_nil _).symm⟩ (Nat.le_of_ble_eq_true rfl) ?_
  refine EV.eqL (L2 := [some (.inr (.inr (0))), none, none, none]) rfl ?_
  refine EV.iconst dX10_keyAt_0 (by decide) (by decide) ?_
  refine FV.sti (L2 := [some (.inr (.inr (0))), some (.inl (0)), none, none]) dX10_keyAt_1 rfl (Nat.le_of_ble_eq_true rfl) rfl rfl ?_
  refine EV.iconst dX10_keyAt_2 (by decide) (by decide) ?_
  refine FV.sti (L2 := [some (.inr (.inr (0))), some (.inl (0)), some (.inl (1)), none]) dX10_keyAt_3 rfl (Nat.le_of_ble_eq_true rfl) rfl rfl ?_
  refine EV.weak (L2 := [some (.inr (.inr (0))), some (.inl (0)), some (.inl (1)), none]) (And.intro rfl (And.intro rfl (And.intro rfl trivial))) ?_
  exact tX10_keyAt_4 hd   _ _ _   hf

noncomputable def fX10_next_34 (N : Nat) (k8 : pv_H → Option (pv_H))   (h : pv_H) : Option (pv_H) :=
  pv_b (pv_up h 0 7 (pv_w ((h 0 7) + 1))) fun h32 => k8  h32

noncomputable def fX10_next_306 (N : Nat)    (h : pv_H) : Option (pv_H) :=
  some h

noncomputable def fX10_next_303 (N : Nat)   (s0 : Int) (h : pv_H) : Option (pv_H) :=
  pv_b (pv_up h 0 10 s0) fun h33 => fX10_next_306 N    h33

noncomputable def fX10_next_230 (N : Nat)   (s0 : Int) (h : pv_H) : Option (pv_H) :=
  pv_b (pv_up h 0 10 s0) fun h53 => fX10_next_306 N    h53

noncomputable def fX10_next_196 (N : Nat) (k146 : pv_H → Option (pv_H))   (h : pv_H) : Option (pv_H) :=
  pv_b (pv_up h 0 8 (pv_w ((h 0 8) + 1))) fun h54 => k146  h54

noncomputable def fX10_next_146 (N : Nat)   : Nat → pv_H → Option (pv_H)
  | 0, _ => none
  | n + 1, h => pv_c1 (fX10_see N (h 0 8) h) fun r35 => pv_c1 (fX10_isDigit N r35 h) fun r37 => if r37 = 0 then (if (pv_w ((h 0 8) - (h 0 7))) ≤ 3 then (fX10_next_230 N   (38) h) else (fX10_next_230 N   (43) h)) else (if 3 ≤ (pv_w ((h 0 8) - (h 0 7))) then (fX10_next_196 N (fun  hh => fX10_next_146 N   n  hh)   h) else (pv_c1 (fX10_see N (h 0 8) h) fun r42 => pv_b (pv_up h 0 11 (pv_w ((pv_w ((pv_w (10 * (h 0 11))) + r42)) - 48))) fun h43 => fX10_next_196 N (fun  hh => fX10_next_146 N   n  hh)   h43))

noncomputable def fX10_next_89 (N : Nat)   : Nat → pv_H → Option (pv_H)
  | 0, _ => none
  | n + 1, h => pv_c1 (fX10_see N (h 0 8) h) fun r45 => pv_c1 (fX10_isSmall N r45 h) fun r47 => if r47 = 0 then (pv_c1 (fX10_keyAt N  h) fun r50 => pv_b (pv_up h 0 10 r50) fun h51 => fX10_next_306 N    h51) else (pv_b (pv_up h 0 8 (pv_w ((h 0 8) + 1))) fun h52 => fX10_next_89 N   n  h52)

noncomputable def fX10_next_8 (N : Nat)   : Nat → pv_H → Option (pv_H)
  | 0, _ => none
  | n + 1, h => pv_c1 (fX10_see N (h 0 7) h) fun r3 => if r3 = 10 then (fX10_next_34 N (fun  hh => fX10_next_8 N   n  hh)   h) else (pv_c1 (fX10_see N (h 0 7) h) fun r6 => if r6 = 32 then (fX10_next_34 N (fun  hh => fX10_next_8 N   n  hh)   h) else (pv_b (pv_up h 0 8 (h 0 7)) fun h8 => if (h8 0 7) < (h8 0 9) then (pv_c1 (fX10_see N (h8 0 7) h8) fun r11 => pv_c1 (fX10_isSmall N r11 h8) fun r13 => if r13 = 0 then (pv_c1 (fX10_see N (h8 0 7) h8) fun r16 => pv_c1 (fX10_isDigit N r16 h8) fun r18 => if r18 = 0 then (pv_b (pv_up h8 0 8 (pv_w ((h8 0 8) + 1))) fun h20 => pv_c1 (fX10_see N (h20 0 7) h20) fun r22 => if r22 = 59 then (fX10_next_303 N   (39) h20) else (pv_c1 (fX10_see N (h20 0 7) h20) fun r25 => if r25 = 40 then (fX10_next_303 N   (40) h20) else (pv_c1 (fX10_see N (h20 0 7) h20) fun r28 => if r28 = 41 then (fX10_next_303 N   (41) h20) else (fX10_next_303 N   (43) h20)))) else (pv_b (pv_up h8 0 11 0) fun h30 => fX10_next_146 N   N  h30)) else (fX10_next_89 N   N  h8)) else (pv_b (pv_up h8 0 10 42) fun h31 => fX10_next_306 N    h31)))

noncomputable def fX10_next (N : Nat)  (h : pv_H) : Option (pv_H) :=
  pv_b (pv_up h 0 7 (h 0 8)) fun h1 => fX10_next_8 N   N  h1

set_option maxHeartbeats 4000000 in
set_option maxRecDepth 20000 in
theorem tX10_next_34 {d N : Nat} {k8 : pv_H → Option (pv_H)}   {h h' : pv_H}  (hd : 7 ≤ d) (hk8 : ∀   (hh : pv_H), k8  hh = some h' → EV RX10 cX10_next 1 none false d pv_SM (MM h') none 8 [some (.inr (.inr (0)))] [] pv_SM (MM hh))   (hf : fX10_next_34 N k8   h = some h') : EV RX10 cX10_next 1 none false d pv_SM (MM h') none 34 [some (.inr (.inr (0)))] [] pv_SM (MM h) := by
  unfold fX10_next_34 at hf
  refine EV.aload_n dX10_next_34 rfl rfl ?_
  refine EV.dup dX10_next_35 rfl ?_
  refine FV.getI dX10_next_36 sm_0 fl_10_150 rfl ?_
  refine EV.iconst dX10_next_39 (by decide) (by decide) ?_
  refine EV.iadd dX10_next_40 ?_
  obtain ⟨h32, eh32, hf⟩ := pv_bo hf
  refine FV.putI dX10_next_41 sm_0 fl_10_150 rfl rfl eh32 ?_
  refine EV.goto (tgt := 8) dX10_next_44 (by decide) ?_
  refine EV.weak (L2 := [some (.inr (.inr (0)))]) (And.intro rfl trivial) ?_
  exact hk8   _ hf

set_option maxHeartbeats 4000000 in
set_option maxRecDepth 20000 in
theorem tX10_next_306 {d N : Nat}    {h h' : pv_H}  (hd : 7 ≤ d)    (hf : fX10_next_306 N    h = some h') : EV RX10 cX10_next 1 none false d pv_SM (MM h') none 306 [none] [] pv_SM (MM h) := by
  unfold fX10_next_306 at hf
  exact FV.vret dX10_next_306 hf

set_option maxHeartbeats 4000000 in
set_option maxRecDepth 20000 in
theorem tX10_next_303 {d N : Nat}   {s0 : Int} {h h' : pv_H}  (hd : 7 ≤ d)    (hf : fX10_next_303 N   s0 h = some h') : EV RX10 cX10_next 1 none false d pv_SM (MM h') none 303 [none] [.inl (s0), .inr (.inr (0))] pv_SM (MM h) := by
  unfold fX10_next_303 at hf
  obtain ⟨h33, eh33, hf⟩ := pv_bo hf
  refine FV.putI dX10_next_303 sm_0 fl_10_159 rfl rfl eh33 ?_
  refine EV.weak (L2 := [none]) trivial ?_
  exact tX10_next_306 hd    hf

set_option maxHeartbeats 4000000 in
set_option maxRecDepth 20000 in
theorem tX10_next_230 {d N : Nat}   {s0 : Int} {h h' : pv_H}  (hd : 7 ≤ d)    (hf : fX10_next_230 N   s0 h = some h') : EV RX10 cX10_next 1 none false d pv_SM (MM h') none 230 [none] [.inl (s0), .inr (.inr (0))] pv_SM (MM h) := by
  unfold fX10_next_230 at hf
  obtain ⟨h53, eh53, hf⟩ := pv_bo hf
  refine FV.putI dX10_next_230 sm_0 fl_10_159 rfl rfl eh53 ?_
  refine EV.goto (tgt := 306) dX10_next_233 (by decide) ?_
  refine EV.weak (L2 := [none]) trivial ?_
  exact tX10_next_306 hd    hf

set_option maxHeartbeats 4000000 in
set_option maxRecDepth 20000 in
theorem tX10_next_196 {d N : Nat} {k146 : pv_H → Option (pv_H)}   {h h' : pv_H}  (hd : 7 ≤ d) (hk146 : ∀   (hh : pv_H), k146  hh = some h' → EV RX10 cX10_next 1 none false d pv_SM (MM h') none 146 [some (.inr (.inr (0)))] [] pv_SM (MM hh))   (hf : fX10_next_196 N k146   h = some h') : EV RX10 cX10_next 1 none false d pv_SM (MM h') none 196 [some (.inr (.inr (0)))] [] pv_SM (MM h) := by
  unfold fX10_next_196 at hf
  refine EV.aload_n dX10_next_196 rfl rfl ?_
  refine EV.dup dX10_next_197 rfl ?_
  refine FV.getI dX10_next_198 sm_0 fl_10_153 rfl ?_
  refine EV.iconst dX10_next_201 (by decide) (by decide) ?_
  refine EV.iadd dX10_next_202 ?_
  obtain ⟨h54, eh54, hf⟩ := pv_bo hf
  refine FV.putI dX10_next_203 sm_0 fl_10_153 rfl rfl eh54 ?_
  refine EV.goto (tgt := 146) dX10_next_206 (by decide) ?_
  refine EV.weak (L2 := [some (.inr (.inr (0)))]) (And.intro rfl trivial) ?_
  exact hk146   _ hf

set_option maxHeartbeats 4000000 in
set_option maxRecDepth 20000 in
theorem tX10_next_146 {d N : Nat}   {h' : pv_H}  (hd : 7 ≤ d)   : ∀ (n : Nat)   (h : pv_H), fX10_next_146 N   n  h = some h' → EV RX10 cX10_next 1 none false d pv_SM (MM h') none 146 [some (.inr (.inr (0)))] [] pv_SM (MM h) := by
  intro n
  induction n with
  | zero =>
    intro   h hf
    cases hf
  | succ n ih =>
    intro   h hf
    rw [fX10_next_146] at hf
    refine EV.aload_n dX10_next_146 rfl rfl ?_
    refine EV.aload_n dX10_next_147 rfl rfl ?_
    refine FV.getI dX10_next_148 sm_0 fl_10_153 rfl ?_
    obtain ⟨r35, hc34, hf⟩ := pv_c1o hf
    refine EV.invV (As := [.inl (h 0 8)]) (st := []) (d1 := d - 1) (sh1 := pv_SM) (h1 := MM h) (r1 := (some (.inl r35))) dX10_next_151 sm_0 (by decide) md_X10_see ml_X10_156 im_X10_see se_X10_see (tX10_see (by omega)  hc34) (by omega) rfl rfl (Nat.le_of_ble_eq_true rfl) ⟨[], (List.append_nil _).symm⟩ ?_
    refine EV.eqS (st2 := [.inl (r35)]) rfl ?_
    obtain ⟨r37, hc36, hf⟩ := pv_c1o hf
    refine EV.invS (As := [.inl (r35)]) (st := []) (d1 := d - 1) (sh1 := pv_SM) (h1 := MM h) (r1 := (some (.inl r37))) dX10_next_154 md_X10_isDigit ml_X10_169 st_X10_isDigit (tX10_isDigit (by omega)  hc36) (by omega) rfl rfl (Nat.le_of_ble_eq_true rfl) ⟨[], (List.append_nil _).symm⟩ ?_
    refine EV.eqS (st2 := [.inl (r37)]) rfl ?_
    refine EV.if_eq (tgt := 209) dX10_next_157 (by decide) (fun q38 => ?_) (fun q38 => ?_)
    · have hf := pv_gp hf q38
      refine EV.aload_n dX10_next_209 rfl rfl ?_
      refine EV.aload_n dX10_next_210 rfl rfl ?_
      refine FV.getI dX10_next_211 sm_0 fl_10_153 rfl ?_
      refine EV.aload_n dX10_next_214 rfl rfl ?_
      refine FV.getI dX10_next_215 sm_0 fl_10_150 rfl ?_
      refine EV.isub dX10_next_218 ?_
      refine EV.iconst dX10_next_219 (by decide) (by decide) ?_
      refine EV.icmp_le (tgt := 228) dX10_next_220 (by decide) (fun q39 => ?_) (fun q39 => ?_)
      · have hf := pv_gp hf q39
        refine EV.bipush dX10_next_228 (by decide) (by decide) ?_
        refine EV.weak (L2 := [none]) trivial ?_
        exact tX10_next_230 hd    hf
      · have hf := pv_gn hf q39
        refine EV.bipush dX10_next_223 (by decide) (by decide) ?_
        refine EV.goto (tgt := 230) dX10_next_225 (by decide) ?_
        refine EV.weak (L2 := [none]) trivial ?_
        exact tX10_next_230 hd    hf
    · have hf := pv_gn hf q38
      refine EV.aload_n dX10_next_160 rfl rfl ?_
      refine FV.getI dX10_next_161 sm_0 fl_10_153 rfl ?_
      refine EV.aload_n dX10_next_164 rfl rfl ?_
      refine FV.getI dX10_next_165 sm_0 fl_10_150 rfl ?_
      refine EV.isub dX10_next_168 ?_
      refine EV.iconst dX10_next_169 (by decide) (by decide) ?_
      refine EV.icmp_ge (tgt := 196) dX10_next_170 (by decide) (fun q40 => ?_) (fun q40 => ?_)
      · have hf := pv_gp hf q40
        refine EV.weak (L2 := [some (.inr (.inr (0)))]) (And.intro rfl trivial) ?_
        exact tX10_next_196 hd (ih)   hf
      · have hf := pv_gn hf q40
        refine EV.aload_n dX10_next_173 rfl rfl ?_
        refine EV.bipush dX10_next_174 (by decide) (by decide) ?_
        refine EV.aload_n dX10_next_176 rfl rfl ?_
        refine FV.getI dX10_next_177 sm_0 fl_10_172 rfl ?_
        refine EV.imul dX10_next_180 ?_
        refine EV.aload_n dX10_next_181 rfl rfl ?_
        refine EV.aload_n dX10_next_182 rfl rfl ?_
        refine FV.getI dX10_next_183 sm_0 fl_10_153 rfl ?_
        obtain ⟨r42, hc41, hf⟩ := pv_c1o hf
        refine EV.invV (As := [.inl (h 0 8)]) (st := [.inl (pv_w (10 * (h 0 11))), .inr (.inr (0))]) (d1 := d - 1) (sh1 := pv_SM) (h1 := MM h) (r1 := (some (.inl r42))) dX10_next_186 sm_0 (by decide) md_X10_see ml_X10_156 im_X10_see se_X10_see (tX10_see (by omega)  hc41) (by omega) rfl rfl (Nat.le_of_ble_eq_true rfl) ⟨[], (List.append_nil _).symm⟩ ?_
        refine EV.eqS (st2 := [.inl (r42), .inl (pv_w (10 * (h 0 11))), .inr (.inr (0))]) rfl ?_
        refine EV.iadd dX10_next_189 ?_
        refine EV.bipush dX10_next_190 (by decide) (by decide) ?_
        refine EV.isub dX10_next_192 ?_
        obtain ⟨h43, eh43, hf⟩ := pv_bo hf
        refine FV.putI dX10_next_193 sm_0 fl_10_172 rfl rfl eh43 ?_
        refine EV.weak (L2 := [some (.inr (.inr (0)))]) (And.intro rfl trivial) ?_
        exact tX10_next_196 hd (ih)   hf

set_option maxHeartbeats 4000000 in
set_option maxRecDepth 20000 in
theorem tX10_next_89 {d N : Nat}   {h' : pv_H}  (hd : 7 ≤ d)   : ∀ (n : Nat)   (h : pv_H), fX10_next_89 N   n  h = some h' → EV RX10 cX10_next 1 none false d pv_SM (MM h') none 89 [some (.inr (.inr (0)))] [] pv_SM (MM h) := by
  intro n
  induction n with
  | zero =>
    intro   h hf
    cases hf
  | succ n ih =>
    intro   h hf
    rw [fX10_next_89] at hf
    refine EV.aload_n dX10_next_89 rfl rfl ?_
    refine EV.aload_n dX10_next_90 rfl rfl ?_
    refine FV.getI dX10_next_91 sm_0 fl_10_153 rfl ?_
    obtain ⟨r45, hc44, hf⟩ := pv_c1o hf
    refine EV.invV (As := [.inl (h 0 8)]) (st := []) (d1 := d - 1) (sh1 := pv_SM) (h1 := MM h) (r1 := (some (.inl r45))) dX10_next_94 sm_0 (by decide) md_X10_see ml_X10_156 im_X10_see se_X10_see (tX10_see (by omega)  hc44) (by omega) rfl rfl (Nat.le_of_ble_eq_true rfl) ⟨[], (List.append_nil _).symm⟩ ?_
    refine EV.eqS (st2 := [.inl (r45)]) rfl ?_
    obtain ⟨r47, hc46, hf⟩ := pv_c1o hf
    refine EV.invS (As := [.inl (r45)]) (st := []) (d1 := d - 1) (sh1 := pv_SM) (h1 := MM h) (r1 := (some (.inl r47))) dX10_next_97 md_X10_isSmall ml_X10_162 st_X10_isSmall (tX10_isSmall (by omega)  hc46) (by omega) rfl rfl (Nat.le_of_ble_eq_true rfl) ⟨[], (List.append_nil _).symm⟩ ?_
    refine EV.eqS (st2 := [.inl (r47)]) rfl ?_
    refine EV.if_eq (tgt := 116) dX10_next_100 (by decide) (fun q48 => ?_) (fun q48 => ?_)
    · have hf := pv_gp hf q48
      refine EV.aload_n dX10_next_116 rfl rfl ?_
      refine EV.aload_n dX10_next_117 rfl rfl ?_
      obtain ⟨r50, hc49, hf⟩ := pv_c1o hf
      refine EV.invV (As := []) (st := [.inr (.inr (0))]) (d1 := d - 1) (sh1 := pv_SM) (h1 := MM h) (r1 := (some (.inl r50))) dX10_next_118 sm_0 (by decide) md_X10_keyAt ml_X10_166 im_X10_keyAt se_X10_keyAt (tX10_keyAt (by omega)  hc49) (by omega) rfl rfl (Nat.le_of_ble_eq_true rfl) ⟨[], (List.append_nil _).symm⟩ ?_
      refine EV.eqS (st2 := [.inl (r50), .inr (.inr (0))]) rfl ?_
      obtain ⟨h51, eh51, hf⟩ := pv_bo hf
      refine FV.putI dX10_next_121 sm_0 fl_10_159 rfl rfl eh51 ?_
      refine EV.goto (tgt := 306) dX10_next_124 (by decide) ?_
      refine EV.weak (L2 := [none]) trivial ?_
      exact tX10_next_306 hd    hf
    · have hf := pv_gn hf q48
      refine EV.aload_n dX10_next_103 rfl rfl ?_
      refine EV.dup dX10_next_104 rfl ?_
      refine FV.getI dX10_next_105 sm_0 fl_10_153 rfl ?_
      refine EV.iconst dX10_next_108 (by decide) (by decide) ?_
      refine EV.iadd dX10_next_109 ?_
      obtain ⟨h52, eh52, hf⟩ := pv_bo hf
      refine FV.putI dX10_next_110 sm_0 fl_10_153 rfl rfl eh52 ?_
      refine EV.goto (tgt := 89) dX10_next_113 (by decide) ?_
      refine EV.weak (L2 := [some (.inr (.inr (0)))]) (And.intro rfl trivial) ?_
      exact ih   _ hf

set_option maxHeartbeats 4000000 in
set_option maxRecDepth 20000 in
theorem tX10_next_8 {d N : Nat}   {h' : pv_H}  (hd : 7 ≤ d)   : ∀ (n : Nat)   (h : pv_H), fX10_next_8 N   n  h = some h' → EV RX10 cX10_next 1 none false d pv_SM (MM h') none 8 [some (.inr (.inr (0)))] [] pv_SM (MM h) := by
  intro n
  induction n with
  | zero =>
    intro   h hf
    cases hf
  | succ n ih =>
    intro   h hf
    rw [fX10_next_8] at hf
    refine EV.aload_n dX10_next_8 rfl rfl ?_
    refine EV.aload_n dX10_next_9 rfl rfl ?_
    refine FV.getI dX10_next_10 sm_0 fl_10_150 rfl ?_
    obtain ⟨r3, hc2, hf⟩ := pv_c1o hf
    refine EV.invV (As := [.inl (h 0 7)]) (st := []) (d1 := d - 1) (sh1 := pv_SM) (h1 := MM h) (r1 := (some (.inl r3))) dX10_next_13 sm_0 (by decide) md_X10_see ml_X10_156 im_X10_see se_X10_see (tX10_see (by omega)  hc2) (by omega) rfl rfl (Nat.le_of_ble_eq_true rfl) ⟨[], (List.append_nil _).symm⟩ ?_
    refine EV.eqS (st2 := [.inl (r3)]) rfl ?_
    refine EV.bipush dX10_next_16 (by decide) (by decide) ?_
    refine EV.icmp_eq (tgt := 34) dX10_next_18 (by decide) (fun q4 => ?_) (fun q4 => ?_)
    · have hf := pv_gp hf q4
      refine EV.weak (L2 := [some (.inr (.inr (0)))]) (And.intro rfl trivial) ?_
      exact tX10_next_34 hd (ih)   hf
    · have hf := pv_gn hf q4
      refine EV.aload_n dX10_next_21 rfl rfl ?_
      refine EV.aload_n dX10_next_22 rfl rfl ?_
      refine FV.getI dX10_next_23 sm_0 fl_10_150 rfl ?_
      obtain ⟨r6, hc5, hf⟩ := pv_c1o hf
      refine EV.invV (As := [.inl (h 0 7)]) (st := []) (d1 := d - 1) (sh1 := pv_SM) (h1 := MM h) (r1 := (some (.inl r6))) dX10_next_26 sm_0 (by decide) md_X10_see ml_X10_156 im_X10_see se_X10_see (tX10_see (by omega)  hc5) (by omega) rfl rfl (Nat.le_of_ble_eq_true rfl) ⟨[], (List.append_nil _).symm⟩ ?_
      refine EV.eqS (st2 := [.inl (r6)]) rfl ?_
      refine EV.bipush dX10_next_29 (by decide) (by decide) ?_
      refine EV.icmp_ne (tgt := 47) dX10_next_31 (by decide) (fun q7 => ?_) (fun q7 => ?_)
      · have hf := pv_gn hf q7
        refine EV.aload_n dX10_next_47 rfl rfl ?_
        refine EV.aload_n dX10_next_48 rfl rfl ?_
        refine FV.getI dX10_next_49 sm_0 fl_10_150 rfl ?_
        obtain ⟨h8, eh8, hf⟩ := pv_bo hf
        refine FV.putI dX10_next_52 sm_0 fl_10_153 rfl rfl eh8 ?_
        refine EV.aload_n dX10_next_55 rfl rfl ?_
        refine FV.getI dX10_next_56 sm_0 fl_10_150 rfl ?_
        refine EV.aload_n dX10_next_59 rfl rfl ?_
        refine FV.getI dX10_next_60 sm_0 fl_10_135 rfl ?_
        refine EV.icmp_lt (tgt := 75) dX10_next_63 (by decide) (fun q9 => ?_) (fun q9 => ?_)
        · have hf := pv_gp hf q9
          refine EV.aload_n dX10_next_75 rfl rfl ?_
          refine EV.aload_n dX10_next_76 rfl rfl ?_
          refine FV.getI dX10_next_77 sm_0 fl_10_150 rfl ?_
          obtain ⟨r11, hc10, hf⟩ := pv_c1o hf
          refine EV.invV (As := [.inl (h8 0 7)]) (st := []) (d1 := d - 1) (sh1 := pv_SM) (h1 := MM h8) (r1 := (some (.inl r11))) dX10_next_80 sm_0 (by decide) md_X10_see ml_X10_156 im_X10_see se_X10_see (tX10_see (by omega)  hc10) (by omega) rfl rfl (Nat.le_of_ble_eq_true rfl) ⟨[], (List.append_nil _).symm⟩ ?_
          refine EV.eqS (st2 := [.inl (r11)]) rfl ?_
          obtain ⟨r13, hc12, hf⟩ := pv_c1o hf
          refine EV.invS (As := [.inl (r11)]) (st := []) (d1 := d - 1) (sh1 := pv_SM) (h1 := MM h8) (r1 := (some (.inl r13))) dX10_next_83 md_X10_isSmall ml_X10_162 st_X10_isSmall (tX10_isSmall (by omega)  hc12) (by omega) rfl rfl (Nat.le_of_ble_eq_true rfl) ⟨[], (List.append_nil _).symm⟩ ?_
          refine EV.eqS (st2 := [.inl (r13)]) rfl ?_
          refine EV.if_eq (tgt := 127) dX10_next_86 (by decide) (fun q14 => ?_) (fun q14 => ?_)
          · have hf := pv_gp hf q14
            refine EV.aload_n dX10_next_127 rfl rfl ?_
            refine EV.aload_n dX10_next_128 rfl rfl ?_
            refine FV.getI dX10_next_129 sm_0 fl_10_150 rfl ?_
            obtain ⟨r16, hc15, hf⟩ := pv_c1o hf
            refine EV.invV (As := [.inl (h8 0 7)]) (st := []) (d1 := d - 1) (sh1 := pv_SM) (h1 := MM h8) (r1 := (some (.inl r16))) dX10_next_132 sm_0 (by decide) md_X10_see ml_X10_156 im_X10_see se_X10_see (tX10_see (by omega)  hc15) (by omega) rfl rfl (Nat.le_of_ble_eq_true rfl) ⟨[], (List.append_nil _).symm⟩ ?_
            refine EV.eqS (st2 := [.inl (r16)]) rfl ?_
            obtain ⟨r18, hc17, hf⟩ := pv_c1o hf
            refine EV.invS (As := [.inl (r16)]) (st := []) (d1 := d - 1) (sh1 := pv_SM) (h1 := MM h8) (r1 := (some (.inl r18))) dX10_next_135 md_X10_isDigit ml_X10_169 st_X10_isDigit (tX10_isDigit (by omega)  hc17) (by omega) rfl rfl (Nat.le_of_ble_eq_true rfl) ⟨[], (List.append_nil _).symm⟩ ?_
            refine EV.eqS (st2 := [.inl (r18)]) rfl ?_
            refine EV.if_eq (tgt := 236) dX10_next_138 (by decide) (fun q19 => ?_) (fun q19 => ?_)
            · have hf := pv_gp hf q19
              refine EV.aload_n dX10_next_236 rfl rfl ?_
              refine EV.dup dX10_next_237 rfl ?_
              refine FV.getI dX10_next_238 sm_0 fl_10_153 rfl ?_
              refine EV.iconst dX10_next_241 (by decide) (by decide) ?_
              refine EV.iadd dX10_next_242 ?_
              obtain ⟨h20, eh20, hf⟩ := pv_bo hf
              refine FV.putI dX10_next_243 sm_0 fl_10_153 rfl rfl eh20 ?_
              refine EV.aload_n dX10_next_246 rfl rfl ?_
              refine EV.aload_n dX10_next_247 rfl rfl ?_
              refine EV.aload_n dX10_next_248 rfl rfl ?_
              refine FV.getI dX10_next_249 sm_0 fl_10_150 rfl ?_
              obtain ⟨r22, hc21, hf⟩ := pv_c1o hf
              refine EV.invV (As := [.inl (h20 0 7)]) (st := [.inr (.inr (0))]) (d1 := d - 1) (sh1 := pv_SM) (h1 := MM h20) (r1 := (some (.inl r22))) dX10_next_252 sm_0 (by decide) md_X10_see ml_X10_156 im_X10_see se_X10_see (tX10_see (by omega)  hc21) (by omega) rfl rfl (Nat.le_of_ble_eq_true rfl) ⟨[], (List.append_nil _).symm⟩ ?_
              refine EV.eqS (st2 := [.inl (r22), .inr (.inr (0))]) rfl ?_
              refine EV.bipush dX10_next_255 (by decide) (by decide) ?_
              refine EV.icmp_ne (tgt := 265) dX10_next_257 (by decide) (fun q23 => ?_) (fun q23 => ?_)
              · have hf := pv_gn hf q23
                refine EV.aload_n dX10_next_265 rfl rfl ?_
                refine EV.aload_n dX10_next_266 rfl rfl ?_
                refine FV.getI dX10_next_267 sm_0 fl_10_150 rfl ?_
                obtain ⟨r25, hc24, hf⟩ := pv_c1o hf
                refine EV.invV (As := [.inl (h20 0 7)]) (st := [.inr (.inr (0))]) (d1 := d - 1) (sh1 := pv_SM) (h1 := MM h20) (r1 := (some (.inl r25))) dX10_next_270 sm_0 (by decide) md_X10_see ml_X10_156 im_X10_see se_X10_see (tX10_see (by omega)  hc24) (by omega) rfl rfl (Nat.le_of_ble_eq_true rfl) ⟨[], (List.append_nil _).symm⟩ ?_
                refine EV.eqS (st2 := [.inl (r25), .inr (.inr (0))]) rfl ?_
                refine EV.bipush dX10_next_273 (by decide) (by decide) ?_
                refine EV.icmp_ne (tgt := 283) dX10_next_275 (by decide) (fun q26 => ?_) (fun q26 => ?_)
                · have hf := pv_gn hf q26
                  refine EV.aload_n dX10_next_283 rfl rfl ?_
                  refine EV.aload_n dX10_next_284 rfl rfl ?_
                  refine FV.getI dX10_next_285 sm_0 fl_10_150 rfl ?_
                  obtain ⟨r28, hc27, hf⟩ := pv_c1o hf
                  refine EV.invV (As := [.inl (h20 0 7)]) (st := [.inr (.inr (0))]) (d1 := d - 1) (sh1 := pv_SM) (h1 := MM h20) (r1 := (some (.inl r28))) dX10_next_288 sm_0 (by decide) md_X10_see ml_X10_156 im_X10_see se_X10_see (tX10_see (by omega)  hc27) (by omega) rfl rfl (Nat.le_of_ble_eq_true rfl) ⟨[], (List.append_nil _).symm⟩ ?_
                  refine EV.eqS (st2 := [.inl (r28), .inr (.inr (0))]) rfl ?_
                  refine EV.bipush dX10_next_291 (by decide) (by decide) ?_
                  refine EV.icmp_ne (tgt := 301) dX10_next_293 (by decide) (fun q29 => ?_) (fun q29 => ?_)
                  · have hf := pv_gn hf q29
                    refine EV.bipush dX10_next_301 (by decide) (by decide) ?_
                    refine EV.weak (L2 := [none]) trivial ?_
                    exact tX10_next_303 hd    hf
                  · have hf := pv_gp hf q29
                    refine EV.bipush dX10_next_296 (by decide) (by decide) ?_
                    refine EV.goto (tgt := 303) dX10_next_298 (by decide) ?_
                    refine EV.weak (L2 := [none]) trivial ?_
                    exact tX10_next_303 hd    hf
                · have hf := pv_gp hf q26
                  refine EV.bipush dX10_next_278 (by decide) (by decide) ?_
                  refine EV.goto (tgt := 303) dX10_next_280 (by decide) ?_
                  refine EV.weak (L2 := [none]) trivial ?_
                  exact tX10_next_303 hd    hf
              · have hf := pv_gp hf q23
                refine EV.bipush dX10_next_260 (by decide) (by decide) ?_
                refine EV.goto (tgt := 303) dX10_next_262 (by decide) ?_
                refine EV.weak (L2 := [none]) trivial ?_
                exact tX10_next_303 hd    hf
            · have hf := pv_gn hf q19
              refine EV.aload_n dX10_next_141 rfl rfl ?_
              refine EV.iconst dX10_next_142 (by decide) (by decide) ?_
              obtain ⟨h30, eh30, hf⟩ := pv_bo hf
              refine FV.putI dX10_next_143 sm_0 fl_10_172 rfl rfl eh30 ?_
              refine EV.weak (L2 := [some (.inr (.inr (0)))]) (And.intro rfl trivial) ?_
              exact tX10_next_146 hd   _   _ hf
          · have hf := pv_gn hf q14
            refine EV.weak (L2 := [some (.inr (.inr (0)))]) (And.intro rfl trivial) ?_
            exact tX10_next_89 hd   _   _ hf
        · have hf := pv_gn hf q9
          refine EV.aload_n dX10_next_66 rfl rfl ?_
          refine EV.bipush dX10_next_67 (by decide) (by decide) ?_
          obtain ⟨h31, eh31, hf⟩ := pv_bo hf
          refine FV.putI dX10_next_69 sm_0 fl_10_159 rfl rfl eh31 ?_
          refine EV.goto (tgt := 306) dX10_next_72 (by decide) ?_
          refine EV.weak (L2 := [none]) trivial ?_
          exact tX10_next_306 hd    hf
      · have hf := pv_gp hf q7
        refine EV.weak (L2 := [some (.inr (.inr (0)))]) (And.intro rfl trivial) ?_
        exact tX10_next_34 hd (ih)   hf

set_option maxHeartbeats 4000000 in
set_option maxRecDepth 20000 in
theorem tX10_next {d N : Nat}  {h h' : pv_H}  (hd : 7 ≤ d)  (hf : fX10_next N  h = some h') : CALL yX10_next cX10_next 1 none d pv_SM (MM h) [.inr (.inr (0))] pv_SM (MM h') none := by
  unfold fX10_next at hf
  refine EV.call (own := RX10) (ini := false) rfl rfl (fun q => by cases q) ⟨[], (List.append_nil _).symm⟩ (Nat.le_of_ble_eq_true rfl) ?_
  refine EV.eqL (L2 := [some (.inr (.inr (0)))]) rfl ?_
  refine EV.aload_n dX10_next_0 rfl rfl ?_
  refine EV.aload_n dX10_next_1 rfl rfl ?_
  refine FV.getI dX10_next_2 sm_0 fl_10_153 rfl ?_
  obtain ⟨h1, eh1, hf⟩ := pv_bo hf
  refine FV.putI dX10_next_5 sm_0 fl_10_150 rfl rfl eh1 ?_
  refine EV.weak (L2 := [some (.inr (.inr (0)))]) (And.intro rfl trivial) ?_
  exact tX10_next_8 hd   _   _ hf

noncomputable def fX10_fails_23 (N : Nat)  (a1 : Int) (s0 : Int) (h : pv_H) : Option (pv_H) :=
  pv_b (pv_up h 0 12 s0) fun h3 => pv_b (pv_up h3 0 13 (h3 0 7)) fun h4 => some h4

noncomputable def fX10_fails (N : Nat) (a1 : Int) (h : pv_H) : Option (pv_H) :=
  if (h 0 12) = 0 then (if (h 0 10) = 43 then (fX10_fails_23 N  a1 (1) h) else (fX10_fails_23 N  a1 (a1) h)) else (some h)

set_option maxHeartbeats 4000000 in
set_option maxRecDepth 20000 in
theorem tX10_fails_23 {d N : Nat}  {a1 : Int} {s0 : Int} {h h' : pv_H}  (hd : 1 ≤ d)    (hf : fX10_fails_23 N  a1 s0 h = some h') : EV RX10 cX10_fails 2 none false d pv_SM (MM h') none 23 [some (.inr (.inr (0))), none] [.inl (s0), .inr (.inr (0))] pv_SM (MM h) := by
  unfold fX10_fails_23 at hf
  obtain ⟨h3, eh3, hf⟩ := pv_bo hf
  refine FV.putI dX10_fails_23 sm_0 fl_10_175 rfl rfl eh3 ?_
  refine EV.aload_n dX10_fails_26 rfl rfl ?_
  refine EV.aload_n dX10_fails_27 rfl rfl ?_
  refine FV.getI dX10_fails_28 sm_0 fl_10_150 rfl ?_
  obtain ⟨h4, eh4, hf⟩ := pv_bo hf
  refine FV.putI dX10_fails_31 sm_0 fl_10_178 rfl rfl eh4 ?_
  exact FV.vret dX10_fails_34 hf

set_option maxHeartbeats 4000000 in
set_option maxRecDepth 20000 in
theorem tX10_fails {d N : Nat} {a1 : Int} {h h' : pv_H}  (hd : 1 ≤ d)  (hf : fX10_fails N a1 h = some h') : CALL yX10_fails cX10_fails 2 none d pv_SM (MM h) [.inr (.inr (0)), .inl (a1)] pv_SM (MM h') none := by
  unfold fX10_fails at hf
  refine EV.call (own := RX10) (ini := false) rfl rfl (fun q => by cases q) ⟨[], (List.append_nil _).symm⟩ (Nat.le_of_ble_eq_true rfl) ?_
  refine EV.eqL (L2 := [some (.inr (.inr (0))), some (.inl (a1))]) rfl ?_
  refine EV.aload_n dX10_fails_0 rfl rfl ?_
  refine FV.getI dX10_fails_1 sm_0 fl_10_175 rfl ?_
  refine EV.if_eq (tgt := 8) dX10_fails_4 (by decide) (fun q1 => ?_) (fun q1 => ?_)
  · have hf := pv_gp hf q1
    refine EV.aload_n dX10_fails_8 rfl rfl ?_
    refine EV.aload_n dX10_fails_9 rfl rfl ?_
    refine FV.getI dX10_fails_10 sm_0 fl_10_159 rfl ?_
    refine EV.bipush dX10_fails_13 (by decide) (by decide) ?_
    refine EV.icmp_ne (tgt := 22) dX10_fails_15 (by decide) (fun q2 => ?_) (fun q2 => ?_)
    · have hf := pv_gn hf q2
      refine EV.iload_n dX10_fails_22 rfl rfl ?_
      refine EV.weak (L2 := [some (.inr (.inr (0))), none]) (And.intro rfl trivial) ?_
      exact tX10_fails_23 hd    hf
    · have hf := pv_gp hf q2
      refine EV.iconst dX10_fails_18 (by decide) (by decide) ?_
      refine EV.goto (tgt := 23) dX10_fails_19 (by decide) ?_
      refine EV.weak (L2 := [some (.inr (.inr (0))), none]) (And.intro rfl trivial) ?_
      exact tX10_fails_23 hd    hf
  · have hf := pv_gn hf q1
    exact FV.vret dX10_fails_7 hf

noncomputable def fX10_is_20 (N : Nat)  (a1 : Int) (s0 : Int) (h : pv_H) : Option (Int) :=
  if s0 = 0 ∨ s0 = 1 then (some (s0)) else none

noncomputable def fX10_is_19 (N : Nat)  (a1 : Int)  (h : pv_H) : Option (Int) :=
  fX10_is_20 N  a1 (0) h

noncomputable def fX10_is (N : Nat) (a1 : Int) (h : pv_H) : Option (Int) :=
  if (h 0 12) = 0 then (if (h 0 10) = a1 then (fX10_is_20 N  a1 (1) h) else (fX10_is_19 N  a1  h)) else (fX10_is_19 N  a1  h)

set_option maxHeartbeats 4000000 in
set_option maxRecDepth 20000 in
theorem tX10_is_20 {d N : Nat}  {a1 : Int} {s0 : Int} {h : pv_H} {r : Int} (hd : 1 ≤ d)    (hf : fX10_is_20 N  a1 s0 h = some r) : EV RX10 cX10_is 2 (some .boolean) false d pv_SM (MM h) (some (.inl r)) 20 [none, none] [.inl (s0)] pv_SM (MM h) := by
  unfold fX10_is_20 at hf
  obtain ⟨g3, hf⟩ := pv_gd hf
  exact FV.zretp dX10_is_20 g3 hf

set_option maxHeartbeats 4000000 in
set_option maxRecDepth 20000 in
theorem tX10_is_19 {d N : Nat}  {a1 : Int}  {h : pv_H} {r : Int} (hd : 1 ≤ d)    (hf : fX10_is_19 N  a1  h = some r) : EV RX10 cX10_is 2 (some .boolean) false d pv_SM (MM h) (some (.inl r)) 19 [none, none] [] pv_SM (MM h) := by
  unfold fX10_is_19 at hf
  refine EV.iconst dX10_is_19 (by decide) (by decide) ?_
  refine EV.weak (L2 := [none, none]) trivial ?_
  exact tX10_is_20 hd    hf

set_option maxHeartbeats 4000000 in
set_option maxRecDepth 20000 in
theorem tX10_is {d N : Nat} {a1 : Int} {h : pv_H} {r : Int} (hd : 1 ≤ d)  (hf : fX10_is N a1 h = some r) : CALL yX10_is cX10_is 2 (some .boolean) d pv_SM (MM h) [.inr (.inr (0)), .inl (a1)] pv_SM (MM h) (some (.inl r)) := by
  unfold fX10_is at hf
  refine EV.call (own := RX10) (ini := false) rfl rfl (fun q => by cases q) ⟨[], (List.append_nil _).symm⟩ (Nat.le_of_ble_eq_true rfl) ?_
  refine EV.eqL (L2 := [some (.inr (.inr (0))), some (.inl (a1))]) rfl ?_
  refine EV.aload_n dX10_is_0 rfl rfl ?_
  refine FV.getI dX10_is_1 sm_0 fl_10_175 rfl ?_
  refine EV.if_ne (tgt := 19) dX10_is_4 (by decide) (fun q1 => ?_) (fun q1 => ?_)
  · have hf := pv_gn hf q1
    refine EV.weak (L2 := [none, none]) trivial ?_
    exact tX10_is_19 hd    hf
  · have hf := pv_gp hf q1
    refine EV.aload_n dX10_is_7 rfl rfl ?_
    refine FV.getI dX10_is_8 sm_0 fl_10_159 rfl ?_
    refine EV.iload_n dX10_is_11 rfl rfl ?_
    refine EV.icmp_ne (tgt := 19) dX10_is_12 (by decide) (fun q2 => ?_) (fun q2 => ?_)
    · have hf := pv_gn hf q2
      refine EV.weak (L2 := [none, none]) trivial ?_
      exact tX10_is_19 hd    hf
    · have hf := pv_gp hf q2
      refine EV.iconst dX10_is_15 (by decide) (by decide) ?_
      refine EV.goto (tgt := 20) dX10_is_16 (by decide) ?_
      refine EV.weak (L2 := [none, none]) trivial ?_
      exact tX10_is_20 hd    hf

noncomputable def fX10_eats (N : Nat) (a1 : Int) (h : pv_H) : Option (pv_H × Int) :=
  pv_c1 (fX10_is N a1 h) fun r2 => if r2 = 0 then (some (h, 0)) else (pv_c1 (fX10_next N  h) fun h5 => some (h5, 1))

set_option maxHeartbeats 4000000 in
set_option maxRecDepth 20000 in
theorem tX10_eats {d N : Nat} {a1 : Int} {h h' : pv_H} {r : Int} (hd : 8 ≤ d)  (hf : fX10_eats N a1 h = some (h', r)) : CALL yX10_eats cX10_eats 2 (some .boolean) d pv_SM (MM h) [.inr (.inr (0)), .inl (a1)] pv_SM (MM h') (some (.inl r)) := by
  unfold fX10_eats at hf
  refine EV.call (own := RX10) (ini := false) rfl rfl (fun q => by cases q) ⟨[], (List.append_nil _).symm⟩ (Nat.le_of_ble_eq_true rfl) ?_
  refine EV.eqL (L2 := [some (.inr (.inr (0))), some (.inl (a1))]) rfl ?_
  refine EV.aload_n dX10_eats_0 rfl rfl ?_
  refine EV.iload_n dX10_eats_1 rfl rfl ?_
  obtain ⟨r2, hc1, hf⟩ := pv_c1o hf
  refine EV.invV (As := [.inl (a1)]) (st := []) (d1 := d - 1) (sh1 := pv_SM) (h1 := MM h) (r1 := (some (.inl r2))) dX10_eats_2 sm_0 (by decide) md_X10_is ml_X10_181 im_X10_is se_X10_is (tX10_is (by omega)  hc1) (by omega) rfl rfl (Nat.le_of_ble_eq_true rfl) ⟨[], (List.append_nil _).symm⟩ ?_
  refine EV.eqS (st2 := [.inl (r2)]) rfl ?_
  refine EV.if_ne (tgt := 10) dX10_eats_5 (by decide) (fun q3 => ?_) (fun q3 => ?_)
  · have hf := pv_gn hf q3
    refine EV.aload_n dX10_eats_10 rfl rfl ?_
    obtain ⟨h5, hc4, hf⟩ := pv_c1o hf
    refine EV.invV (As := []) (st := []) (d1 := d - 1) (sh1 := pv_SM) (h1 := MM h5) (r1 := none) dX10_eats_11 sm_0 (by decide) md_X10_next ml_X10_184 im_X10_next se_X10_next (tX10_next (by omega)  hc4) (by omega) rfl rfl (Nat.le_of_ble_eq_true rfl) ⟨[], (List.append_nil _).symm⟩ ?_
    refine EV.iconst dX10_eats_14 (by decide) (by decide) ?_
    exact FV.zret dX10_eats_15 (by decide) hf
  · have hf := pv_gp hf q3
    refine EV.iconst dX10_eats_8 (by decide) (by decide) ?_
    exact FV.zret dX10_eats_9 (by decide) hf

noncomputable def fX10_needs_13 (N : Nat)  (a1 : Int)  (h : pv_H) : Option (pv_H) :=
  some h

noncomputable def fX10_needs (N : Nat) (a1 : Int) (h : pv_H) : Option (pv_H) :=
  pv_c2b (fX10_eats N a1 h) fun h2 r3 => if r3 = 0 then (pv_c1 (fX10_fails N 2 h2) fun h6 => fX10_needs_13 N  a1  h6) else (fX10_needs_13 N  a1  h2)

set_option maxHeartbeats 4000000 in
set_option maxRecDepth 20000 in
theorem tX10_needs_13 {d N : Nat}  {a1 : Int}  {h h' : pv_H}  (hd : 9 ≤ d)    (hf : fX10_needs_13 N  a1  h = some h') : EV RX10 cX10_needs 2 none false d pv_SM (MM h') none 13 [none, none] [] pv_SM (MM h) := by
  unfold fX10_needs_13 at hf
  exact FV.vret dX10_needs_13 hf

set_option maxHeartbeats 4000000 in
set_option maxRecDepth 20000 in
theorem tX10_needs {d N : Nat} {a1 : Int} {h h' : pv_H}  (hd : 9 ≤ d)  (hf : fX10_needs N a1 h = some h') : CALL yX10_needs cX10_needs 2 none d pv_SM (MM h) [.inr (.inr (0)), .inl (a1)] pv_SM (MM h') none := by
  unfold fX10_needs at hf
  refine EV.call (own := RX10) (ini := false) rfl rfl (fun q => by cases q) ⟨[], (List.append_nil _).symm⟩ (Nat.le_of_ble_eq_true rfl) ?_
  refine EV.eqL (L2 := [some (.inr (.inr (0))), some (.inl (a1))]) rfl ?_
  refine EV.aload_n dX10_needs_0 rfl rfl ?_
  refine EV.iload_n dX10_needs_1 rfl rfl ?_
  obtain ⟨h2, r3, hc1, hf⟩ := pv_c2o hf
  refine EV.invV (As := [.inl (a1)]) (st := []) (d1 := d - 1) (sh1 := pv_SM) (h1 := MM h2) (r1 := (some (.inl r3))) dX10_needs_2 sm_0 (by decide) md_X10_eats ml_X10_187 im_X10_eats se_X10_eats (tX10_eats (by omega)  hc1) (by omega) rfl rfl (Nat.le_of_ble_eq_true rfl) ⟨[], (List.append_nil _).symm⟩ ?_
  refine EV.eqS (st2 := [.inl (r3)]) rfl ?_
  refine EV.if_ne (tgt := 13) dX10_needs_5 (by decide) (fun q4 => ?_) (fun q4 => ?_)
  · have hf := pv_gn hf q4
    refine EV.weak (L2 := [none, none]) trivial ?_
    exact tX10_needs_13 hd    hf
  · have hf := pv_gp hf q4
    refine EV.aload_n dX10_needs_8 rfl rfl ?_
    refine EV.iconst dX10_needs_9 (by decide) (by decide) ?_
    obtain ⟨h6, hc5, hf⟩ := pv_c1o hf
    refine EV.invV (As := [.inl (2)]) (st := []) (d1 := d - 1) (sh1 := pv_SM) (h1 := MM h6) (r1 := none) dX10_needs_10 sm_0 (by decide) md_X10_fails ml_X10_190 im_X10_fails se_X10_fails (tX10_fails (by omega)  hc5) (by omega) rfl rfl (Nat.le_of_ble_eq_true rfl) ⟨[], (List.append_nil _).symm⟩ ?_
    refine EV.weak (L2 := [none, none]) trivial ?_
    exact tX10_needs_13 hd    hf

noncomputable def fX10_reads_53 (N : Nat)  (a1 : Int) (a2 : Int) (v3 : Int) (h : pv_H) : Option (pv_H × Int) :=
  some (h, v3)

noncomputable def fX10_reads_37 (N : Nat)  (a1 : Int) (a2 : Int)  (h : pv_H) : Option (pv_H × Int) :=
  pv_b (h 0 11) fun x11 => if (h 0 12) = 0 then (pv_c1 (fX10_next N  h) fun h14 => fX10_reads_53 N  a1 a2 (x11) h14) else (fX10_reads_53 N  a1 a2 (x11) h)

noncomputable def fX10_reads (N : Nat) (a1 : Int) (a2 : Int) (h : pv_H) : Option (pv_H × Int) :=
  pv_c1 (fX10_is N 38 h) fun r2 => if r2 = 0 then (pv_c1 (fX10_fails N 2 h) fun h10 => fX10_reads_37 N  a1 a2  h10) else (pv_c1 (fX10_within N (h 0 11) a1 a2 h) fun r5 => if r5 = 0 then (pv_c1 (fX10_fails N 3 h) fun h8 => fX10_reads_37 N  a1 a2  h8) else (fX10_reads_37 N  a1 a2  h))

set_option maxHeartbeats 4000000 in
set_option maxRecDepth 20000 in
theorem tX10_reads_53 {d N : Nat}  {a1 : Int} {a2 : Int} {v3 : Int} {h h' : pv_H} {r : Int} (hd : 8 ≤ d)    (hf : fX10_reads_53 N  a1 a2 v3 h = some (h', r)) : EV RX10 cX10_reads 4 (some .int) false d pv_SM (MM h') (some (.inl r)) 53 [none, none, none, some (.inl (v3))] [] pv_SM (MM h) := by
  unfold fX10_reads_53 at hf
  refine EV.iload_n dX10_reads_53 rfl rfl ?_
  exact FV.iret dX10_reads_54 hf

set_option maxHeartbeats 4000000 in
set_option maxRecDepth 20000 in
theorem tX10_reads_37 {d N : Nat}  {a1 : Int} {a2 : Int}  {h h' : pv_H} {r : Int} (hd : 8 ≤ d)    (hf : fX10_reads_37 N  a1 a2  h = some (h', r)) : EV RX10 cX10_reads 4 (some .int) false d pv_SM (MM h') (some (.inl r)) 37 [some (.inr (.inr (0))), none, none, none] [] pv_SM (MM h) := by
  unfold fX10_reads_37 at hf
  refine EV.aload_n dX10_reads_37 rfl rfl ?_
  refine FV.getI dX10_reads_38 sm_0 fl_10_172 rfl ?_
  obtain ⟨x11, ex11, hf⟩ := pv_bo hf
  refine FV.sti (L2 := [some (.inr (.inr (0))), none, none, some (.inl (x11))]) dX10_reads_41 rfl (Nat.le_of_ble_eq_true rfl) ex11 rfl ?_
  refine EV.aload_n dX10_reads_42 rfl rfl ?_
  refine FV.getI dX10_reads_43 sm_0 fl_10_175 rfl ?_
  refine EV.if_ne (tgt := 53) dX10_reads_46 (by decide) (fun q12 => ?_) (fun q12 => ?_)
  · have hf := pv_gn hf q12
    refine EV.weak (L2 := [none, none, none, some (.inl (x11))]) (And.intro rfl trivial) ?_
    exact tX10_reads_53 hd    hf
  · have hf := pv_gp hf q12
    refine EV.aload_n dX10_reads_49 rfl rfl ?_
    obtain ⟨h14, hc13, hf⟩ := pv_c1o hf
    refine EV.invV (As := []) (st := []) (d1 := d - 1) (sh1 := pv_SM) (h1 := MM h14) (r1 := none) dX10_reads_50 sm_0 (by decide) md_X10_next ml_X10_184 im_X10_next se_X10_next (tX10_next (by omega)  hc13) (by omega) rfl rfl (Nat.le_of_ble_eq_true rfl) ⟨[], (List.append_nil _).symm⟩ ?_
    refine EV.weak (L2 := [none, none, none, some (.inl (x11))]) (And.intro rfl trivial) ?_
    exact tX10_reads_53 hd    hf

set_option maxHeartbeats 4000000 in
set_option maxRecDepth 20000 in
theorem tX10_reads {d N : Nat} {a1 : Int} {a2 : Int} {h h' : pv_H} {r : Int} (hd : 8 ≤ d)  (hf : fX10_reads N a1 a2 h = some (h', r)) : CALL yX10_reads cX10_reads 4 (some .int) d pv_SM (MM h) [.inr (.inr (0)), .inl (a1), .inl (a2)] pv_SM (MM h') (some (.inl r)) := by
  unfold fX10_reads at hf
  refine EV.call (own := RX10) (ini := false) rfl rfl (fun q => by cases q) ⟨[], (List.append_nil _).symm⟩ (Nat.le_of_ble_eq_true rfl) ?_
  refine EV.eqL (L2 := [some (.inr (.inr (0))), some (.inl (a1)), some (.inl (a2)), none]) rfl ?_
  refine EV.aload_n dX10_reads_0 rfl rfl ?_
  refine EV.bipush dX10_reads_1 (by decide) (by decide) ?_
  obtain ⟨r2, hc1, hf⟩ := pv_c1o hf
  refine EV.invV (As := [.inl (38)]) (st := []) (d1 := d - 1) (sh1 := pv_SM) (h1 := MM h) (r1 := (some (.inl r2))) dX10_reads_3 sm_0 (by decide) md_X10_is ml_X10_181 im_X10_is se_X10_is (tX10_is (by omega)  hc1) (by omega) rfl rfl (Nat.le_of_ble_eq_true rfl) ⟨[], (List.append_nil _).symm⟩ ?_
  refine EV.eqS (st2 := [.inl (r2)]) rfl ?_
  refine EV.if_ne (tgt := 17) dX10_reads_6 (by decide) (fun q3 => ?_) (fun q3 => ?_)
  · have hf := pv_gn hf q3
    refine EV.aload_n dX10_reads_17 rfl rfl ?_
    refine FV.getI dX10_reads_18 sm_0 fl_10_172 rfl ?_
    refine EV.i2l dX10_reads_21 ?_
    refine EV.iload_n dX10_reads_22 rfl rfl ?_
    refine EV.i2l dX10_reads_23 ?_
    refine EV.iload_n dX10_reads_24 rfl rfl ?_
    refine EV.i2l dX10_reads_25 ?_
    obtain ⟨r5, hc4, hf⟩ := pv_c1o hf
    refine EV.invS (As := [.inr (.inl (h 0 11)), .inr (.inl (a1)), .inr (.inl (a2))]) (st := []) (d1 := d - 1) (sh1 := pv_SM) (h1 := MM h) (r1 := (some (.inl r5))) dX10_reads_26 md_X10_within ml_X10_193 st_X10_within (tX10_within (by omega)  hc4) (by omega) rfl rfl (Nat.le_of_ble_eq_true rfl) ⟨[], (List.append_nil _).symm⟩ ?_
    refine EV.eqS (st2 := [.inl (r5)]) rfl ?_
    refine EV.if_ne (tgt := 37) dX10_reads_29 (by decide) (fun q6 => ?_) (fun q6 => ?_)
    · have hf := pv_gn hf q6
      refine EV.weak (L2 := [some (.inr (.inr (0))), none, none, none]) (And.intro rfl trivial) ?_
      exact tX10_reads_37 hd    hf
    · have hf := pv_gp hf q6
      refine EV.aload_n dX10_reads_32 rfl rfl ?_
      refine EV.iconst dX10_reads_33 (by decide) (by decide) ?_
      obtain ⟨h8, hc7, hf⟩ := pv_c1o hf
      refine EV.invV (As := [.inl (3)]) (st := []) (d1 := d - 1) (sh1 := pv_SM) (h1 := MM h8) (r1 := none) dX10_reads_34 sm_0 (by decide) md_X10_fails ml_X10_190 im_X10_fails se_X10_fails (tX10_fails (by omega)  hc7) (by omega) rfl rfl (Nat.le_of_ble_eq_true rfl) ⟨[], (List.append_nil _).symm⟩ ?_
      refine EV.weak (L2 := [some (.inr (.inr (0))), none, none, none]) (And.intro rfl trivial) ?_
      exact tX10_reads_37 hd    hf
  · have hf := pv_gp hf q3
    refine EV.aload_n dX10_reads_9 rfl rfl ?_
    refine EV.iconst dX10_reads_10 (by decide) (by decide) ?_
    obtain ⟨h10, hc9, hf⟩ := pv_c1o hf
    refine EV.invV (As := [.inl (2)]) (st := []) (d1 := d - 1) (sh1 := pv_SM) (h1 := MM h10) (r1 := none) dX10_reads_11 sm_0 (by decide) md_X10_fails ml_X10_190 im_X10_fails se_X10_fails (tX10_fails (by omega)  hc9) (by omega) rfl rfl (Nat.le_of_ble_eq_true rfl) ⟨[], (List.append_nil _).symm⟩ ?_
    refine EV.goto (tgt := 37) dX10_reads_14 (by decide) ?_
    refine EV.weak (L2 := [some (.inr (.inr (0))), none, none, none]) (And.intro rfl trivial) ?_
    exact tX10_reads_37 hd    hf

noncomputable def fX10_readSpans_127 (N : Nat) (k44 : pv_H → Option (pv_H)) (a1 : Int) (a2 : Int)  (h : pv_H) : Option (pv_H) :=
  k44  h

noncomputable def fX10_readSpans_97 (N : Nat) (k44 : pv_H → Option (pv_H)) (a1 : Int) (a2 : Int) : Nat → Int → Int → pv_H → Option (pv_H)
  | 0, _, _, _ => none
  | n + 1, v4, v5, h => if v4 < v5 then (fX10_readSpans_127 N (k44) a1 a2  h) else (if (h 0 12) = 0 then (if 0 ≤ pv_w (a1 + v5) ∧ pv_w (a1 + v5) < 417 then (pv_b (pv_up h 5 (Int.toNat (pv_w (a1 + v5))) a2) fun h26 => pv_b (pv_w (v5 + 1)) fun x27 => fX10_readSpans_97 N k44 a1 a2 n (v4) (x27) h26) else none) else (fX10_readSpans_127 N (k44) a1 a2  h))

noncomputable def fX10_readSpans_94 (N : Nat) (k44 : pv_H → Option (pv_H)) (a1 : Int) (a2 : Int) (v3 : Int) (v4 : Int) (h : pv_H) : Option (pv_H) :=
  fX10_readSpans_97 N (k44) a1 a2 N (v4) (v3) h

noncomputable def fX10_readSpans_44 (N : Nat)  (a1 : Int) (a2 : Int) : Nat → pv_H → Option (pv_H)
  | 0, _ => none
  | n + 1, h => pv_c2b (fX10_eats N 7 h) fun h5 r6 => if r6 = 0 then (some h5) else (pv_c2b (fX10_reads N 0 (pv_w ((h5 5 0) - 1)) h5) fun h9 r10 => pv_c2b (fX10_eats N 8 h9) fun h12 r13 => if r13 = 0 then (fX10_readSpans_94 N (fun  hh => fX10_readSpans_44 N  a1 a2 n  hh) a1 a2 (r10) (r10) h12) else (pv_c2b (fX10_reads N r10 (pv_w ((h12 5 0) - 1)) h12) fun h16 r17 => fX10_readSpans_94 N (fun  hh => fX10_readSpans_44 N  a1 a2 n  hh) a1 a2 (r10) (r17) h16))

noncomputable def fX10_readSpans_43 (N : Nat)  (a1 : Int) (a2 : Int)  (h : pv_H) : Option (pv_H) :=
  some h

noncomputable def fX10_readSpans_11 (N : Nat)  (a1 : Int) (a2 : Int) : Nat → Int → pv_H → Option (pv_H)
  | 0, _, _ => none
  | n + 1, v3, h => if (h 5 0) ≤ v3 then (fX10_readSpans_43 N  a1 a2  h) else (if (h 0 12) = 0 then (if 0 ≤ pv_w (a1 + v3) ∧ pv_w (a1 + v3) < 417 then (pv_b (pv_up h 5 (Int.toNat (pv_w (a1 + v3))) a2) fun h21 => pv_b (pv_w (v3 + 1)) fun x22 => fX10_readSpans_11 N  a1 a2 n (x22) h21) else none) else (fX10_readSpans_43 N  a1 a2  h))

noncomputable def fX10_readSpans (N : Nat) (a1 : Int) (a2 : Int) (h : pv_H) : Option (pv_H) :=
  pv_c1 (fX10_is N 7 h) fun r2 => if r2 = 0 then (fX10_readSpans_11 N  a1 a2 N (0) h) else (fX10_readSpans_44 N  a1 a2 N  h)

set_option maxHeartbeats 4000000 in
set_option maxRecDepth 20000 in
theorem tX10_readSpans_127 {d N : Nat} {k44 : pv_H → Option (pv_H)} {a1 : Int} {a2 : Int}  {h h' : pv_H}  (hd : 9 ≤ d) (hk44 : ∀   (hh : pv_H), k44  hh = some h' → EV RX10 cX10_readSpans 6 none false d pv_SM (MM h') none 44 [some (.inr (.inr (0))), some (.inl (a1)), some (.inl (a2)), none, none, none] [] pv_SM (MM hh))   (hf : fX10_readSpans_127 N k44 a1 a2  h = some h') : EV RX10 cX10_readSpans 6 none false d pv_SM (MM h') none 127 [some (.inr (.inr (0))), some (.inl (a1)), some (.inl (a2)), none, none, none] [] pv_SM (MM h) := by
  unfold fX10_readSpans_127 at hf
  refine EV.goto (tgt := 44) dX10_readSpans_127 (by decide) ?_
  refine EV.weak (L2 := [some (.inr (.inr (0))), some (.inl (a1)), some (.inl (a2)), none, none, none]) (And.intro rfl (And.intro rfl (And.intro rfl trivial))) ?_
  exact hk44   _ hf

set_option maxHeartbeats 4000000 in
set_option maxRecDepth 20000 in
theorem tX10_readSpans_97 {d N : Nat} {k44 : pv_H → Option (pv_H)} {a1 : Int} {a2 : Int} {h' : pv_H}  (hd : 9 ≤ d) (hk44 : ∀   (hh : pv_H), k44  hh = some h' → EV RX10 cX10_readSpans 6 none false d pv_SM (MM h') none 44 [some (.inr (.inr (0))), some (.inl (a1)), some (.inl (a2)), none, none, none] [] pv_SM (MM hh))  : ∀ (n : Nat) (v4 : Int) (v5 : Int)  (h : pv_H), fX10_readSpans_97 N k44 a1 a2 n v4 v5 h = some h' → EV RX10 cX10_readSpans 6 none false d pv_SM (MM h') none 97 [some (.inr (.inr (0))), some (.inl (a1)), some (.inl (a2)), none, some (.inl (v4)), some (.inl (v5))] [] pv_SM (MM h) := by
  intro n
  induction n with
  | zero =>
    intro v4 v5  h hf
    cases hf
  | succ n ih =>
    intro v4 v5  h hf
    rw [fX10_readSpans_97] at hf
    refine EV.iload dX10_readSpans_97 rfl ?_
    refine EV.iload dX10_readSpans_99 rfl ?_
    refine EV.icmp_gt (tgt := 127) dX10_readSpans_101 (by decide) (fun q23 => ?_) (fun q23 => ?_)
    · have hf := pv_gp hf q23
      refine EV.weak (L2 := [some (.inr (.inr (0))), some (.inl (a1)), some (.inl (a2)), none, none, none]) (And.intro rfl (And.intro rfl (And.intro rfl trivial))) ?_
      exact tX10_readSpans_127 hd (hk44)   hf
    · have hf := pv_gn hf q23
      refine EV.aload_n dX10_readSpans_104 rfl rfl ?_
      refine FV.getI dX10_readSpans_105 sm_0 fl_10_175 rfl ?_
      refine EV.if_ne (tgt := 127) dX10_readSpans_108 (by decide) (fun q24 => ?_) (fun q24 => ?_)
      · have hf := pv_gn hf q24
        refine EV.weak (L2 := [some (.inr (.inr (0))), some (.inl (a1)), some (.inl (a2)), none, none, none]) (And.intro rfl (And.intro rfl (And.intro rfl trivial))) ?_
        exact tX10_readSpans_127 hd (hk44)   hf
      · have hf := pv_gp hf q24
        refine EV.aload_n dX10_readSpans_111 rfl rfl ?_
        refine FV.getF (v := 5) dX10_readSpans_112 sm_0 fl_10_27 rfl rfl hvm_0_5 ?_
        refine EV.iload_n dX10_readSpans_115 rfl rfl ?_
        refine EV.iload dX10_readSpans_116 rfl ?_
        refine EV.iadd dX10_readSpans_118 ?_
        refine EV.iload_n dX10_readSpans_119 rfl rfl ?_
        obtain ⟨g25, hf⟩ := pv_gd hf
        obtain ⟨h26, eh26, hf⟩ := pv_bo hf
        refine FV.iast dX10_readSpans_120 sm_5 g25.1 g25.2 (j := (Int.toNat (pv_w (a1 + v5)))) rfl eh26 ?_
        obtain ⟨x27, ex27, hf⟩ := pv_bo hf
        refine FV.inc (L2 := [some (.inr (.inr (0))), some (.inl (a1)), some (.inl (a2)), none, some (.inl (v4)), some (.inl (x27))]) dX10_readSpans_121 rfl (Nat.le_of_ble_eq_true rfl) ex27 rfl ?_
        refine EV.goto (tgt := 97) dX10_readSpans_124 (by decide) ?_
        refine EV.weak (L2 := [some (.inr (.inr (0))), some (.inl (a1)), some (.inl (a2)), none, some (.inl (v4)), some (.inl (x27))]) (And.intro rfl (And.intro rfl (And.intro rfl (And.intro rfl (And.intro rfl trivial))))) ?_
        exact ih _ _  _ hf

set_option maxHeartbeats 4000000 in
set_option maxRecDepth 20000 in
theorem tX10_readSpans_94 {d N : Nat} {k44 : pv_H → Option (pv_H)} {a1 : Int} {a2 : Int} {v3 : Int} {v4 : Int} {h h' : pv_H}  (hd : 9 ≤ d) (hk44 : ∀   (hh : pv_H), k44  hh = some h' → EV RX10 cX10_readSpans 6 none false d pv_SM (MM h') none 44 [some (.inr (.inr (0))), some (.inl (a1)), some (.inl (a2)), none, none, none] [] pv_SM (MM hh))   (hf : fX10_readSpans_94 N k44 a1 a2 v3 v4 h = some h') : EV RX10 cX10_readSpans 6 none false d pv_SM (MM h') none 94 [some (.inr (.inr (0))), some (.inl (a1)), some (.inl (a2)), some (.inl (v3)), some (.inl (v4)), none] [] pv_SM (MM h) := by
  unfold fX10_readSpans_94 at hf
  refine EV.iload_n dX10_readSpans_94 rfl rfl ?_
  refine FV.stiw (L2 := [some (.inr (.inr (0))), some (.inl (a1)), some (.inl (a2)), some (.inl (v3)), some (.inl (v4)), some (.inl (v3))]) dX10_readSpans_95 (Nat.le_of_ble_eq_true rfl) rfl rfl ?_
  refine EV.weak (L2 := [some (.inr (.inr (0))), some (.inl (a1)), some (.inl (a2)), none, some (.inl (v4)), some (.inl (v3))]) (And.intro rfl (And.intro rfl (And.intro rfl (And.intro rfl (And.intro rfl trivial))))) ?_
  exact tX10_readSpans_97 hd (hk44)  _ _ _  _ hf

set_option maxHeartbeats 4000000 in
set_option maxRecDepth 20000 in
theorem tX10_readSpans_44 {d N : Nat}  {a1 : Int} {a2 : Int} {h' : pv_H}  (hd : 9 ≤ d)   : ∀ (n : Nat)   (h : pv_H), fX10_readSpans_44 N  a1 a2 n  h = some h' → EV RX10 cX10_readSpans 6 none false d pv_SM (MM h') none 44 [some (.inr (.inr (0))), some (.inl (a1)), some (.inl (a2)), none, none, none] [] pv_SM (MM h) := by
  intro n
  induction n with
  | zero =>
    intro   h hf
    cases hf
  | succ n ih =>
    intro   h hf
    rw [fX10_readSpans_44] at hf
    refine EV.aload_n dX10_readSpans_44 rfl rfl ?_
    refine EV.bipush dX10_readSpans_45 (by decide) (by decide) ?_
    obtain ⟨h5, r6, hc4, hf⟩ := pv_c2o hf
    refine EV.invV (As := [.inl (7)]) (st := []) (d1 := d - 1) (sh1 := pv_SM) (h1 := MM h5) (r1 := (some (.inl r6))) dX10_readSpans_47 sm_0 (by decide) md_X10_eats ml_X10_187 im_X10_eats se_X10_eats (tX10_eats (by omega)  hc4) (by omega) rfl rfl (Nat.le_of_ble_eq_true rfl) ⟨[], (List.append_nil _).symm⟩ ?_
    refine EV.eqS (st2 := [.inl (r6)]) rfl ?_
    refine EV.if_eq (tgt := 130) dX10_readSpans_50 (by decide) (fun q7 => ?_) (fun q7 => ?_)
    · have hf := pv_gp hf q7
      exact FV.vret dX10_readSpans_130 hf
    · have hf := pv_gn hf q7
      refine EV.aload_n dX10_readSpans_53 rfl rfl ?_
      refine EV.iconst dX10_readSpans_54 (by decide) (by decide) ?_
      refine EV.aload_n dX10_readSpans_55 rfl rfl ?_
      refine FV.getF (v := 5) dX10_readSpans_56 sm_0 fl_10_27 rfl rfl hvm_0_5 ?_
      refine EV.iconst dX10_readSpans_59 (by decide) (by decide) ?_
      refine FV.iald dX10_readSpans_60 sm_5 (by decide) (by decide) (j := 0) rfl ?_
      refine EV.iconst dX10_readSpans_61 (by decide) (by decide) ?_
      refine EV.isub dX10_readSpans_62 ?_
      obtain ⟨h9, r10, hc8, hf⟩ := pv_c2o hf
      refine EV.invV (As := [.inl (0), .inl (pv_w ((h5 5 0) - 1))]) (st := []) (d1 := d - 1) (sh1 := pv_SM) (h1 := MM h9) (r1 := (some (.inl r10))) dX10_readSpans_63 sm_0 (by decide) md_X10_reads ml_X10_197 im_X10_reads se_X10_reads (tX10_reads (by omega)  hc8) (by omega) rfl rfl (Nat.le_of_ble_eq_true rfl) ⟨[], (List.append_nil _).symm⟩ ?_
      refine EV.eqS (st2 := [.inl (r10)]) rfl ?_
      refine FV.sti (L2 := [some (.inr (.inr (0))), some (.inl (a1)), some (.inl (a2)), some (.inl (r10)), none, none]) dX10_readSpans_66 rfl (Nat.le_of_ble_eq_true rfl) rfl rfl ?_
      refine EV.iload_n dX10_readSpans_67 rfl rfl ?_
      refine FV.stiw (L2 := [some (.inr (.inr (0))), some (.inl (a1)), some (.inl (a2)), some (.inl (r10)), some (.inl (r10)), none]) dX10_readSpans_68 (Nat.le_of_ble_eq_true rfl) rfl rfl ?_
      refine EV.aload_n dX10_readSpans_70 rfl rfl ?_
      refine EV.bipush dX10_readSpans_71 (by decide) (by decide) ?_
      obtain ⟨h12, r13, hc11, hf⟩ := pv_c2o hf
      refine EV.invV (As := [.inl (8)]) (st := []) (d1 := d - 1) (sh1 := pv_SM) (h1 := MM h12) (r1 := (some (.inl r13))) dX10_readSpans_73 sm_0 (by decide) md_X10_eats ml_X10_187 im_X10_eats se_X10_eats (tX10_eats (by omega)  hc11) (by omega) rfl rfl (Nat.le_of_ble_eq_true rfl) ⟨[], (List.append_nil _).symm⟩ ?_
      refine EV.eqS (st2 := [.inl (r13)]) rfl ?_
      refine EV.if_eq (tgt := 94) dX10_readSpans_76 (by decide) (fun q14 => ?_) (fun q14 => ?_)
      · have hf := pv_gp hf q14
        refine EV.weak (L2 := [some (.inr (.inr (0))), some (.inl (a1)), some (.inl (a2)), some (.inl (r10)), some (.inl (r10)), none]) (And.intro rfl (And.intro rfl (And.intro rfl (And.intro rfl (And.intro rfl trivial))))) ?_
        exact tX10_readSpans_94 hd (ih)   hf
      · have hf := pv_gn hf q14
        refine EV.aload_n dX10_readSpans_79 rfl rfl ?_
        refine EV.iload_n dX10_readSpans_80 rfl rfl ?_
        refine EV.aload_n dX10_readSpans_81 rfl rfl ?_
        refine FV.getF (v := 5) dX10_readSpans_82 sm_0 fl_10_27 rfl rfl hvm_0_5 ?_
        refine EV.iconst dX10_readSpans_85 (by decide) (by decide) ?_
        refine FV.iald dX10_readSpans_86 sm_5 (by decide) (by decide) (j := 0) rfl ?_
        refine EV.iconst dX10_readSpans_87 (by decide) (by decide) ?_
        refine EV.isub dX10_readSpans_88 ?_
        obtain ⟨h16, r17, hc15, hf⟩ := pv_c2o hf
        refine EV.invV (As := [.inl (r10), .inl (pv_w ((h12 5 0) - 1))]) (st := []) (d1 := d - 1) (sh1 := pv_SM) (h1 := MM h16) (r1 := (some (.inl r17))) dX10_readSpans_89 sm_0 (by decide) md_X10_reads ml_X10_197 im_X10_reads se_X10_reads (tX10_reads (by omega)  hc15) (by omega) rfl rfl (Nat.le_of_ble_eq_true rfl) ⟨[], (List.append_nil _).symm⟩ ?_
        refine EV.eqS (st2 := [.inl (r17)]) rfl ?_
        refine FV.stiw (L2 := [some (.inr (.inr (0))), some (.inl (a1)), some (.inl (a2)), some (.inl (r10)), some (.inl (r17)), none]) dX10_readSpans_92 (Nat.le_of_ble_eq_true rfl) rfl rfl ?_
        refine EV.weak (L2 := [some (.inr (.inr (0))), some (.inl (a1)), some (.inl (a2)), some (.inl (r10)), some (.inl (r17)), none]) (And.intro rfl (And.intro rfl (And.intro rfl (And.intro rfl (And.intro rfl trivial))))) ?_
        exact tX10_readSpans_94 hd (ih)   hf

set_option maxHeartbeats 4000000 in
set_option maxRecDepth 20000 in
theorem tX10_readSpans_43 {d N : Nat}  {a1 : Int} {a2 : Int}  {h h' : pv_H}  (hd : 9 ≤ d)    (hf : fX10_readSpans_43 N  a1 a2  h = some h') : EV RX10 cX10_readSpans 6 none false d pv_SM (MM h') none 43 [none, none, none, none, none, none] [] pv_SM (MM h) := by
  unfold fX10_readSpans_43 at hf
  exact FV.vret dX10_readSpans_43 hf

set_option maxHeartbeats 4000000 in
set_option maxRecDepth 20000 in
theorem tX10_readSpans_11 {d N : Nat}  {a1 : Int} {a2 : Int} {h' : pv_H}  (hd : 9 ≤ d)   : ∀ (n : Nat) (v3 : Int)  (h : pv_H), fX10_readSpans_11 N  a1 a2 n v3 h = some h' → EV RX10 cX10_readSpans 6 none false d pv_SM (MM h') none 11 [some (.inr (.inr (0))), some (.inl (a1)), some (.inl (a2)), some (.inl (v3)), none, none] [] pv_SM (MM h) := by
  intro n
  induction n with
  | zero =>
    intro v3  h hf
    cases hf
  | succ n ih =>
    intro v3  h hf
    rw [fX10_readSpans_11] at hf
    refine EV.iload_n dX10_readSpans_11 rfl rfl ?_
    refine EV.aload_n dX10_readSpans_12 rfl rfl ?_
    refine FV.getF (v := 5) dX10_readSpans_13 sm_0 fl_10_27 rfl rfl hvm_0_5 ?_
    refine EV.iconst dX10_readSpans_16 (by decide) (by decide) ?_
    refine FV.iald dX10_readSpans_17 sm_5 (by decide) (by decide) (j := 0) rfl ?_
    refine EV.icmp_ge (tgt := 43) dX10_readSpans_18 (by decide) (fun q18 => ?_) (fun q18 => ?_)
    · have hf := pv_gp hf q18
      refine EV.weak (L2 := [none, none, none, none, none, none]) trivial ?_
      exact tX10_readSpans_43 hd    hf
    · have hf := pv_gn hf q18
      refine EV.aload_n dX10_readSpans_21 rfl rfl ?_
      refine FV.getI dX10_readSpans_22 sm_0 fl_10_175 rfl ?_
      refine EV.if_ne (tgt := 43) dX10_readSpans_25 (by decide) (fun q19 => ?_) (fun q19 => ?_)
      · have hf := pv_gn hf q19
        refine EV.weak (L2 := [none, none, none, none, none, none]) trivial ?_
        exact tX10_readSpans_43 hd    hf
      · have hf := pv_gp hf q19
        refine EV.aload_n dX10_readSpans_28 rfl rfl ?_
        refine FV.getF (v := 5) dX10_readSpans_29 sm_0 fl_10_27 rfl rfl hvm_0_5 ?_
        refine EV.iload_n dX10_readSpans_32 rfl rfl ?_
        refine EV.iload_n dX10_readSpans_33 rfl rfl ?_
        refine EV.iadd dX10_readSpans_34 ?_
        refine EV.iload_n dX10_readSpans_35 rfl rfl ?_
        obtain ⟨g20, hf⟩ := pv_gd hf
        obtain ⟨h21, eh21, hf⟩ := pv_bo hf
        refine FV.iast dX10_readSpans_36 sm_5 g20.1 g20.2 (j := (Int.toNat (pv_w (a1 + v3)))) rfl eh21 ?_
        obtain ⟨x22, ex22, hf⟩ := pv_bo hf
        refine FV.inc (L2 := [some (.inr (.inr (0))), some (.inl (a1)), some (.inl (a2)), some (.inl (x22)), none, none]) dX10_readSpans_37 rfl (Nat.le_of_ble_eq_true rfl) ex22 rfl ?_
        refine EV.goto (tgt := 11) dX10_readSpans_40 (by decide) ?_
        refine EV.weak (L2 := [some (.inr (.inr (0))), some (.inl (a1)), some (.inl (a2)), some (.inl (x22)), none, none]) (And.intro rfl (And.intro rfl (And.intro rfl (And.intro rfl trivial)))) ?_
        exact ih _  _ hf

set_option maxHeartbeats 4000000 in
set_option maxRecDepth 20000 in
theorem tX10_readSpans {d N : Nat} {a1 : Int} {a2 : Int} {h h' : pv_H}  (hd : 9 ≤ d)  (hf : fX10_readSpans N a1 a2 h = some h') : CALL yX10_readSpans cX10_readSpans 6 none d pv_SM (MM h) [.inr (.inr (0)), .inl (a1), .inl (a2)] pv_SM (MM h') none := by
  unfold fX10_readSpans at hf
  refine EV.call (own := RX10) (ini := false) rfl rfl (fun q => by cases q) ⟨[], (List.append_nil _).symm⟩ (Nat.le_of_ble_eq_true rfl) ?_
  refine EV.eqL (L2 := [some (.inr (.inr (0))), some (.inl (a1)), some (.inl (a2)), none, none, none]) rfl ?_
  refine EV.aload_n dX10_readSpans_0 rfl rfl ?_
  refine EV.bipush dX10_readSpans_1 (by decide) (by decide) ?_
  obtain ⟨r2, hc1, hf⟩ := pv_c1o hf
  refine EV.invV (As := [.inl (7)]) (st := []) (d1 := d - 1) (sh1 := pv_SM) (h1 := MM h) (r1 := (some (.inl r2))) dX10_readSpans_3 sm_0 (by decide) md_X10_is ml_X10_181 im_X10_is se_X10_is (tX10_is (by omega)  hc1) (by omega) rfl rfl (Nat.le_of_ble_eq_true rfl) ⟨[], (List.append_nil _).symm⟩ ?_
  refine EV.eqS (st2 := [.inl (r2)]) rfl ?_
  refine EV.if_ne (tgt := 44) dX10_readSpans_6 (by decide) (fun q3 => ?_) (fun q3 => ?_)
  · have hf := pv_gn hf q3
    refine EV.weak (L2 := [some (.inr (.inr (0))), some (.inl (a1)), some (.inl (a2)), none, none, none]) (And.intro rfl (And.intro rfl (And.intro rfl trivial))) ?_
    exact tX10_readSpans_44 hd   _   _ hf
  · have hf := pv_gp hf q3
    refine EV.iconst dX10_readSpans_9 (by decide) (by decide) ?_
    refine FV.sti (L2 := [some (.inr (.inr (0))), some (.inl (a1)), some (.inl (a2)), some (.inl (0)), none, none]) dX10_readSpans_10 rfl (Nat.le_of_ble_eq_true rfl) rfl rfl ?_
    refine EV.weak (L2 := [some (.inr (.inr (0))), some (.inl (a1)), some (.inl (a2)), some (.inl (0)), none, none]) (And.intro rfl (And.intro rfl (And.intro rfl (And.intro rfl trivial)))) ?_
    exact tX10_readSpans_11 hd   _ _  _ hf

noncomputable def fX10_readFirst_20 (N : Nat)   : Nat → Int → pv_H → Option (pv_H)
  | 0, _, _ => none
  | n + 1, v1, h => if 60 ≤ v1 then (some h) else (if 0 ≤ pv_w (2 + v1) ∧ pv_w (2 + v1) < 417 then (pv_b (pv_up h 5 (Int.toNat (pv_w (2 + v1))) 10) fun h9 => if 0 ≤ pv_w (62 + v1) ∧ pv_w (62 + v1) < 417 then (pv_b (pv_up h9 5 (Int.toNat (pv_w (62 + v1))) 100) fun h11 => pv_b (pv_w (v1 + 1)) fun x12 => fX10_readFirst_20 N   n (x12) h11) else none) else none)

noncomputable def fX10_readFirst (N : Nat)  (h : pv_H) : Option (pv_H) :=
  pv_c1 (fX10_needs N 0 h) fun h2 => pv_c2b (fX10_reads N 3 60 h2) fun h4 r5 => pv_b (pv_up h4 5 0 r5) fun h6 => fX10_readFirst_20 N   N (0) h6

set_option maxHeartbeats 4000000 in
set_option maxRecDepth 20000 in
theorem tX10_readFirst_20 {d N : Nat}   {h' : pv_H}  (hd : 10 ≤ d)   : ∀ (n : Nat) (v1 : Int)  (h : pv_H), fX10_readFirst_20 N   n v1 h = some h' → EV RX10 cX10_readFirst 2 none false d pv_SM (MM h') none 20 [some (.inr (.inr (0))), some (.inl (v1))] [] pv_SM (MM h) := by
  intro n
  induction n with
  | zero =>
    intro v1  h hf
    cases hf
  | succ n ih =>
    intro v1  h hf
    rw [fX10_readFirst_20] at hf
    refine EV.iload_n dX10_readFirst_20 rfl rfl ?_
    refine EV.bipush dX10_readFirst_21 (by decide) (by decide) ?_
    refine EV.icmp_ge (tgt := 53) dX10_readFirst_23 (by decide) (fun q7 => ?_) (fun q7 => ?_)
    · have hf := pv_gp hf q7
      exact FV.vret dX10_readFirst_53 hf
    · have hf := pv_gn hf q7
      refine EV.aload_n dX10_readFirst_26 rfl rfl ?_
      refine FV.getF (v := 5) dX10_readFirst_27 sm_0 fl_10_27 rfl rfl hvm_0_5 ?_
      refine EV.iconst dX10_readFirst_30 (by decide) (by decide) ?_
      refine EV.iload_n dX10_readFirst_31 rfl rfl ?_
      refine EV.iadd dX10_readFirst_32 ?_
      refine EV.bipush dX10_readFirst_33 (by decide) (by decide) ?_
      obtain ⟨g8, hf⟩ := pv_gd hf
      obtain ⟨h9, eh9, hf⟩ := pv_bo hf
      refine FV.iast dX10_readFirst_35 sm_5 g8.1 g8.2 (j := (Int.toNat (pv_w (2 + v1)))) rfl eh9 ?_
      refine EV.aload_n dX10_readFirst_36 rfl rfl ?_
      refine FV.getF (v := 5) dX10_readFirst_37 sm_0 fl_10_27 rfl rfl hvm_0_5 ?_
      refine EV.bipush dX10_readFirst_40 (by decide) (by decide) ?_
      refine EV.iload_n dX10_readFirst_42 rfl rfl ?_
      refine EV.iadd dX10_readFirst_43 ?_
      refine EV.bipush dX10_readFirst_44 (by decide) (by decide) ?_
      obtain ⟨g10, hf⟩ := pv_gd hf
      obtain ⟨h11, eh11, hf⟩ := pv_bo hf
      refine FV.iast dX10_readFirst_46 sm_5 g10.1 g10.2 (j := (Int.toNat (pv_w (62 + v1)))) rfl eh11 ?_
      obtain ⟨x12, ex12, hf⟩ := pv_bo hf
      refine FV.inc (L2 := [some (.inr (.inr (0))), some (.inl (x12))]) dX10_readFirst_47 rfl (Nat.le_of_ble_eq_true rfl) ex12 rfl ?_
      refine EV.goto (tgt := 20) dX10_readFirst_50 (by decide) ?_
      refine EV.weak (L2 := [some (.inr (.inr (0))), some (.inl (x12))]) (And.intro rfl (And.intro rfl trivial)) ?_
      exact ih _  _ hf

set_option maxHeartbeats 4000000 in
set_option maxRecDepth 20000 in
theorem tX10_readFirst {d N : Nat}  {h h' : pv_H}  (hd : 10 ≤ d)  (hf : fX10_readFirst N  h = some h') : CALL yX10_readFirst cX10_readFirst 2 none d pv_SM (MM h) [.inr (.inr (0))] pv_SM (MM h') none := by
  unfold fX10_readFirst at hf
  refine EV.call (own := RX10) (ini := false) rfl rfl (fun q => by cases q) ⟨[], (List.append_nil _).symm⟩ (Nat.le_of_ble_eq_true rfl) ?_
  refine EV.eqL (L2 := [some (.inr (.inr (0))), none]) rfl ?_
  refine EV.aload_n dX10_readFirst_0 rfl rfl ?_
  refine EV.iconst dX10_readFirst_1 (by decide) (by decide) ?_
  obtain ⟨h2, hc1, hf⟩ := pv_c1o hf
  refine EV.invV (As := [.inl (0)]) (st := []) (d1 := d - 1) (sh1 := pv_SM) (h1 := MM h2) (r1 := none) dX10_readFirst_2 sm_0 (by decide) md_X10_needs ml_X10_201 im_X10_needs se_X10_needs (tX10_needs (by omega)  hc1) (by omega) rfl rfl (Nat.le_of_ble_eq_true rfl) ⟨[], (List.append_nil _).symm⟩ ?_
  refine EV.aload_n dX10_readFirst_5 rfl rfl ?_
  refine FV.getF (v := 5) dX10_readFirst_6 sm_0 fl_10_27 rfl rfl hvm_0_5 ?_
  refine EV.iconst dX10_readFirst_9 (by decide) (by decide) ?_
  refine EV.aload_n dX10_readFirst_10 rfl rfl ?_
  refine EV.iconst dX10_readFirst_11 (by decide) (by decide) ?_
  refine EV.bipush dX10_readFirst_12 (by decide) (by decide) ?_
  obtain ⟨h4, r5, hc3, hf⟩ := pv_c2o hf
  refine EV.invV (As := [.inl (3), .inl (60)]) (st := [.inl (0), .inr (.inr (5))]) (d1 := d - 1) (sh1 := pv_SM) (h1 := MM h4) (r1 := (some (.inl r5))) dX10_readFirst_14 sm_0 (by decide) md_X10_reads ml_X10_197 im_X10_reads se_X10_reads (tX10_reads (by omega)  hc3) (by omega) rfl rfl (Nat.le_of_ble_eq_true rfl) ⟨[], (List.append_nil _).symm⟩ ?_
  refine EV.eqS (st2 := [.inl (r5), .inl (0), .inr (.inr (5))]) rfl ?_
  obtain ⟨h6, eh6, hf⟩ := pv_bo hf
  refine FV.iast dX10_readFirst_17 sm_5 (by decide) (by decide) (j := 0) rfl eh6 ?_
  refine EV.iconst dX10_readFirst_18 (by decide) (by decide) ?_
  refine FV.sti (L2 := [some (.inr (.inr (0))), some (.inl (0))]) dX10_readFirst_19 rfl (Nat.le_of_ble_eq_true rfl) rfl rfl ?_
  refine EV.weak (L2 := [some (.inr (.inr (0))), some (.inl (0))]) (And.intro rfl (And.intro rfl trivial)) ?_
  exact tX10_readFirst_20 hd   _ _  _ hf

noncomputable def fX10_readRodLine_192 (N : Nat)    (h : pv_H) : Option (pv_H) :=
  some h

noncomputable def fX10_readRodLine_99 (N : Nat)   (s0 : Int) (s1 : Int) (h : pv_H) : Option (pv_H) :=
  pv_c1 (fX10_readSpans N s1 s0 h) fun h38 => fX10_readRodLine_192 N    h38

noncomputable def fX10_readRodLine_85 (N : Nat)   (v1 : Int) (h : pv_H) : Option (pv_H) :=
  if v1 = 3 then (fX10_readRodLine_99 N   (1) (182) h) else (fX10_readRodLine_99 N   (2) (182) h)

noncomputable def fX10_readRodLine_188 (N : Nat)   (v2 : Int) (s0 : Int) (h : pv_H) : Option (pv_H) :=
  pv_c1 (fX10_readSpans N s0 v2 h) fun h40 => fX10_readRodLine_192 N    h40

noncomputable def fX10_readRodLine_165 (N : Nat)   (v1 : Int) (s0 : Int) (h : pv_H) : Option (pv_H) :=
  if v1 = 1 then (fX10_readRodLine_188 N   (s0) (2) h) else (if v1 = 2 then (fX10_readRodLine_188 N   (s0) (62) h) else (fX10_readRodLine_188 N   (s0) (122) h))

noncomputable def fX10_readRodLine_63 (N : Nat)   (v1 : Int) (h : pv_H) : Option (pv_H) :=
  if (h 0 12) = 0 then (pv_c1 (fX10_next N  h) fun h15 => if v1 = 3 then (fX10_readRodLine_85 N   (v1) h15) else (if v1 = 4 then (fX10_readRodLine_85 N   (v1) h15) else (if v1 = 6 then (pv_c2b (fX10_reads N 0 99 h15) fun h31 r32 => pv_b (pv_up h31 5 1 r32) fun h33 => fX10_readRodLine_192 N    h33) else (if v1 = 1 then (pv_c2b (fX10_reads N 1 99 h15) fun h28 r29 => fX10_readRodLine_165 N   (v1) (r29) h28) else (if v1 = 2 then (pv_c2b (fX10_reads N 1 999 h15) fun h25 r26 => fX10_readRodLine_165 N   (v1) (r26) h25) else (pv_c2b (fX10_reads N 0 99 h15) fun h22 r23 => fX10_readRodLine_165 N   (v1) (r23) h22)))))) else (some h)

noncomputable def fX10_readRodLine_28 (N : Nat)   (s0 : Int) (h : pv_H) : Option (pv_H) :=
  pv_c1 (fX10_within N s0 1 6 h) fun r6 => if r6 = 0 then (pv_c1 (fX10_fails N 2 h) fun h12 => fX10_readRodLine_63 N   (s0) h12) else (if (h 0 14) = 24 then (pv_c1 (fX10_fails N 4 h) fun h10 => fX10_readRodLine_63 N   (s0) h10) else (fX10_readRodLine_63 N   (s0) h))

noncomputable def fX10_readRodLine (N : Nat)  (h : pv_H) : Option (pv_H) :=
  if (h 0 14) = 0 then (pv_c1 (fX10_readFirst N  h) fun h4 => some h4) else (if (h 0 12) = 0 then (fX10_readRodLine_28 N   (h 0 10) h) else (fX10_readRodLine_28 N   (43) h))

set_option maxHeartbeats 4000000 in
set_option maxRecDepth 20000 in
theorem tX10_readRodLine_192 {d N : Nat}    {h h' : pv_H}  (hd : 11 ≤ d)    (hf : fX10_readRodLine_192 N    h = some h') : EV RX10 cX10_readRodLine 3 none false d pv_SM (MM h') none 192 [none, none, none] [] pv_SM (MM h) := by
  unfold fX10_readRodLine_192 at hf
  exact FV.vret dX10_readRodLine_192 hf

set_option maxHeartbeats 4000000 in
set_option maxRecDepth 20000 in
theorem tX10_readRodLine_99 {d N : Nat}   {s0 : Int} {s1 : Int} {h h' : pv_H}  (hd : 11 ≤ d)    (hf : fX10_readRodLine_99 N   s0 s1 h = some h') : EV RX10 cX10_readRodLine 3 none false d pv_SM (MM h') none 99 [none, none, none] [.inl (s0), .inl (s1), .inr (.inr (0))] pv_SM (MM h) := by
  unfold fX10_readRodLine_99 at hf
  obtain ⟨h38, hc37, hf⟩ := pv_c1o hf
  refine EV.invV (As := [.inl (s1), .inl (s0)]) (st := []) (d1 := d - 1) (sh1 := pv_SM) (h1 := MM h38) (r1 := none) dX10_readRodLine_99 sm_0 (by decide) md_X10_readSpans ml_X10_212 im_X10_readSpans se_X10_readSpans (tX10_readSpans (by omega)  hc37) (by omega) rfl rfl (Nat.le_of_ble_eq_true rfl) ⟨[], (List.append_nil _).symm⟩ ?_
  refine EV.goto (tgt := 192) dX10_readRodLine_102 (by decide) ?_
  refine EV.weak (L2 := [none, none, none]) trivial ?_
  exact tX10_readRodLine_192 hd    hf

set_option maxHeartbeats 4000000 in
set_option maxRecDepth 20000 in
theorem tX10_readRodLine_85 {d N : Nat}   {v1 : Int} {h h' : pv_H}  (hd : 11 ≤ d)    (hf : fX10_readRodLine_85 N   v1 h = some h') : EV RX10 cX10_readRodLine 3 none false d pv_SM (MM h') none 85 [some (.inr (.inr (0))), some (.inl (v1)), none] [] pv_SM (MM h) := by
  unfold fX10_readRodLine_85 at hf
  refine EV.aload_n dX10_readRodLine_85 rfl rfl ?_
  refine EV.sipush dX10_readRodLine_86 (by decide) (by decide) ?_
  refine EV.iload_n dX10_readRodLine_89 rfl rfl ?_
  refine EV.iconst dX10_readRodLine_90 (by decide) (by decide) ?_
  refine EV.icmp_ne (tgt := 98) dX10_readRodLine_91 (by decide) (fun q34 => ?_) (fun q34 => ?_)
  · have hf := pv_gn hf q34
    refine EV.iconst dX10_readRodLine_98 (by decide) (by decide) ?_
    refine EV.weak (L2 := [none, none, none]) trivial ?_
    exact tX10_readRodLine_99 hd    hf
  · have hf := pv_gp hf q34
    refine EV.iconst dX10_readRodLine_94 (by decide) (by decide) ?_
    refine EV.goto (tgt := 99) dX10_readRodLine_95 (by decide) ?_
    refine EV.weak (L2 := [none, none, none]) trivial ?_
    exact tX10_readRodLine_99 hd    hf

set_option maxHeartbeats 4000000 in
set_option maxRecDepth 20000 in
theorem tX10_readRodLine_188 {d N : Nat}   {v2 : Int} {s0 : Int} {h h' : pv_H}  (hd : 11 ≤ d)    (hf : fX10_readRodLine_188 N   v2 s0 h = some h') : EV RX10 cX10_readRodLine 3 none false d pv_SM (MM h') none 188 [none, none, some (.inl (v2))] [.inl (s0), .inr (.inr (0))] pv_SM (MM h) := by
  unfold fX10_readRodLine_188 at hf
  refine EV.iload_n dX10_readRodLine_188 rfl rfl ?_
  obtain ⟨h40, hc39, hf⟩ := pv_c1o hf
  refine EV.invV (As := [.inl (s0), .inl (v2)]) (st := []) (d1 := d - 1) (sh1 := pv_SM) (h1 := MM h40) (r1 := none) dX10_readRodLine_189 sm_0 (by decide) md_X10_readSpans ml_X10_212 im_X10_readSpans se_X10_readSpans (tX10_readSpans (by omega)  hc39) (by omega) rfl rfl (Nat.le_of_ble_eq_true rfl) ⟨[], (List.append_nil _).symm⟩ ?_
  refine EV.weak (L2 := [none, none, none]) trivial ?_
  exact tX10_readRodLine_192 hd    hf

set_option maxHeartbeats 4000000 in
set_option maxRecDepth 20000 in
theorem tX10_readRodLine_165 {d N : Nat}   {v1 : Int} {s0 : Int} {h h' : pv_H}  (hd : 11 ≤ d)    (hf : fX10_readRodLine_165 N   v1 s0 h = some h') : EV RX10 cX10_readRodLine 3 none false d pv_SM (MM h') none 165 [some (.inr (.inr (0))), some (.inl (v1)), none] [.inl (s0)] pv_SM (MM h) := by
  unfold fX10_readRodLine_165 at hf
  refine FV.sti (L2 := [some (.inr (.inr (0))), some (.inl (v1)), some (.inl (s0))]) dX10_readRodLine_165 rfl (Nat.le_of_ble_eq_true rfl) rfl rfl ?_
  refine EV.aload_n dX10_readRodLine_166 rfl rfl ?_
  refine EV.iload_n dX10_readRodLine_167 rfl rfl ?_
  refine EV.iconst dX10_readRodLine_168 (by decide) (by decide) ?_
  refine EV.icmp_ne (tgt := 176) dX10_readRodLine_169 (by decide) (fun q35 => ?_) (fun q35 => ?_)
  · have hf := pv_gn hf q35
    refine EV.iload_n dX10_readRodLine_176 rfl rfl ?_
    refine EV.iconst dX10_readRodLine_177 (by decide) (by decide) ?_
    refine EV.icmp_ne (tgt := 186) dX10_readRodLine_178 (by decide) (fun q36 => ?_) (fun q36 => ?_)
    · have hf := pv_gn hf q36
      refine EV.bipush dX10_readRodLine_186 (by decide) (by decide) ?_
      refine EV.weak (L2 := [none, none, some (.inl (s0))]) (And.intro rfl trivial) ?_
      exact tX10_readRodLine_188 hd    hf
    · have hf := pv_gp hf q36
      refine EV.bipush dX10_readRodLine_181 (by decide) (by decide) ?_
      refine EV.goto (tgt := 188) dX10_readRodLine_183 (by decide) ?_
      refine EV.weak (L2 := [none, none, some (.inl (s0))]) (And.intro rfl trivial) ?_
      exact tX10_readRodLine_188 hd    hf
  · have hf := pv_gp hf q35
    refine EV.iconst dX10_readRodLine_172 (by decide) (by decide) ?_
    refine EV.goto (tgt := 188) dX10_readRodLine_173 (by decide) ?_
    refine EV.weak (L2 := [none, none, some (.inl (s0))]) (And.intro rfl trivial) ?_
    exact tX10_readRodLine_188 hd    hf

set_option maxHeartbeats 4000000 in
set_option maxRecDepth 20000 in
theorem tX10_readRodLine_63 {d N : Nat}   {v1 : Int} {h h' : pv_H}  (hd : 11 ≤ d)    (hf : fX10_readRodLine_63 N   v1 h = some h') : EV RX10 cX10_readRodLine 3 none false d pv_SM (MM h') none 63 [some (.inr (.inr (0))), some (.inl (v1)), none] [] pv_SM (MM h) := by
  unfold fX10_readRodLine_63 at hf
  refine EV.aload_n dX10_readRodLine_63 rfl rfl ?_
  refine FV.getI dX10_readRodLine_64 sm_0 fl_10_175 rfl ?_
  refine EV.if_eq (tgt := 71) dX10_readRodLine_67 (by decide) (fun q13 => ?_) (fun q13 => ?_)
  · have hf := pv_gp hf q13
    refine EV.aload_n dX10_readRodLine_71 rfl rfl ?_
    obtain ⟨h15, hc14, hf⟩ := pv_c1o hf
    refine EV.invV (As := []) (st := []) (d1 := d - 1) (sh1 := pv_SM) (h1 := MM h15) (r1 := none) dX10_readRodLine_72 sm_0 (by decide) md_X10_next ml_X10_184 im_X10_next se_X10_next (tX10_next (by omega)  hc14) (by omega) rfl rfl (Nat.le_of_ble_eq_true rfl) ⟨[], (List.append_nil _).symm⟩ ?_
    refine EV.iload_n dX10_readRodLine_75 rfl rfl ?_
    refine EV.iconst dX10_readRodLine_76 (by decide) (by decide) ?_
    refine EV.icmp_eq (tgt := 85) dX10_readRodLine_77 (by decide) (fun q16 => ?_) (fun q16 => ?_)
    · have hf := pv_gp hf q16
      refine EV.weak (L2 := [some (.inr (.inr (0))), some (.inl (v1)), none]) (And.intro rfl (And.intro rfl trivial)) ?_
      exact tX10_readRodLine_85 hd    hf
    · have hf := pv_gn hf q16
      refine EV.iload_n dX10_readRodLine_80 rfl rfl ?_
      refine EV.iconst dX10_readRodLine_81 (by decide) (by decide) ?_
      refine EV.icmp_ne (tgt := 105) dX10_readRodLine_82 (by decide) (fun q17 => ?_) (fun q17 => ?_)
      · have hf := pv_gn hf q17
        refine EV.iload_n dX10_readRodLine_105 rfl rfl ?_
        refine EV.bipush dX10_readRodLine_106 (by decide) (by decide) ?_
        refine EV.icmp_ne (tgt := 127) dX10_readRodLine_108 (by decide) (fun q18 => ?_) (fun q18 => ?_)
        · have hf := pv_gn hf q18
          refine EV.iload_n dX10_readRodLine_127 rfl rfl ?_
          refine EV.iconst dX10_readRodLine_128 (by decide) (by decide) ?_
          refine EV.icmp_ne (tgt := 142) dX10_readRodLine_129 (by decide) (fun q19 => ?_) (fun q19 => ?_)
          · have hf := pv_gn hf q19
            refine EV.iload_n dX10_readRodLine_142 rfl rfl ?_
            refine EV.iconst dX10_readRodLine_143 (by decide) (by decide) ?_
            refine EV.icmp_ne (tgt := 158) dX10_readRodLine_144 (by decide) (fun q20 => ?_) (fun q20 => ?_)
            · have hf := pv_gn hf q20
              refine EV.aload_n dX10_readRodLine_158 rfl rfl ?_
              refine EV.iconst dX10_readRodLine_159 (by decide) (by decide) ?_
              refine EV.bipush dX10_readRodLine_160 (by decide) (by decide) ?_
              obtain ⟨h22, r23, hc21, hf⟩ := pv_c2o hf
              refine EV.invV (As := [.inl (0), .inl (99)]) (st := []) (d1 := d - 1) (sh1 := pv_SM) (h1 := MM h22) (r1 := (some (.inl r23))) dX10_readRodLine_162 sm_0 (by decide) md_X10_reads ml_X10_197 im_X10_reads se_X10_reads (tX10_reads (by omega)  hc21) (by omega) rfl rfl (Nat.le_of_ble_eq_true rfl) ⟨[], (List.append_nil _).symm⟩ ?_
              refine EV.eqS (st2 := [.inl (r23)]) rfl ?_
              refine EV.weak (L2 := [some (.inr (.inr (0))), some (.inl (v1)), none]) (And.intro rfl (And.intro rfl trivial)) ?_
              exact tX10_readRodLine_165 hd    hf
            · have hf := pv_gp hf q20
              refine EV.aload_n dX10_readRodLine_147 rfl rfl ?_
              refine EV.iconst dX10_readRodLine_148 (by decide) (by decide) ?_
              refine EV.sipush dX10_readRodLine_149 (by decide) (by decide) ?_
              obtain ⟨h25, r26, hc24, hf⟩ := pv_c2o hf
              refine EV.invV (As := [.inl (1), .inl (999)]) (st := []) (d1 := d - 1) (sh1 := pv_SM) (h1 := MM h25) (r1 := (some (.inl r26))) dX10_readRodLine_152 sm_0 (by decide) md_X10_reads ml_X10_197 im_X10_reads se_X10_reads (tX10_reads (by omega)  hc24) (by omega) rfl rfl (Nat.le_of_ble_eq_true rfl) ⟨[], (List.append_nil _).symm⟩ ?_
              refine EV.eqS (st2 := [.inl (r26)]) rfl ?_
              refine EV.goto (tgt := 165) dX10_readRodLine_155 (by decide) ?_
              refine EV.weak (L2 := [some (.inr (.inr (0))), some (.inl (v1)), none]) (And.intro rfl (And.intro rfl trivial)) ?_
              exact tX10_readRodLine_165 hd    hf
          · have hf := pv_gp hf q19
            refine EV.aload_n dX10_readRodLine_132 rfl rfl ?_
            refine EV.iconst dX10_readRodLine_133 (by decide) (by decide) ?_
            refine EV.bipush dX10_readRodLine_134 (by decide) (by decide) ?_
            obtain ⟨h28, r29, hc27, hf⟩ := pv_c2o hf
            refine EV.invV (As := [.inl (1), .inl (99)]) (st := []) (d1 := d - 1) (sh1 := pv_SM) (h1 := MM h28) (r1 := (some (.inl r29))) dX10_readRodLine_136 sm_0 (by decide) md_X10_reads ml_X10_197 im_X10_reads se_X10_reads (tX10_reads (by omega)  hc27) (by omega) rfl rfl (Nat.le_of_ble_eq_true rfl) ⟨[], (List.append_nil _).symm⟩ ?_
            refine EV.eqS (st2 := [.inl (r29)]) rfl ?_
            refine EV.goto (tgt := 165) dX10_readRodLine_139 (by decide) ?_
            refine EV.weak (L2 := [some (.inr (.inr (0))), some (.inl (v1)), none]) (And.intro rfl (And.intro rfl trivial)) ?_
            exact tX10_readRodLine_165 hd    hf
        · have hf := pv_gp hf q18
          refine EV.aload_n dX10_readRodLine_111 rfl rfl ?_
          refine FV.getF (v := 5) dX10_readRodLine_112 sm_0 fl_10_27 rfl rfl hvm_0_5 ?_
          refine EV.iconst dX10_readRodLine_115 (by decide) (by decide) ?_
          refine EV.aload_n dX10_readRodLine_116 rfl rfl ?_
          refine EV.iconst dX10_readRodLine_117 (by decide) (by decide) ?_
          refine EV.bipush dX10_readRodLine_118 (by decide) (by decide) ?_
          obtain ⟨h31, r32, hc30, hf⟩ := pv_c2o hf
          refine EV.invV (As := [.inl (0), .inl (99)]) (st := [.inl (1), .inr (.inr (5))]) (d1 := d - 1) (sh1 := pv_SM) (h1 := MM h31) (r1 := (some (.inl r32))) dX10_readRodLine_120 sm_0 (by decide) md_X10_reads ml_X10_197 im_X10_reads se_X10_reads (tX10_reads (by omega)  hc30) (by omega) rfl rfl (Nat.le_of_ble_eq_true rfl) ⟨[], (List.append_nil _).symm⟩ ?_
          refine EV.eqS (st2 := [.inl (r32), .inl (1), .inr (.inr (5))]) rfl ?_
          obtain ⟨h33, eh33, hf⟩ := pv_bo hf
          refine FV.iast dX10_readRodLine_123 sm_5 (by decide) (by decide) (j := 1) rfl eh33 ?_
          refine EV.goto (tgt := 192) dX10_readRodLine_124 (by decide) ?_
          refine EV.weak (L2 := [none, none, none]) trivial ?_
          exact tX10_readRodLine_192 hd    hf
      · have hf := pv_gp hf q17
        refine EV.weak (L2 := [some (.inr (.inr (0))), some (.inl (v1)), none]) (And.intro rfl (And.intro rfl trivial)) ?_
        exact tX10_readRodLine_85 hd    hf
  · have hf := pv_gn hf q13
    exact FV.vret dX10_readRodLine_70 hf

set_option maxHeartbeats 4000000 in
set_option maxRecDepth 20000 in
theorem tX10_readRodLine_28 {d N : Nat}   {s0 : Int} {h h' : pv_H}  (hd : 11 ≤ d)    (hf : fX10_readRodLine_28 N   s0 h = some h') : EV RX10 cX10_readRodLine 3 none false d pv_SM (MM h') none 28 [some (.inr (.inr (0))), none, none] [.inl (s0)] pv_SM (MM h) := by
  unfold fX10_readRodLine_28 at hf
  refine FV.sti (L2 := [some (.inr (.inr (0))), some (.inl (s0)), none]) dX10_readRodLine_28 rfl (Nat.le_of_ble_eq_true rfl) rfl rfl ?_
  refine EV.iload_n dX10_readRodLine_29 rfl rfl ?_
  refine EV.i2l dX10_readRodLine_30 ?_
  refine EV.lconst (x := 1) dX10_readRodLine_31 (by decide) (by decide) (by decide) ?_
  refine EV.ldc2 (n := 6) dX10_readRodLine_32 kl_X10_210 (by decide) (by decide) ?_
  obtain ⟨r6, hc5, hf⟩ := pv_c1o hf
  refine EV.invS (As := [.inr (.inl (s0)), .inr (.inl (1)), .inr (.inl (6))]) (st := []) (d1 := d - 1) (sh1 := pv_SM) (h1 := MM h) (r1 := (some (.inl r6))) dX10_readRodLine_35 md_X10_within ml_X10_193 st_X10_within (tX10_within (by omega)  hc5) (by omega) rfl rfl (Nat.le_of_ble_eq_true rfl) ⟨[], (List.append_nil _).symm⟩ ?_
  refine EV.eqS (st2 := [.inl (r6)]) rfl ?_
  refine EV.if_ne (tgt := 49) dX10_readRodLine_38 (by decide) (fun q7 => ?_) (fun q7 => ?_)
  · have hf := pv_gn hf q7
    refine EV.aload_n dX10_readRodLine_49 rfl rfl ?_
    refine FV.getI dX10_readRodLine_50 sm_0 fl_10_204 rfl ?_
    refine EV.bipush dX10_readRodLine_53 (by decide) (by decide) ?_
    refine EV.icmp_ne (tgt := 63) dX10_readRodLine_55 (by decide) (fun q8 => ?_) (fun q8 => ?_)
    · have hf := pv_gn hf q8
      refine EV.weak (L2 := [some (.inr (.inr (0))), some (.inl (s0)), none]) (And.intro rfl (And.intro rfl trivial)) ?_
      exact tX10_readRodLine_63 hd    hf
    · have hf := pv_gp hf q8
      refine EV.aload_n dX10_readRodLine_58 rfl rfl ?_
      refine EV.iconst dX10_readRodLine_59 (by decide) (by decide) ?_
      obtain ⟨h10, hc9, hf⟩ := pv_c1o hf
      refine EV.invV (As := [.inl (4)]) (st := []) (d1 := d - 1) (sh1 := pv_SM) (h1 := MM h10) (r1 := none) dX10_readRodLine_60 sm_0 (by decide) md_X10_fails ml_X10_190 im_X10_fails se_X10_fails (tX10_fails (by omega)  hc9) (by omega) rfl rfl (Nat.le_of_ble_eq_true rfl) ⟨[], (List.append_nil _).symm⟩ ?_
      refine EV.weak (L2 := [some (.inr (.inr (0))), some (.inl (s0)), none]) (And.intro rfl (And.intro rfl trivial)) ?_
      exact tX10_readRodLine_63 hd    hf
  · have hf := pv_gp hf q7
    refine EV.aload_n dX10_readRodLine_41 rfl rfl ?_
    refine EV.iconst dX10_readRodLine_42 (by decide) (by decide) ?_
    obtain ⟨h12, hc11, hf⟩ := pv_c1o hf
    refine EV.invV (As := [.inl (2)]) (st := []) (d1 := d - 1) (sh1 := pv_SM) (h1 := MM h12) (r1 := none) dX10_readRodLine_43 sm_0 (by decide) md_X10_fails ml_X10_190 im_X10_fails se_X10_fails (tX10_fails (by omega)  hc11) (by omega) rfl rfl (Nat.le_of_ble_eq_true rfl) ⟨[], (List.append_nil _).symm⟩ ?_
    refine EV.goto (tgt := 63) dX10_readRodLine_46 (by decide) ?_
    refine EV.weak (L2 := [some (.inr (.inr (0))), some (.inl (s0)), none]) (And.intro rfl (And.intro rfl trivial)) ?_
    exact tX10_readRodLine_63 hd    hf

set_option maxHeartbeats 4000000 in
set_option maxRecDepth 20000 in
theorem tX10_readRodLine {d N : Nat}  {h h' : pv_H}  (hd : 11 ≤ d)  (hf : fX10_readRodLine N  h = some h') : CALL yX10_readRodLine cX10_readRodLine 3 none d pv_SM (MM h) [.inr (.inr (0))] pv_SM (MM h') none := by
  unfold fX10_readRodLine at hf
  refine EV.call (own := RX10) (ini := false) rfl rfl (fun q => by cases q) ⟨[], (List.append_nil _).symm⟩ (Nat.le_of_ble_eq_true rfl) ?_
  refine EV.eqL (L2 := [some (.inr (.inr (0))), none, none]) rfl ?_
  refine EV.aload_n dX10_readRodLine_0 rfl rfl ?_
  refine FV.getI dX10_readRodLine_1 sm_0 fl_10_204 rfl ?_
  refine EV.if_ne (tgt := 12) dX10_readRodLine_4 (by decide) (fun q1 => ?_) (fun q1 => ?_)
  · have hf := pv_gn hf q1
    refine EV.aload_n dX10_readRodLine_12 rfl rfl ?_
    refine FV.getI dX10_readRodLine_13 sm_0 fl_10_175 rfl ?_
    refine EV.if_ne (tgt := 26) dX10_readRodLine_16 (by decide) (fun q2 => ?_) (fun q2 => ?_)
    · have hf := pv_gn hf q2
      refine EV.bipush dX10_readRodLine_26 (by decide) (by decide) ?_
      refine EV.weak (L2 := [some (.inr (.inr (0))), none, none]) (And.intro rfl trivial) ?_
      exact tX10_readRodLine_28 hd    hf
    · have hf := pv_gp hf q2
      refine EV.aload_n dX10_readRodLine_19 rfl rfl ?_
      refine FV.getI dX10_readRodLine_20 sm_0 fl_10_159 rfl ?_
      refine EV.goto (tgt := 28) dX10_readRodLine_23 (by decide) ?_
      refine EV.weak (L2 := [some (.inr (.inr (0))), none, none]) (And.intro rfl trivial) ?_
      exact tX10_readRodLine_28 hd    hf
  · have hf := pv_gp hf q1
    refine EV.aload_n dX10_readRodLine_7 rfl rfl ?_
    obtain ⟨h4, hc3, hf⟩ := pv_c1o hf
    refine EV.invV (As := []) (st := []) (d1 := d - 1) (sh1 := pv_SM) (h1 := MM h4) (r1 := none) dX10_readRodLine_8 sm_0 (by decide) md_X10_readFirst ml_X10_207 im_X10_readFirst se_X10_readFirst (tX10_readFirst (by omega)  hc3) (by omega) rfl rfl (Nat.le_of_ble_eq_true rfl) ⟨[], (List.append_nil _).symm⟩ ?_
    exact FV.vret dX10_readRodLine_11 hf

noncomputable def fX10_readStep_108 (N : Nat)   (s0 : Int) (s1 : Int) (h : pv_H) : Option (pv_H) :=
  if 0 ≤ s1 ∧ s1 < 417 then (pv_b (pv_up h 5 (Int.toNat (s1)) s0) fun h20 => pv_c1 (fX10_needs N 13 h20) fun h22 => pv_c2b (fX10_reads N 1 200 h22) fun h24 r25 => if 0 ≤ pv_w (25 + (h22 0 14)) ∧ pv_w (25 + (h22 0 14)) < 417 then (pv_b (pv_up h24 5 (Int.toNat (pv_w (25 + (h22 0 14)))) r25) fun h27 => some h27) else none) else none

noncomputable def fX10_readStep_53 (N : Nat)   (v1 : Int) (h : pv_H) : Option (pv_H) :=
  if (h 0 12) = 0 then (pv_c1 (fX10_next N  h) fun h12 => if 0 ≤ pv_w (1 + (h12 0 14)) ∧ pv_w (1 + (h12 0 14)) < 417 then (pv_b (pv_up h12 5 (Int.toNat (pv_w (1 + (h12 0 14)))) (pv_w (v1 - 9))) fun h14 => if v1 = 12 then (fX10_readStep_108 N   (0) (pv_w (13 + (h14 0 14))) h14) else (pv_c2b (fX10_reads N 0 99 h14) fun h17 r18 => fX10_readStep_108 N   (r18) (pv_w (13 + (h14 0 14))) h17)) else none) else (some h)

noncomputable def fX10_readStep_16 (N : Nat)   (s0 : Int) (h : pv_H) : Option (pv_H) :=
  pv_c1 (fX10_within N s0 9 12 h) fun r3 => if r3 = 0 then (pv_c1 (fX10_fails N 2 h) fun h9 => fX10_readStep_53 N   (s0) h9) else (if (h 0 14) = 12 then (pv_c1 (fX10_fails N 4 h) fun h7 => fX10_readStep_53 N   (s0) h7) else (fX10_readStep_53 N   (s0) h))

noncomputable def fX10_readStep (N : Nat)  (h : pv_H) : Option (pv_H) :=
  if (h 0 12) = 0 then (fX10_readStep_16 N   (h 0 10) h) else (fX10_readStep_16 N   (43) h)

set_option maxHeartbeats 4000000 in
set_option maxRecDepth 20000 in
theorem tX10_readStep_108 {d N : Nat}   {s0 : Int} {s1 : Int} {h h' : pv_H}  (hd : 10 ≤ d)    (hf : fX10_readStep_108 N   s0 s1 h = some h') : EV RX10 cX10_readStep 2 none false d pv_SM (MM h') none 108 [some (.inr (.inr (0))), none] [.inl (s0), .inl (s1), .inr (.inr (5))] pv_SM (MM h) := by
  unfold fX10_readStep_108 at hf
  obtain ⟨g19, hf⟩ := pv_gd hf
  obtain ⟨h20, eh20, hf⟩ := pv_bo hf
  refine FV.iast dX10_readStep_108 sm_5 g19.1 g19.2 (j := (Int.toNat (s1))) rfl eh20 ?_
  refine EV.aload_n dX10_readStep_109 rfl rfl ?_
  refine EV.bipush dX10_readStep_110 (by decide) (by decide) ?_
  obtain ⟨h22, hc21, hf⟩ := pv_c1o hf
  refine EV.invV (As := [.inl (13)]) (st := []) (d1 := d - 1) (sh1 := pv_SM) (h1 := MM h22) (r1 := none) dX10_readStep_112 sm_0 (by decide) md_X10_needs ml_X10_201 im_X10_needs se_X10_needs (tX10_needs (by omega)  hc21) (by omega) rfl rfl (Nat.le_of_ble_eq_true rfl) ⟨[], (List.append_nil _).symm⟩ ?_
  refine EV.aload_n dX10_readStep_115 rfl rfl ?_
  refine FV.getF (v := 5) dX10_readStep_116 sm_0 fl_10_27 rfl rfl hvm_0_5 ?_
  refine EV.bipush dX10_readStep_119 (by decide) (by decide) ?_
  refine EV.aload_n dX10_readStep_121 rfl rfl ?_
  refine FV.getI dX10_readStep_122 sm_0 fl_10_204 rfl ?_
  refine EV.iadd dX10_readStep_125 ?_
  refine EV.aload_n dX10_readStep_126 rfl rfl ?_
  refine EV.iconst dX10_readStep_127 (by decide) (by decide) ?_
  refine EV.sipush dX10_readStep_128 (by decide) (by decide) ?_
  obtain ⟨h24, r25, hc23, hf⟩ := pv_c2o hf
  refine EV.invV (As := [.inl (1), .inl (200)]) (st := [.inl (pv_w (25 + (h22 0 14))), .inr (.inr (5))]) (d1 := d - 1) (sh1 := pv_SM) (h1 := MM h24) (r1 := (some (.inl r25))) dX10_readStep_131 sm_0 (by decide) md_X10_reads ml_X10_197 im_X10_reads se_X10_reads (tX10_reads (by omega)  hc23) (by omega) rfl rfl (Nat.le_of_ble_eq_true rfl) ⟨[], (List.append_nil _).symm⟩ ?_
  refine EV.eqS (st2 := [.inl (r25), .inl (pv_w (25 + (h22 0 14))), .inr (.inr (5))]) rfl ?_
  obtain ⟨g26, hf⟩ := pv_gd hf
  obtain ⟨h27, eh27, hf⟩ := pv_bo hf
  refine FV.iast dX10_readStep_134 sm_5 g26.1 g26.2 (j := (Int.toNat (pv_w (25 + (h22 0 14))))) rfl eh27 ?_
  exact FV.vret dX10_readStep_135 hf

set_option maxHeartbeats 4000000 in
set_option maxRecDepth 20000 in
theorem tX10_readStep_53 {d N : Nat}   {v1 : Int} {h h' : pv_H}  (hd : 10 ≤ d)    (hf : fX10_readStep_53 N   v1 h = some h') : EV RX10 cX10_readStep 2 none false d pv_SM (MM h') none 53 [some (.inr (.inr (0))), some (.inl (v1))] [] pv_SM (MM h) := by
  unfold fX10_readStep_53 at hf
  refine EV.aload_n dX10_readStep_53 rfl rfl ?_
  refine FV.getI dX10_readStep_54 sm_0 fl_10_175 rfl ?_
  refine EV.if_eq (tgt := 61) dX10_readStep_57 (by decide) (fun q10 => ?_) (fun q10 => ?_)
  · have hf := pv_gp hf q10
    refine EV.aload_n dX10_readStep_61 rfl rfl ?_
    obtain ⟨h12, hc11, hf⟩ := pv_c1o hf
    refine EV.invV (As := []) (st := []) (d1 := d - 1) (sh1 := pv_SM) (h1 := MM h12) (r1 := none) dX10_readStep_62 sm_0 (by decide) md_X10_next ml_X10_184 im_X10_next se_X10_next (tX10_next (by omega)  hc11) (by omega) rfl rfl (Nat.le_of_ble_eq_true rfl) ⟨[], (List.append_nil _).symm⟩ ?_
    refine EV.aload_n dX10_readStep_65 rfl rfl ?_
    refine FV.getF (v := 5) dX10_readStep_66 sm_0 fl_10_27 rfl rfl hvm_0_5 ?_
    refine EV.iconst dX10_readStep_69 (by decide) (by decide) ?_
    refine EV.aload_n dX10_readStep_70 rfl rfl ?_
    refine FV.getI dX10_readStep_71 sm_0 fl_10_204 rfl ?_
    refine EV.iadd dX10_readStep_74 ?_
    refine EV.iload_n dX10_readStep_75 rfl rfl ?_
    refine EV.bipush dX10_readStep_76 (by decide) (by decide) ?_
    refine EV.isub dX10_readStep_78 ?_
    obtain ⟨g13, hf⟩ := pv_gd hf
    obtain ⟨h14, eh14, hf⟩ := pv_bo hf
    refine FV.iast dX10_readStep_79 sm_5 g13.1 g13.2 (j := (Int.toNat (pv_w (1 + (h12 0 14))))) rfl eh14 ?_
    refine EV.aload_n dX10_readStep_80 rfl rfl ?_
    refine FV.getF (v := 5) dX10_readStep_81 sm_0 fl_10_27 rfl rfl hvm_0_5 ?_
    refine EV.bipush dX10_readStep_84 (by decide) (by decide) ?_
    refine EV.aload_n dX10_readStep_86 rfl rfl ?_
    refine FV.getI dX10_readStep_87 sm_0 fl_10_204 rfl ?_
    refine EV.iadd dX10_readStep_90 ?_
    refine EV.iload_n dX10_readStep_91 rfl rfl ?_
    refine EV.bipush dX10_readStep_92 (by decide) (by decide) ?_
    refine EV.icmp_ne (tgt := 101) dX10_readStep_94 (by decide) (fun q15 => ?_) (fun q15 => ?_)
    · have hf := pv_gn hf q15
      refine EV.aload_n dX10_readStep_101 rfl rfl ?_
      refine EV.iconst dX10_readStep_102 (by decide) (by decide) ?_
      refine EV.bipush dX10_readStep_103 (by decide) (by decide) ?_
      obtain ⟨h17, r18, hc16, hf⟩ := pv_c2o hf
      refine EV.invV (As := [.inl (0), .inl (99)]) (st := [.inl (pv_w (13 + (h14 0 14))), .inr (.inr (5))]) (d1 := d - 1) (sh1 := pv_SM) (h1 := MM h17) (r1 := (some (.inl r18))) dX10_readStep_105 sm_0 (by decide) md_X10_reads ml_X10_197 im_X10_reads se_X10_reads (tX10_reads (by omega)  hc16) (by omega) rfl rfl (Nat.le_of_ble_eq_true rfl) ⟨[], (List.append_nil _).symm⟩ ?_
      refine EV.eqS (st2 := [.inl (r18), .inl (pv_w (13 + (h14 0 14))), .inr (.inr (5))]) rfl ?_
      refine EV.weak (L2 := [some (.inr (.inr (0))), none]) (And.intro rfl trivial) ?_
      exact tX10_readStep_108 hd    hf
    · have hf := pv_gp hf q15
      refine EV.iconst dX10_readStep_97 (by decide) (by decide) ?_
      refine EV.goto (tgt := 108) dX10_readStep_98 (by decide) ?_
      refine EV.weak (L2 := [some (.inr (.inr (0))), none]) (And.intro rfl trivial) ?_
      exact tX10_readStep_108 hd    hf
  · have hf := pv_gn hf q10
    exact FV.vret dX10_readStep_60 hf

set_option maxHeartbeats 4000000 in
set_option maxRecDepth 20000 in
theorem tX10_readStep_16 {d N : Nat}   {s0 : Int} {h h' : pv_H}  (hd : 10 ≤ d)    (hf : fX10_readStep_16 N   s0 h = some h') : EV RX10 cX10_readStep 2 none false d pv_SM (MM h') none 16 [some (.inr (.inr (0))), none] [.inl (s0)] pv_SM (MM h) := by
  unfold fX10_readStep_16 at hf
  refine FV.sti (L2 := [some (.inr (.inr (0))), some (.inl (s0))]) dX10_readStep_16 rfl (Nat.le_of_ble_eq_true rfl) rfl rfl ?_
  refine EV.iload_n dX10_readStep_17 rfl rfl ?_
  refine EV.i2l dX10_readStep_18 ?_
  refine EV.ldc2 (n := 9) dX10_readStep_19 kl_X10_216 (by decide) (by decide) ?_
  refine EV.ldc2 (n := 12) dX10_readStep_22 kl_X10_218 (by decide) (by decide) ?_
  obtain ⟨r3, hc2, hf⟩ := pv_c1o hf
  refine EV.invS (As := [.inr (.inl (s0)), .inr (.inl (9)), .inr (.inl (12))]) (st := []) (d1 := d - 1) (sh1 := pv_SM) (h1 := MM h) (r1 := (some (.inl r3))) dX10_readStep_25 md_X10_within ml_X10_193 st_X10_within (tX10_within (by omega)  hc2) (by omega) rfl rfl (Nat.le_of_ble_eq_true rfl) ⟨[], (List.append_nil _).symm⟩ ?_
  refine EV.eqS (st2 := [.inl (r3)]) rfl ?_
  refine EV.if_ne (tgt := 39) dX10_readStep_28 (by decide) (fun q4 => ?_) (fun q4 => ?_)
  · have hf := pv_gn hf q4
    refine EV.aload_n dX10_readStep_39 rfl rfl ?_
    refine FV.getI dX10_readStep_40 sm_0 fl_10_204 rfl ?_
    refine EV.bipush dX10_readStep_43 (by decide) (by decide) ?_
    refine EV.icmp_ne (tgt := 53) dX10_readStep_45 (by decide) (fun q5 => ?_) (fun q5 => ?_)
    · have hf := pv_gn hf q5
      refine EV.weak (L2 := [some (.inr (.inr (0))), some (.inl (s0))]) (And.intro rfl (And.intro rfl trivial)) ?_
      exact tX10_readStep_53 hd    hf
    · have hf := pv_gp hf q5
      refine EV.aload_n dX10_readStep_48 rfl rfl ?_
      refine EV.iconst dX10_readStep_49 (by decide) (by decide) ?_
      obtain ⟨h7, hc6, hf⟩ := pv_c1o hf
      refine EV.invV (As := [.inl (4)]) (st := []) (d1 := d - 1) (sh1 := pv_SM) (h1 := MM h7) (r1 := none) dX10_readStep_50 sm_0 (by decide) md_X10_fails ml_X10_190 im_X10_fails se_X10_fails (tX10_fails (by omega)  hc6) (by omega) rfl rfl (Nat.le_of_ble_eq_true rfl) ⟨[], (List.append_nil _).symm⟩ ?_
      refine EV.weak (L2 := [some (.inr (.inr (0))), some (.inl (s0))]) (And.intro rfl (And.intro rfl trivial)) ?_
      exact tX10_readStep_53 hd    hf
  · have hf := pv_gp hf q4
    refine EV.aload_n dX10_readStep_31 rfl rfl ?_
    refine EV.iconst dX10_readStep_32 (by decide) (by decide) ?_
    obtain ⟨h9, hc8, hf⟩ := pv_c1o hf
    refine EV.invV (As := [.inl (2)]) (st := []) (d1 := d - 1) (sh1 := pv_SM) (h1 := MM h9) (r1 := none) dX10_readStep_33 sm_0 (by decide) md_X10_fails ml_X10_190 im_X10_fails se_X10_fails (tX10_fails (by omega)  hc8) (by omega) rfl rfl (Nat.le_of_ble_eq_true rfl) ⟨[], (List.append_nil _).symm⟩ ?_
    refine EV.goto (tgt := 53) dX10_readStep_36 (by decide) ?_
    refine EV.weak (L2 := [some (.inr (.inr (0))), some (.inl (s0))]) (And.intro rfl (And.intro rfl trivial)) ?_
    exact tX10_readStep_53 hd    hf

set_option maxHeartbeats 4000000 in
set_option maxRecDepth 20000 in
theorem tX10_readStep {d N : Nat}  {h h' : pv_H}  (hd : 10 ≤ d)  (hf : fX10_readStep N  h = some h') : CALL yX10_readStep cX10_readStep 2 none d pv_SM (MM h) [.inr (.inr (0))] pv_SM (MM h') none := by
  unfold fX10_readStep at hf
  refine EV.call (own := RX10) (ini := false) rfl rfl (fun q => by cases q) ⟨[], (List.append_nil _).symm⟩ (Nat.le_of_ble_eq_true rfl) ?_
  refine EV.eqL (L2 := [some (.inr (.inr (0))), none]) rfl ?_
  refine EV.aload_n dX10_readStep_0 rfl rfl ?_
  refine FV.getI dX10_readStep_1 sm_0 fl_10_175 rfl ?_
  refine EV.if_ne (tgt := 14) dX10_readStep_4 (by decide) (fun q1 => ?_) (fun q1 => ?_)
  · have hf := pv_gn hf q1
    refine EV.bipush dX10_readStep_14 (by decide) (by decide) ?_
    refine EV.weak (L2 := [some (.inr (.inr (0))), none]) (And.intro rfl trivial) ?_
    exact tX10_readStep_16 hd    hf
  · have hf := pv_gp hf q1
    refine EV.aload_n dX10_readStep_7 rfl rfl ?_
    refine FV.getI dX10_readStep_8 sm_0 fl_10_159 rfl ?_
    refine EV.goto (tgt := 16) dX10_readStep_11 (by decide) ?_
    refine EV.weak (L2 := [some (.inr (.inr (0))), none]) (And.intro rfl trivial) ?_
    exact tX10_readStep_16 hd    hf

noncomputable def fX10_readLaw_118 (N : Nat)   (v1 : Int) (v2 : Int) (s0 : Int) (h : pv_H) : Option (pv_H) :=
  pv_c2b (fX10_reads N v2 s0 h) fun h19 r20 => if 0 ≤ pv_w (v1 - 14) ∧ pv_w (v1 - 14) < 417 then (pv_b (pv_up h19 5 (Int.toNat (pv_w (v1 - 14))) r20) fun h22 => some h22) else none

noncomputable def fX10_readLaw_82 (N : Nat)   (v1 : Int) (s0 : Int) (h : pv_H) : Option (pv_H) :=
  if v1 = 14 then (fX10_readLaw_118 N   (v1) (s0) (200) h) else (if v1 = 15 then (fX10_readLaw_118 N   (v1) (s0) (99) h) else (if s0 = 1 then (fX10_readLaw_118 N   (v1) (s0) (9) h) else (fX10_readLaw_118 N   (v1) (s0) (100) h)))

noncomputable def fX10_readLaw_77 (N : Nat)   (v1 : Int) (h : pv_H) : Option (pv_H) :=
  fX10_readLaw_82 N   (v1) (1) h

noncomputable def fX10_readLaw_53 (N : Nat)   (v1 : Int) (h : pv_H) : Option (pv_H) :=
  if (h 0 12) = 0 then (pv_c1 (fX10_next N  h) fun h12 => if v1 = 16 then (fX10_readLaw_77 N   (v1) h12) else (if v1 = 17 then (fX10_readLaw_77 N   (v1) h12) else (fX10_readLaw_82 N   (v1) (0) h12))) else (some h)

noncomputable def fX10_readLaw_16 (N : Nat)   (s0 : Int) (h : pv_H) : Option (pv_H) :=
  pv_c1 (fX10_within N s0 14 21 h) fun r3 => if r3 = 0 then (pv_c1 (fX10_fails N 2 h) fun h9 => fX10_readLaw_53 N   (s0) h9) else (if (h 0 14) = 24 then (pv_c1 (fX10_fails N 4 h) fun h7 => fX10_readLaw_53 N   (s0) h7) else (fX10_readLaw_53 N   (s0) h))

noncomputable def fX10_readLaw (N : Nat)  (h : pv_H) : Option (pv_H) :=
  if (h 0 12) = 0 then (fX10_readLaw_16 N   (h 0 10) h) else (fX10_readLaw_16 N   (43) h)

set_option maxHeartbeats 4000000 in
set_option maxRecDepth 20000 in
theorem tX10_readLaw_118 {d N : Nat}   {v1 : Int} {v2 : Int} {s0 : Int} {h h' : pv_H}  (hd : 9 ≤ d)    (hf : fX10_readLaw_118 N   v1 v2 s0 h = some h') : EV RX10 cX10_readLaw 4 none false d pv_SM (MM h') none 118 [some (.inr (.inr (0))), some (.inl (v1)), some (.inl (v2)), none] [.inl (s0)] pv_SM (MM h) := by
  unfold fX10_readLaw_118 at hf
  refine FV.sti (L2 := [some (.inr (.inr (0))), some (.inl (v1)), some (.inl (v2)), some (.inl (s0))]) dX10_readLaw_118 rfl (Nat.le_of_ble_eq_true rfl) rfl rfl ?_
  refine EV.aload_n dX10_readLaw_119 rfl rfl ?_
  refine FV.getF (v := 5) dX10_readLaw_120 sm_0 fl_10_27 rfl rfl hvm_0_5 ?_
  refine EV.iload_n dX10_readLaw_123 rfl rfl ?_
  refine EV.bipush dX10_readLaw_124 (by decide) (by decide) ?_
  refine EV.isub dX10_readLaw_126 ?_
  refine EV.aload_n dX10_readLaw_127 rfl rfl ?_
  refine EV.iload_n dX10_readLaw_128 rfl rfl ?_
  refine EV.iload_n dX10_readLaw_129 rfl rfl ?_
  obtain ⟨h19, r20, hc18, hf⟩ := pv_c2o hf
  refine EV.invV (As := [.inl (v2), .inl (s0)]) (st := [.inl (pv_w (v1 - 14)), .inr (.inr (5))]) (d1 := d - 1) (sh1 := pv_SM) (h1 := MM h19) (r1 := (some (.inl r20))) dX10_readLaw_130 sm_0 (by decide) md_X10_reads ml_X10_197 im_X10_reads se_X10_reads (tX10_reads (by omega)  hc18) (by omega) rfl rfl (Nat.le_of_ble_eq_true rfl) ⟨[], (List.append_nil _).symm⟩ ?_
  refine EV.eqS (st2 := [.inl (r20), .inl (pv_w (v1 - 14)), .inr (.inr (5))]) rfl ?_
  obtain ⟨g21, hf⟩ := pv_gd hf
  obtain ⟨h22, eh22, hf⟩ := pv_bo hf
  refine FV.iast dX10_readLaw_133 sm_5 g21.1 g21.2 (j := (Int.toNat (pv_w (v1 - 14)))) rfl eh22 ?_
  exact FV.vret dX10_readLaw_134 hf

set_option maxHeartbeats 4000000 in
set_option maxRecDepth 20000 in
theorem tX10_readLaw_82 {d N : Nat}   {v1 : Int} {s0 : Int} {h h' : pv_H}  (hd : 9 ≤ d)    (hf : fX10_readLaw_82 N   v1 s0 h = some h') : EV RX10 cX10_readLaw 4 none false d pv_SM (MM h') none 82 [some (.inr (.inr (0))), some (.inl (v1)), none, none] [.inl (s0)] pv_SM (MM h) := by
  unfold fX10_readLaw_82 at hf
  refine FV.sti (L2 := [some (.inr (.inr (0))), some (.inl (v1)), some (.inl (s0)), none]) dX10_readLaw_82 rfl (Nat.le_of_ble_eq_true rfl) rfl rfl ?_
  refine EV.iload_n dX10_readLaw_83 rfl rfl ?_
  refine EV.bipush dX10_readLaw_84 (by decide) (by decide) ?_
  refine EV.icmp_ne (tgt := 95) dX10_readLaw_86 (by decide) (fun q15 => ?_) (fun q15 => ?_)
  · have hf := pv_gn hf q15
    refine EV.iload_n dX10_readLaw_95 rfl rfl ?_
    refine EV.bipush dX10_readLaw_96 (by decide) (by decide) ?_
    refine EV.icmp_ne (tgt := 106) dX10_readLaw_98 (by decide) (fun q16 => ?_) (fun q16 => ?_)
    · have hf := pv_gn hf q16
      refine EV.iload_n dX10_readLaw_106 rfl rfl ?_
      refine EV.iconst dX10_readLaw_107 (by decide) (by decide) ?_
      refine EV.icmp_ne (tgt := 116) dX10_readLaw_108 (by decide) (fun q17 => ?_) (fun q17 => ?_)
      · have hf := pv_gn hf q17
        refine EV.bipush dX10_readLaw_116 (by decide) (by decide) ?_
        refine EV.weak (L2 := [some (.inr (.inr (0))), some (.inl (v1)), some (.inl (s0)), none]) (And.intro rfl (And.intro rfl (And.intro rfl trivial))) ?_
        exact tX10_readLaw_118 hd    hf
      · have hf := pv_gp hf q17
        refine EV.bipush dX10_readLaw_111 (by decide) (by decide) ?_
        refine EV.goto (tgt := 118) dX10_readLaw_113 (by decide) ?_
        refine EV.weak (L2 := [some (.inr (.inr (0))), some (.inl (v1)), some (.inl (s0)), none]) (And.intro rfl (And.intro rfl (And.intro rfl trivial))) ?_
        exact tX10_readLaw_118 hd    hf
    · have hf := pv_gp hf q16
      refine EV.bipush dX10_readLaw_101 (by decide) (by decide) ?_
      refine EV.goto (tgt := 118) dX10_readLaw_103 (by decide) ?_
      refine EV.weak (L2 := [some (.inr (.inr (0))), some (.inl (v1)), some (.inl (s0)), none]) (And.intro rfl (And.intro rfl (And.intro rfl trivial))) ?_
      exact tX10_readLaw_118 hd    hf
  · have hf := pv_gp hf q15
    refine EV.sipush dX10_readLaw_89 (by decide) (by decide) ?_
    refine EV.goto (tgt := 118) dX10_readLaw_92 (by decide) ?_
    refine EV.weak (L2 := [some (.inr (.inr (0))), some (.inl (v1)), some (.inl (s0)), none]) (And.intro rfl (And.intro rfl (And.intro rfl trivial))) ?_
    exact tX10_readLaw_118 hd    hf

set_option maxHeartbeats 4000000 in
set_option maxRecDepth 20000 in
theorem tX10_readLaw_77 {d N : Nat}   {v1 : Int} {h h' : pv_H}  (hd : 9 ≤ d)    (hf : fX10_readLaw_77 N   v1 h = some h') : EV RX10 cX10_readLaw 4 none false d pv_SM (MM h') none 77 [some (.inr (.inr (0))), some (.inl (v1)), none, none] [] pv_SM (MM h) := by
  unfold fX10_readLaw_77 at hf
  refine EV.iconst dX10_readLaw_77 (by decide) (by decide) ?_
  refine EV.goto (tgt := 82) dX10_readLaw_78 (by decide) ?_
  refine EV.weak (L2 := [some (.inr (.inr (0))), some (.inl (v1)), none, none]) (And.intro rfl (And.intro rfl trivial)) ?_
  exact tX10_readLaw_82 hd    hf

set_option maxHeartbeats 4000000 in
set_option maxRecDepth 20000 in
theorem tX10_readLaw_53 {d N : Nat}   {v1 : Int} {h h' : pv_H}  (hd : 9 ≤ d)    (hf : fX10_readLaw_53 N   v1 h = some h') : EV RX10 cX10_readLaw 4 none false d pv_SM (MM h') none 53 [some (.inr (.inr (0))), some (.inl (v1)), none, none] [] pv_SM (MM h) := by
  unfold fX10_readLaw_53 at hf
  refine EV.aload_n dX10_readLaw_53 rfl rfl ?_
  refine FV.getI dX10_readLaw_54 sm_0 fl_10_175 rfl ?_
  refine EV.if_eq (tgt := 61) dX10_readLaw_57 (by decide) (fun q10 => ?_) (fun q10 => ?_)
  · have hf := pv_gp hf q10
    refine EV.aload_n dX10_readLaw_61 rfl rfl ?_
    obtain ⟨h12, hc11, hf⟩ := pv_c1o hf
    refine EV.invV (As := []) (st := []) (d1 := d - 1) (sh1 := pv_SM) (h1 := MM h12) (r1 := none) dX10_readLaw_62 sm_0 (by decide) md_X10_next ml_X10_184 im_X10_next se_X10_next (tX10_next (by omega)  hc11) (by omega) rfl rfl (Nat.le_of_ble_eq_true rfl) ⟨[], (List.append_nil _).symm⟩ ?_
    refine EV.iload_n dX10_readLaw_65 rfl rfl ?_
    refine EV.bipush dX10_readLaw_66 (by decide) (by decide) ?_
    refine EV.icmp_eq (tgt := 77) dX10_readLaw_68 (by decide) (fun q13 => ?_) (fun q13 => ?_)
    · have hf := pv_gp hf q13
      refine EV.weak (L2 := [some (.inr (.inr (0))), some (.inl (v1)), none, none]) (And.intro rfl (And.intro rfl trivial)) ?_
      exact tX10_readLaw_77 hd    hf
    · have hf := pv_gn hf q13
      refine EV.iload_n dX10_readLaw_71 rfl rfl ?_
      refine EV.bipush dX10_readLaw_72 (by decide) (by decide) ?_
      refine EV.icmp_ne (tgt := 81) dX10_readLaw_74 (by decide) (fun q14 => ?_) (fun q14 => ?_)
      · have hf := pv_gn hf q14
        refine EV.iconst dX10_readLaw_81 (by decide) (by decide) ?_
        refine EV.weak (L2 := [some (.inr (.inr (0))), some (.inl (v1)), none, none]) (And.intro rfl (And.intro rfl trivial)) ?_
        exact tX10_readLaw_82 hd    hf
      · have hf := pv_gp hf q14
        refine EV.weak (L2 := [some (.inr (.inr (0))), some (.inl (v1)), none, none]) (And.intro rfl (And.intro rfl trivial)) ?_
        exact tX10_readLaw_77 hd    hf
  · have hf := pv_gn hf q10
    exact FV.vret dX10_readLaw_60 hf

set_option maxHeartbeats 4000000 in
set_option maxRecDepth 20000 in
theorem tX10_readLaw_16 {d N : Nat}   {s0 : Int} {h h' : pv_H}  (hd : 9 ≤ d)    (hf : fX10_readLaw_16 N   s0 h = some h') : EV RX10 cX10_readLaw 4 none false d pv_SM (MM h') none 16 [some (.inr (.inr (0))), none, none, none] [.inl (s0)] pv_SM (MM h) := by
  unfold fX10_readLaw_16 at hf
  refine FV.sti (L2 := [some (.inr (.inr (0))), some (.inl (s0)), none, none]) dX10_readLaw_16 rfl (Nat.le_of_ble_eq_true rfl) rfl rfl ?_
  refine EV.iload_n dX10_readLaw_17 rfl rfl ?_
  refine EV.i2l dX10_readLaw_18 ?_
  refine EV.ldc2 (n := 14) dX10_readLaw_19 kl_X10_220 (by decide) (by decide) ?_
  refine EV.ldc2 (n := 21) dX10_readLaw_22 kl_X10_222 (by decide) (by decide) ?_
  obtain ⟨r3, hc2, hf⟩ := pv_c1o hf
  refine EV.invS (As := [.inr (.inl (s0)), .inr (.inl (14)), .inr (.inl (21))]) (st := []) (d1 := d - 1) (sh1 := pv_SM) (h1 := MM h) (r1 := (some (.inl r3))) dX10_readLaw_25 md_X10_within ml_X10_193 st_X10_within (tX10_within (by omega)  hc2) (by omega) rfl rfl (Nat.le_of_ble_eq_true rfl) ⟨[], (List.append_nil _).symm⟩ ?_
  refine EV.eqS (st2 := [.inl (r3)]) rfl ?_
  refine EV.if_ne (tgt := 39) dX10_readLaw_28 (by decide) (fun q4 => ?_) (fun q4 => ?_)
  · have hf := pv_gn hf q4
    refine EV.aload_n dX10_readLaw_39 rfl rfl ?_
    refine FV.getI dX10_readLaw_40 sm_0 fl_10_204 rfl ?_
    refine EV.bipush dX10_readLaw_43 (by decide) (by decide) ?_
    refine EV.icmp_ne (tgt := 53) dX10_readLaw_45 (by decide) (fun q5 => ?_) (fun q5 => ?_)
    · have hf := pv_gn hf q5
      refine EV.weak (L2 := [some (.inr (.inr (0))), some (.inl (s0)), none, none]) (And.intro rfl (And.intro rfl trivial)) ?_
      exact tX10_readLaw_53 hd    hf
    · have hf := pv_gp hf q5
      refine EV.aload_n dX10_readLaw_48 rfl rfl ?_
      refine EV.iconst dX10_readLaw_49 (by decide) (by decide) ?_
      obtain ⟨h7, hc6, hf⟩ := pv_c1o hf
      refine EV.invV (As := [.inl (4)]) (st := []) (d1 := d - 1) (sh1 := pv_SM) (h1 := MM h7) (r1 := none) dX10_readLaw_50 sm_0 (by decide) md_X10_fails ml_X10_190 im_X10_fails se_X10_fails (tX10_fails (by omega)  hc6) (by omega) rfl rfl (Nat.le_of_ble_eq_true rfl) ⟨[], (List.append_nil _).symm⟩ ?_
      refine EV.weak (L2 := [some (.inr (.inr (0))), some (.inl (s0)), none, none]) (And.intro rfl (And.intro rfl trivial)) ?_
      exact tX10_readLaw_53 hd    hf
  · have hf := pv_gp hf q4
    refine EV.aload_n dX10_readLaw_31 rfl rfl ?_
    refine EV.iconst dX10_readLaw_32 (by decide) (by decide) ?_
    obtain ⟨h9, hc8, hf⟩ := pv_c1o hf
    refine EV.invV (As := [.inl (2)]) (st := []) (d1 := d - 1) (sh1 := pv_SM) (h1 := MM h9) (r1 := none) dX10_readLaw_33 sm_0 (by decide) md_X10_fails ml_X10_190 im_X10_fails se_X10_fails (tX10_fails (by omega)  hc8) (by omega) rfl rfl (Nat.le_of_ble_eq_true rfl) ⟨[], (List.append_nil _).symm⟩ ?_
    refine EV.goto (tgt := 53) dX10_readLaw_36 (by decide) ?_
    refine EV.weak (L2 := [some (.inr (.inr (0))), some (.inl (s0)), none, none]) (And.intro rfl (And.intro rfl trivial)) ?_
    exact tX10_readLaw_53 hd    hf

set_option maxHeartbeats 4000000 in
set_option maxRecDepth 20000 in
theorem tX10_readLaw {d N : Nat}  {h h' : pv_H}  (hd : 9 ≤ d)  (hf : fX10_readLaw N  h = some h') : CALL yX10_readLaw cX10_readLaw 4 none d pv_SM (MM h) [.inr (.inr (0))] pv_SM (MM h') none := by
  unfold fX10_readLaw at hf
  refine EV.call (own := RX10) (ini := false) rfl rfl (fun q => by cases q) ⟨[], (List.append_nil _).symm⟩ (Nat.le_of_ble_eq_true rfl) ?_
  refine EV.eqL (L2 := [some (.inr (.inr (0))), none, none, none]) rfl ?_
  refine EV.aload_n dX10_readLaw_0 rfl rfl ?_
  refine FV.getI dX10_readLaw_1 sm_0 fl_10_175 rfl ?_
  refine EV.if_ne (tgt := 14) dX10_readLaw_4 (by decide) (fun q1 => ?_) (fun q1 => ?_)
  · have hf := pv_gn hf q1
    refine EV.bipush dX10_readLaw_14 (by decide) (by decide) ?_
    refine EV.weak (L2 := [some (.inr (.inr (0))), none, none, none]) (And.intro rfl trivial) ?_
    exact tX10_readLaw_16 hd    hf
  · have hf := pv_gp hf q1
    refine EV.aload_n dX10_readLaw_7 rfl rfl ?_
    refine FV.getI dX10_readLaw_8 sm_0 fl_10_159 rfl ?_
    refine EV.goto (tgt := 16) dX10_readLaw_11 (by decide) ?_
    refine EV.weak (L2 := [some (.inr (.inr (0))), none, none, none]) (And.intro rfl trivial) ?_
    exact tX10_readLaw_16 hd    hf

noncomputable def fX10_emit (N : Nat) (a1 : Int) (a2 : Int) (h : pv_H) : Option (pv_H) :=
  if 0 ≤ pv_w (17 + (pv_w (2 * (h 0 18)))) ∧ pv_w (17 + (pv_w (2 * (h 0 18)))) < 417 then (pv_b (pv_up h 5 (Int.toNat (pv_w (17 + (pv_w (2 * (h 0 18)))))) a1) fun h2 => if 0 ≤ pv_w ((pv_w (17 + (pv_w (2 * (h2 0 18))))) + 1) ∧ pv_w ((pv_w (17 + (pv_w (2 * (h2 0 18))))) + 1) < 417 then (pv_b (pv_up h2 5 (Int.toNat (pv_w ((pv_w (17 + (pv_w (2 * (h2 0 18))))) + 1))) a2) fun h4 => pv_b (pv_up h4 0 18 (pv_w ((h4 0 18) + 1))) fun h5 => some h5) else none) else none

set_option maxHeartbeats 4000000 in
set_option maxRecDepth 20000 in
theorem tX10_emit {d N : Nat} {a1 : Int} {a2 : Int} {h h' : pv_H}  (hd : 1 ≤ d)  (hf : fX10_emit N a1 a2 h = some h') : CALL yX10_emit cX10_emit 3 none d pv_SM (MM h) [.inr (.inr (0)), .inl (a1), .inl (a2)] pv_SM (MM h') none := by
  unfold fX10_emit at hf
  refine EV.call (own := RX10) (ini := false) rfl rfl (fun q => by cases q) ⟨[], (List.append_nil _).symm⟩ (Nat.le_of_ble_eq_true rfl) ?_
  refine EV.eqL (L2 := [some (.inr (.inr (0))), some (.inl (a1)), some (.inl (a2))]) rfl ?_
  refine EV.aload_n dX10_emit_0 rfl rfl ?_
  refine FV.getF (v := 5) dX10_emit_1 sm_0 fl_10_27 rfl rfl hvm_0_5 ?_
  refine EV.bipush dX10_emit_4 (by decide) (by decide) ?_
  refine EV.iconst dX10_emit_6 (by decide) (by decide) ?_
  refine EV.aload_n dX10_emit_7 rfl rfl ?_
  refine FV.getI dX10_emit_8 sm_0 fl_10_224 rfl ?_
  refine EV.imul dX10_emit_11 ?_
  refine EV.iadd dX10_emit_12 ?_
  refine EV.iload_n dX10_emit_13 rfl rfl ?_
  obtain ⟨g1, hf⟩ := pv_gd hf
  obtain ⟨h2, eh2, hf⟩ := pv_bo hf
  refine FV.iast dX10_emit_14 sm_5 g1.1 g1.2 (j := (Int.toNat (pv_w (17 + (pv_w (2 * (h 0 18))))))) rfl eh2 ?_
  refine EV.aload_n dX10_emit_15 rfl rfl ?_
  refine FV.getF (v := 5) dX10_emit_16 sm_0 fl_10_27 rfl rfl hvm_0_5 ?_
  refine EV.bipush dX10_emit_19 (by decide) (by decide) ?_
  refine EV.iconst dX10_emit_21 (by decide) (by decide) ?_
  refine EV.aload_n dX10_emit_22 rfl rfl ?_
  refine FV.getI dX10_emit_23 sm_0 fl_10_224 rfl ?_
  refine EV.imul dX10_emit_26 ?_
  refine EV.iadd dX10_emit_27 ?_
  refine EV.iconst dX10_emit_28 (by decide) (by decide) ?_
  refine EV.iadd dX10_emit_29 ?_
  refine EV.iload_n dX10_emit_30 rfl rfl ?_
  obtain ⟨g3, hf⟩ := pv_gd hf
  obtain ⟨h4, eh4, hf⟩ := pv_bo hf
  refine FV.iast dX10_emit_31 sm_5 g3.1 g3.2 (j := (Int.toNat (pv_w ((pv_w (17 + (pv_w (2 * (h2 0 18))))) + 1)))) rfl eh4 ?_
  refine EV.aload_n dX10_emit_32 rfl rfl ?_
  refine EV.dup dX10_emit_33 rfl ?_
  refine FV.getI dX10_emit_34 sm_0 fl_10_224 rfl ?_
  refine EV.iconst dX10_emit_37 (by decide) (by decide) ?_
  refine EV.iadd dX10_emit_38 ?_
  obtain ⟨h5, eh5, hf⟩ := pv_bo hf
  refine FV.putI dX10_emit_39 sm_0 fl_10_224 rfl rfl eh5 ?_
  exact FV.vret dX10_emit_42 hf

noncomputable def fX10_readTest_4 (N : Nat) (rc : Nat → pv_H → Option (pv_H))   : Nat → pv_H → Option (pv_H)
  | 0, _ => none
  | n + 1, h => pv_c2b (fX10_eats N 24 h) fun h4 r5 => if r5 = 0 then (some h4) else (pv_c1 (rc 1  h4) fun h8 => if (h8 0 12) = 0 then (pv_c1 (fX10_emit N 24 0 h8) fun h11 => fX10_readTest_4 N rc   n  h11) else (fX10_readTest_4 N rc   n  h8))

noncomputable def fX10_readTest (N : Nat) (rc : Nat → pv_H → Option (pv_H))  (h : pv_H) : Option (pv_H) :=
  pv_c1 (rc 1  h) fun h2 => fX10_readTest_4 N rc   N  h2

set_option maxHeartbeats 4000000 in
set_option maxRecDepth 20000 in
theorem tX10_readTest_4 {d N : Nat} {rc : Nat → pv_H → Option (pv_H)}   {h' : pv_H}  (hd : 9 ≤ d) (hrc0 : ∀ {z1 z2 : pv_H}, rc 0 z1 = some z2 → CALL yX10_readTest cX10_readTest 1 none (d - 1) pv_SM (MM z1) [.inr (.inr 0)] pv_SM (MM z2) none) (hrc1 : ∀ {z1 z2 : pv_H}, rc 1 z1 = some z2 → CALL yX10_readPart cX10_readPart 1 none (d - 1) pv_SM (MM z1) [.inr (.inr 0)] pv_SM (MM z2) none) (hrc2 : ∀ {z1 z2 : pv_H}, rc 2 z1 = some z2 → CALL yX10_readFact cX10_readFact 3 none (d - 1) pv_SM (MM z1) [.inr (.inr 0)] pv_SM (MM z2) none)   : ∀ (n : Nat)   (h : pv_H), fX10_readTest_4 N rc   n  h = some h' → EV RX10 cX10_readTest 1 none false d pv_SM (MM h') none 4 [some (.inr (.inr (0)))] [] pv_SM (MM h) := by
  intro n
  induction n with
  | zero =>
    intro   h hf
    cases hf
  | succ n ih =>
    intro   h hf
    rw [fX10_readTest_4] at hf
    refine EV.aload_n dX10_readTest_4 rfl rfl ?_
    refine EV.bipush dX10_readTest_5 (by decide) (by decide) ?_
    obtain ⟨h4, r5, hc3, hf⟩ := pv_c2o hf
    refine EV.invV (As := [.inl (24)]) (st := []) (d1 := d - 1) (sh1 := pv_SM) (h1 := MM h4) (r1 := (some (.inl r5))) dX10_readTest_7 sm_0 (by decide) md_X10_eats ml_X10_187 im_X10_eats se_X10_eats (tX10_eats (by omega)  hc3) (by omega) rfl rfl (Nat.le_of_ble_eq_true rfl) ⟨[], (List.append_nil _).symm⟩ ?_
    refine EV.eqS (st2 := [.inl (r5)]) rfl ?_
    refine EV.if_eq (tgt := 34) dX10_readTest_10 (by decide) (fun q6 => ?_) (fun q6 => ?_)
    · have hf := pv_gp hf q6
      exact FV.vret dX10_readTest_34 hf
    · have hf := pv_gn hf q6
      refine EV.aload_n dX10_readTest_13 rfl rfl ?_
      obtain ⟨h8, hc7, hf⟩ := pv_c1o hf
      refine EV.invV (As := []) (st := []) (d1 := d - 1) (sh1 := pv_SM) (h1 := MM h8) (r1 := none) dX10_readTest_14 sm_0 (by decide) md_X10_readPart ml_X10_227 im_X10_readPart se_X10_readPart (hrc1 hc7) (by omega) rfl rfl (Nat.le_of_ble_eq_true rfl) ⟨[], (List.append_nil _).symm⟩ ?_
      refine EV.aload_n dX10_readTest_17 rfl rfl ?_
      refine FV.getI dX10_readTest_18 sm_0 fl_10_175 rfl ?_
      refine EV.if_ne (tgt := 4) dX10_readTest_21 (by decide) (fun q9 => ?_) (fun q9 => ?_)
      · have hf := pv_gn hf q9
        refine EV.weak (L2 := [some (.inr (.inr (0)))]) (And.intro rfl trivial) ?_
        exact ih   _ hf
      · have hf := pv_gp hf q9
        refine EV.aload_n dX10_readTest_24 rfl rfl ?_
        refine EV.bipush dX10_readTest_25 (by decide) (by decide) ?_
        refine EV.iconst dX10_readTest_27 (by decide) (by decide) ?_
        obtain ⟨h11, hc10, hf⟩ := pv_c1o hf
        refine EV.invV (As := [.inl (24), .inl (0)]) (st := []) (d1 := d - 1) (sh1 := pv_SM) (h1 := MM h11) (r1 := none) dX10_readTest_28 sm_0 (by decide) md_X10_emit ml_X10_230 im_X10_emit se_X10_emit (tX10_emit (by omega)  hc10) (by omega) rfl rfl (Nat.le_of_ble_eq_true rfl) ⟨[], (List.append_nil _).symm⟩ ?_
        refine EV.goto (tgt := 4) dX10_readTest_31 (by decide) ?_
        refine EV.weak (L2 := [some (.inr (.inr (0)))]) (And.intro rfl trivial) ?_
        exact ih   _ hf

set_option maxHeartbeats 4000000 in
set_option maxRecDepth 20000 in
theorem tX10_readTest {d N : Nat} {rc : Nat → pv_H → Option (pv_H)}  {h h' : pv_H}  (hd : 9 ≤ d) (hrc0 : ∀ {z1 z2 : pv_H}, rc 0 z1 = some z2 → CALL yX10_readTest cX10_readTest 1 none (d - 1) pv_SM (MM z1) [.inr (.inr 0)] pv_SM (MM z2) none) (hrc1 : ∀ {z1 z2 : pv_H}, rc 1 z1 = some z2 → CALL yX10_readPart cX10_readPart 1 none (d - 1) pv_SM (MM z1) [.inr (.inr 0)] pv_SM (MM z2) none) (hrc2 : ∀ {z1 z2 : pv_H}, rc 2 z1 = some z2 → CALL yX10_readFact cX10_readFact 3 none (d - 1) pv_SM (MM z1) [.inr (.inr 0)] pv_SM (MM z2) none)  (hf : fX10_readTest N rc  h = some h') : CALL yX10_readTest cX10_readTest 1 none d pv_SM (MM h) [.inr (.inr (0))] pv_SM (MM h') none := by
  unfold fX10_readTest at hf
  refine EV.call (own := RX10) (ini := false) rfl rfl (fun q => by cases q) ⟨[], (List.append_nil _).symm⟩ (Nat.le_of_ble_eq_true rfl) ?_
  refine EV.eqL (L2 := [some (.inr (.inr (0)))]) rfl ?_
  refine EV.aload_n dX10_readTest_0 rfl rfl ?_
  obtain ⟨h2, hc1, hf⟩ := pv_c1o hf
  refine EV.invV (As := []) (st := []) (d1 := d - 1) (sh1 := pv_SM) (h1 := MM h2) (r1 := none) dX10_readTest_1 sm_0 (by decide) md_X10_readPart ml_X10_227 im_X10_readPart se_X10_readPart (hrc1 hc1) (by omega) rfl rfl (Nat.le_of_ble_eq_true rfl) ⟨[], (List.append_nil _).symm⟩ ?_
  refine EV.weak (L2 := [some (.inr (.inr (0)))]) (And.intro rfl trivial) ?_
  exact tX10_readTest_4 hd hrc0 hrc1 hrc2   _   _ hf

noncomputable def fX10_readPart_4 (N : Nat) (rc : Nat → pv_H → Option (pv_H))   : Nat → pv_H → Option (pv_H)
  | 0, _ => none
  | n + 1, h => pv_c2b (fX10_eats N 25 h) fun h4 r5 => if r5 = 0 then (some h4) else (pv_c1 (rc 2  h4) fun h8 => if (h8 0 12) = 0 then (pv_c1 (fX10_emit N 25 0 h8) fun h11 => fX10_readPart_4 N rc   n  h11) else (fX10_readPart_4 N rc   n  h8))

noncomputable def fX10_readPart (N : Nat) (rc : Nat → pv_H → Option (pv_H))  (h : pv_H) : Option (pv_H) :=
  pv_c1 (rc 2  h) fun h2 => fX10_readPart_4 N rc   N  h2

set_option maxHeartbeats 4000000 in
set_option maxRecDepth 20000 in
theorem tX10_readPart_4 {d N : Nat} {rc : Nat → pv_H → Option (pv_H)}   {h' : pv_H}  (hd : 9 ≤ d) (hrc0 : ∀ {z1 z2 : pv_H}, rc 0 z1 = some z2 → CALL yX10_readTest cX10_readTest 1 none (d - 1) pv_SM (MM z1) [.inr (.inr 0)] pv_SM (MM z2) none) (hrc1 : ∀ {z1 z2 : pv_H}, rc 1 z1 = some z2 → CALL yX10_readPart cX10_readPart 1 none (d - 1) pv_SM (MM z1) [.inr (.inr 0)] pv_SM (MM z2) none) (hrc2 : ∀ {z1 z2 : pv_H}, rc 2 z1 = some z2 → CALL yX10_readFact cX10_readFact 3 none (d - 1) pv_SM (MM z1) [.inr (.inr 0)] pv_SM (MM z2) none)   : ∀ (n : Nat)   (h : pv_H), fX10_readPart_4 N rc   n  h = some h' → EV RX10 cX10_readPart 1 none false d pv_SM (MM h') none 4 [some (.inr (.inr (0)))] [] pv_SM (MM h) := by
  intro n
  induction n with
  | zero =>
    intro   h hf
    cases hf
  | succ n ih =>
    intro   h hf
    rw [fX10_readPart_4] at hf
    refine EV.aload_n dX10_readPart_4 rfl rfl ?_
    refine EV.bipush dX10_readPart_5 (by decide) (by decide) ?_
    obtain ⟨h4, r5, hc3, hf⟩ := pv_c2o hf
    refine EV.invV (As := [.inl (25)]) (st := []) (d1 := d - 1) (sh1 := pv_SM) (h1 := MM h4) (r1 := (some (.inl r5))) dX10_readPart_7 sm_0 (by decide) md_X10_eats ml_X10_187 im_X10_eats se_X10_eats (tX10_eats (by omega)  hc3) (by omega) rfl rfl (Nat.le_of_ble_eq_true rfl) ⟨[], (List.append_nil _).symm⟩ ?_
    refine EV.eqS (st2 := [.inl (r5)]) rfl ?_
    refine EV.if_eq (tgt := 34) dX10_readPart_10 (by decide) (fun q6 => ?_) (fun q6 => ?_)
    · have hf := pv_gp hf q6
      exact FV.vret dX10_readPart_34 hf
    · have hf := pv_gn hf q6
      refine EV.aload_n dX10_readPart_13 rfl rfl ?_
      obtain ⟨h8, hc7, hf⟩ := pv_c1o hf
      refine EV.invV (As := []) (st := []) (d1 := d - 1) (sh1 := pv_SM) (h1 := MM h8) (r1 := none) dX10_readPart_14 sm_0 (by decide) md_X10_readFact ml_X10_233 im_X10_readFact se_X10_readFact (hrc2 hc7) (by omega) rfl rfl (Nat.le_of_ble_eq_true rfl) ⟨[], (List.append_nil _).symm⟩ ?_
      refine EV.aload_n dX10_readPart_17 rfl rfl ?_
      refine FV.getI dX10_readPart_18 sm_0 fl_10_175 rfl ?_
      refine EV.if_ne (tgt := 4) dX10_readPart_21 (by decide) (fun q9 => ?_) (fun q9 => ?_)
      · have hf := pv_gn hf q9
        refine EV.weak (L2 := [some (.inr (.inr (0)))]) (And.intro rfl trivial) ?_
        exact ih   _ hf
      · have hf := pv_gp hf q9
        refine EV.aload_n dX10_readPart_24 rfl rfl ?_
        refine EV.bipush dX10_readPart_25 (by decide) (by decide) ?_
        refine EV.iconst dX10_readPart_27 (by decide) (by decide) ?_
        obtain ⟨h11, hc10, hf⟩ := pv_c1o hf
        refine EV.invV (As := [.inl (25), .inl (0)]) (st := []) (d1 := d - 1) (sh1 := pv_SM) (h1 := MM h11) (r1 := none) dX10_readPart_28 sm_0 (by decide) md_X10_emit ml_X10_230 im_X10_emit se_X10_emit (tX10_emit (by omega)  hc10) (by omega) rfl rfl (Nat.le_of_ble_eq_true rfl) ⟨[], (List.append_nil _).symm⟩ ?_
        refine EV.goto (tgt := 4) dX10_readPart_31 (by decide) ?_
        refine EV.weak (L2 := [some (.inr (.inr (0)))]) (And.intro rfl trivial) ?_
        exact ih   _ hf

set_option maxHeartbeats 4000000 in
set_option maxRecDepth 20000 in
theorem tX10_readPart {d N : Nat} {rc : Nat → pv_H → Option (pv_H)}  {h h' : pv_H}  (hd : 9 ≤ d) (hrc0 : ∀ {z1 z2 : pv_H}, rc 0 z1 = some z2 → CALL yX10_readTest cX10_readTest 1 none (d - 1) pv_SM (MM z1) [.inr (.inr 0)] pv_SM (MM z2) none) (hrc1 : ∀ {z1 z2 : pv_H}, rc 1 z1 = some z2 → CALL yX10_readPart cX10_readPart 1 none (d - 1) pv_SM (MM z1) [.inr (.inr 0)] pv_SM (MM z2) none) (hrc2 : ∀ {z1 z2 : pv_H}, rc 2 z1 = some z2 → CALL yX10_readFact cX10_readFact 3 none (d - 1) pv_SM (MM z1) [.inr (.inr 0)] pv_SM (MM z2) none)  (hf : fX10_readPart N rc  h = some h') : CALL yX10_readPart cX10_readPart 1 none d pv_SM (MM h) [.inr (.inr (0))] pv_SM (MM h') none := by
  unfold fX10_readPart at hf
  refine EV.call (own := RX10) (ini := false) rfl rfl (fun q => by cases q) ⟨[], (List.append_nil _).symm⟩ (Nat.le_of_ble_eq_true rfl) ?_
  refine EV.eqL (L2 := [some (.inr (.inr (0)))]) rfl ?_
  refine EV.aload_n dX10_readPart_0 rfl rfl ?_
  obtain ⟨h2, hc1, hf⟩ := pv_c1o hf
  refine EV.invV (As := []) (st := []) (d1 := d - 1) (sh1 := pv_SM) (h1 := MM h2) (r1 := none) dX10_readPart_1 sm_0 (by decide) md_X10_readFact ml_X10_233 im_X10_readFact se_X10_readFact (hrc2 hc1) (by omega) rfl rfl (Nat.le_of_ble_eq_true rfl) ⟨[], (List.append_nil _).symm⟩ ?_
  refine EV.weak (L2 := [some (.inr (.inr (0)))]) (And.intro rfl trivial) ?_
  exact tX10_readPart_4 hd hrc0 hrc1 hrc2   _   _ hf

noncomputable def fX10_readFact_117 (N : Nat) (rc : Nat → pv_H → Option (pv_H))    (h : pv_H) : Option (pv_H) :=
  some h

noncomputable def fX10_readFact_78 (N : Nat) (rc : Nat → pv_H → Option (pv_H))   (v1 : Int) (h : pv_H) : Option (pv_H) :=
  pv_b (pv_up h 0 17 (pv_w ((h 0 17) - 1))) fun h51 => if v1 = 40 then (pv_c1 (fX10_needs N 41 h51) fun h57 => fX10_readFact_117 N rc    h57) else (if (h51 0 12) = 0 then (pv_c1 (fX10_emit N 26 0 h51) fun h55 => fX10_readFact_117 N rc    h55) else (fX10_readFact_117 N rc    h51))

noncomputable def fX10_readFact_39 (N : Nat) (rc : Nat → pv_H → Option (pv_H))   (v1 : Int) (h : pv_H) : Option (pv_H) :=
  if (h 0 12) = 0 then (pv_c1 (fX10_next N  h) fun h38 => pv_b (pv_up h38 0 17 (pv_w ((h38 0 17) + 1))) fun h39 => if v1 = 26 then (pv_c1 (rc 2  h39) fun h44 => fX10_readFact_78 N rc   (v1) h44) else (pv_c1 (rc 0  h39) fun h42 => fX10_readFact_78 N rc   (v1) h42)) else (some h)

noncomputable def fX10_readFact_25 (N : Nat) (rc : Nat → pv_H → Option (pv_H))   (v1 : Int) (h : pv_H) : Option (pv_H) :=
  if (h 0 17) = 8 then (pv_c1 (fX10_fails N 5 h) fun h12 => fX10_readFact_39 N rc   (v1) h12) else (fX10_readFact_39 N rc   (v1) h)

noncomputable def fX10_readFact_261 (N : Nat) (rc : Nat → pv_H → Option (pv_H))    (h : pv_H) : Option (pv_H) :=
  some h

noncomputable def fX10_readFact_248 (N : Nat) (rc : Nat → pv_H → Option (pv_H))   (v1 : Int) (v2 : Int) (h : pv_H) : Option (pv_H) :=
  if (h 0 12) = 0 then (pv_c1 (fX10_emit N v1 v2 h) fun h50 => fX10_readFact_261 N rc    h50) else (fX10_readFact_261 N rc    h)

noncomputable def fX10_readFact_222 (N : Nat) (rc : Nat → pv_H → Option (pv_H))   (v1 : Int) (h : pv_H) : Option (pv_H) :=
  pv_c2b (fX10_reads N 1 60 h) fun h46 r47 => fX10_readFact_248 N rc   (v1) (r47) h46

noncomputable def fX10_readFact_137 (N : Nat) (rc : Nat → pv_H → Option (pv_H))   (v1 : Int) (h : pv_H) : Option (pv_H) :=
  if (h 0 12) = 0 then (pv_c1 (fX10_next N  h) fun h15 => if v1 = 29 then (pv_c2b (fX10_reads N 1 61 h15) fun h34 r35 => fX10_readFact_248 N rc   (v1) (r35) h34) else (pv_c1 (fX10_within N v1 30 32 h15) fun r18 => if r18 = 0 then (if v1 = 33 then (pv_c2b (fX10_reads N 0 59 h15) fun h28 r29 => fX10_readFact_248 N rc   (v1) (r29) h28) else (if v1 = 34 then (fX10_readFact_222 N rc   (v1) h15) else (if v1 = 35 then (fX10_readFact_222 N rc   (v1) h15) else (if v1 = 36 then (pv_c2b (fX10_reads N 0 999 h15) fun h25 r26 => fX10_readFact_248 N rc   (v1) (r26) h25) else (fX10_readFact_248 N rc   (v1) (0) h15))))) else (pv_c2b (fX10_reads N 0 99 h15) fun h31 r32 => fX10_readFact_248 N rc   (v1) (r32) h31))) else (some h)

noncomputable def fX10_readFact (N : Nat) (rc : Nat → pv_H → Option (pv_H))  (h : pv_H) : Option (pv_H) :=
  if (h 0 12) = 0 then (pv_b (h 0 10) fun x2 => if x2 = 26 then (fX10_readFact_25 N rc   (x2) h) else (if x2 = 40 then (fX10_readFact_25 N rc   (x2) h) else (pv_c1 (fX10_within N x2 27 36 h) fun r6 => if r6 = 0 then (pv_c1 (fX10_fails N 2 h) fun h9 => fX10_readFact_137 N rc   (x2) h9) else (fX10_readFact_137 N rc   (x2) h)))) else (some h)

set_option maxHeartbeats 4000000 in
set_option maxRecDepth 20000 in
theorem tX10_readFact_117 {d N : Nat} {rc : Nat → pv_H → Option (pv_H)}    {h h' : pv_H}  (hd : 10 ≤ d) (hrc0 : ∀ {z1 z2 : pv_H}, rc 0 z1 = some z2 → CALL yX10_readTest cX10_readTest 1 none (d - 1) pv_SM (MM z1) [.inr (.inr 0)] pv_SM (MM z2) none) (hrc1 : ∀ {z1 z2 : pv_H}, rc 1 z1 = some z2 → CALL yX10_readPart cX10_readPart 1 none (d - 1) pv_SM (MM z1) [.inr (.inr 0)] pv_SM (MM z2) none) (hrc2 : ∀ {z1 z2 : pv_H}, rc 2 z1 = some z2 → CALL yX10_readFact cX10_readFact 3 none (d - 1) pv_SM (MM z1) [.inr (.inr 0)] pv_SM (MM z2) none)    (hf : fX10_readFact_117 N rc    h = some h') : EV RX10 cX10_readFact 3 none false d pv_SM (MM h') none 117 [none, none, none] [] pv_SM (MM h) := by
  unfold fX10_readFact_117 at hf
  exact FV.vret dX10_readFact_117 hf

set_option maxHeartbeats 4000000 in
set_option maxRecDepth 20000 in
theorem tX10_readFact_78 {d N : Nat} {rc : Nat → pv_H → Option (pv_H)}   {v1 : Int} {h h' : pv_H}  (hd : 10 ≤ d) (hrc0 : ∀ {z1 z2 : pv_H}, rc 0 z1 = some z2 → CALL yX10_readTest cX10_readTest 1 none (d - 1) pv_SM (MM z1) [.inr (.inr 0)] pv_SM (MM z2) none) (hrc1 : ∀ {z1 z2 : pv_H}, rc 1 z1 = some z2 → CALL yX10_readPart cX10_readPart 1 none (d - 1) pv_SM (MM z1) [.inr (.inr 0)] pv_SM (MM z2) none) (hrc2 : ∀ {z1 z2 : pv_H}, rc 2 z1 = some z2 → CALL yX10_readFact cX10_readFact 3 none (d - 1) pv_SM (MM z1) [.inr (.inr 0)] pv_SM (MM z2) none)    (hf : fX10_readFact_78 N rc   v1 h = some h') : EV RX10 cX10_readFact 3 none false d pv_SM (MM h') none 78 [some (.inr (.inr (0))), some (.inl (v1)), none] [] pv_SM (MM h) := by
  unfold fX10_readFact_78 at hf
  refine EV.aload_n dX10_readFact_78 rfl rfl ?_
  refine EV.dup dX10_readFact_79 rfl ?_
  refine FV.getI dX10_readFact_80 sm_0 fl_10_236 rfl ?_
  refine EV.iconst dX10_readFact_83 (by decide) (by decide) ?_
  refine EV.isub dX10_readFact_84 ?_
  obtain ⟨h51, eh51, hf⟩ := pv_bo hf
  refine FV.putI dX10_readFact_85 sm_0 fl_10_236 rfl rfl eh51 ?_
  refine EV.iload_n dX10_readFact_88 rfl rfl ?_
  refine EV.bipush dX10_readFact_89 (by decide) (by decide) ?_
  refine EV.icmp_ne (tgt := 103) dX10_readFact_91 (by decide) (fun q52 => ?_) (fun q52 => ?_)
  · have hf := pv_gn hf q52
    refine EV.aload_n dX10_readFact_103 rfl rfl ?_
    refine FV.getI dX10_readFact_104 sm_0 fl_10_175 rfl ?_
    refine EV.if_ne (tgt := 117) dX10_readFact_107 (by decide) (fun q53 => ?_) (fun q53 => ?_)
    · have hf := pv_gn hf q53
      refine EV.weak (L2 := [none, none, none]) trivial ?_
      exact tX10_readFact_117 hd hrc0 hrc1 hrc2    hf
    · have hf := pv_gp hf q53
      refine EV.aload_n dX10_readFact_110 rfl rfl ?_
      refine EV.bipush dX10_readFact_111 (by decide) (by decide) ?_
      refine EV.iconst dX10_readFact_113 (by decide) (by decide) ?_
      obtain ⟨h55, hc54, hf⟩ := pv_c1o hf
      refine EV.invV (As := [.inl (26), .inl (0)]) (st := []) (d1 := d - 1) (sh1 := pv_SM) (h1 := MM h55) (r1 := none) dX10_readFact_114 sm_0 (by decide) md_X10_emit ml_X10_230 im_X10_emit se_X10_emit (tX10_emit (by omega)  hc54) (by omega) rfl rfl (Nat.le_of_ble_eq_true rfl) ⟨[], (List.append_nil _).symm⟩ ?_
      refine EV.weak (L2 := [none, none, none]) trivial ?_
      exact tX10_readFact_117 hd hrc0 hrc1 hrc2    hf
  · have hf := pv_gp hf q52
    refine EV.aload_n dX10_readFact_94 rfl rfl ?_
    refine EV.bipush dX10_readFact_95 (by decide) (by decide) ?_
    obtain ⟨h57, hc56, hf⟩ := pv_c1o hf
    refine EV.invV (As := [.inl (41)]) (st := []) (d1 := d - 1) (sh1 := pv_SM) (h1 := MM h57) (r1 := none) dX10_readFact_97 sm_0 (by decide) md_X10_needs ml_X10_201 im_X10_needs se_X10_needs (tX10_needs (by omega)  hc56) (by omega) rfl rfl (Nat.le_of_ble_eq_true rfl) ⟨[], (List.append_nil _).symm⟩ ?_
    refine EV.goto (tgt := 117) dX10_readFact_100 (by decide) ?_
    refine EV.weak (L2 := [none, none, none]) trivial ?_
    exact tX10_readFact_117 hd hrc0 hrc1 hrc2    hf

set_option maxHeartbeats 4000000 in
set_option maxRecDepth 20000 in
theorem tX10_readFact_39 {d N : Nat} {rc : Nat → pv_H → Option (pv_H)}   {v1 : Int} {h h' : pv_H}  (hd : 10 ≤ d) (hrc0 : ∀ {z1 z2 : pv_H}, rc 0 z1 = some z2 → CALL yX10_readTest cX10_readTest 1 none (d - 1) pv_SM (MM z1) [.inr (.inr 0)] pv_SM (MM z2) none) (hrc1 : ∀ {z1 z2 : pv_H}, rc 1 z1 = some z2 → CALL yX10_readPart cX10_readPart 1 none (d - 1) pv_SM (MM z1) [.inr (.inr 0)] pv_SM (MM z2) none) (hrc2 : ∀ {z1 z2 : pv_H}, rc 2 z1 = some z2 → CALL yX10_readFact cX10_readFact 3 none (d - 1) pv_SM (MM z1) [.inr (.inr 0)] pv_SM (MM z2) none)    (hf : fX10_readFact_39 N rc   v1 h = some h') : EV RX10 cX10_readFact 3 none false d pv_SM (MM h') none 39 [some (.inr (.inr (0))), some (.inl (v1)), none] [] pv_SM (MM h) := by
  unfold fX10_readFact_39 at hf
  refine EV.aload_n dX10_readFact_39 rfl rfl ?_
  refine FV.getI dX10_readFact_40 sm_0 fl_10_175 rfl ?_
  refine EV.if_eq (tgt := 47) dX10_readFact_43 (by decide) (fun q36 => ?_) (fun q36 => ?_)
  · have hf := pv_gp hf q36
    refine EV.aload_n dX10_readFact_47 rfl rfl ?_
    obtain ⟨h38, hc37, hf⟩ := pv_c1o hf
    refine EV.invV (As := []) (st := []) (d1 := d - 1) (sh1 := pv_SM) (h1 := MM h38) (r1 := none) dX10_readFact_48 sm_0 (by decide) md_X10_next ml_X10_184 im_X10_next se_X10_next (tX10_next (by omega)  hc37) (by omega) rfl rfl (Nat.le_of_ble_eq_true rfl) ⟨[], (List.append_nil _).symm⟩ ?_
    refine EV.aload_n dX10_readFact_51 rfl rfl ?_
    refine EV.dup dX10_readFact_52 rfl ?_
    refine FV.getI dX10_readFact_53 sm_0 fl_10_236 rfl ?_
    refine EV.iconst dX10_readFact_56 (by decide) (by decide) ?_
    refine EV.iadd dX10_readFact_57 ?_
    obtain ⟨h39, eh39, hf⟩ := pv_bo hf
    refine FV.putI dX10_readFact_58 sm_0 fl_10_236 rfl rfl eh39 ?_
    refine EV.iload_n dX10_readFact_61 rfl rfl ?_
    refine EV.bipush dX10_readFact_62 (by decide) (by decide) ?_
    refine EV.icmp_ne (tgt := 74) dX10_readFact_64 (by decide) (fun q40 => ?_) (fun q40 => ?_)
    · have hf := pv_gn hf q40
      refine EV.aload_n dX10_readFact_74 rfl rfl ?_
      obtain ⟨h42, hc41, hf⟩ := pv_c1o hf
      refine EV.invV (As := []) (st := []) (d1 := d - 1) (sh1 := pv_SM) (h1 := MM h42) (r1 := none) dX10_readFact_75 sm_0 (by decide) md_X10_readTest ml_X10_239 im_X10_readTest se_X10_readTest (hrc0 hc41) (by omega) rfl rfl (Nat.le_of_ble_eq_true rfl) ⟨[], (List.append_nil _).symm⟩ ?_
      refine EV.weak (L2 := [some (.inr (.inr (0))), some (.inl (v1)), none]) (And.intro rfl (And.intro rfl trivial)) ?_
      exact tX10_readFact_78 hd hrc0 hrc1 hrc2    hf
    · have hf := pv_gp hf q40
      refine EV.aload_n dX10_readFact_67 rfl rfl ?_
      obtain ⟨h44, hc43, hf⟩ := pv_c1o hf
      refine EV.invV (As := []) (st := []) (d1 := d - 1) (sh1 := pv_SM) (h1 := MM h44) (r1 := none) dX10_readFact_68 sm_0 (by decide) md_X10_readFact ml_X10_233 im_X10_readFact se_X10_readFact (hrc2 hc43) (by omega) rfl rfl (Nat.le_of_ble_eq_true rfl) ⟨[], (List.append_nil _).symm⟩ ?_
      refine EV.goto (tgt := 78) dX10_readFact_71 (by decide) ?_
      refine EV.weak (L2 := [some (.inr (.inr (0))), some (.inl (v1)), none]) (And.intro rfl (And.intro rfl trivial)) ?_
      exact tX10_readFact_78 hd hrc0 hrc1 hrc2    hf
  · have hf := pv_gn hf q36
    exact FV.vret dX10_readFact_46 hf

set_option maxHeartbeats 4000000 in
set_option maxRecDepth 20000 in
theorem tX10_readFact_25 {d N : Nat} {rc : Nat → pv_H → Option (pv_H)}   {v1 : Int} {h h' : pv_H}  (hd : 10 ≤ d) (hrc0 : ∀ {z1 z2 : pv_H}, rc 0 z1 = some z2 → CALL yX10_readTest cX10_readTest 1 none (d - 1) pv_SM (MM z1) [.inr (.inr 0)] pv_SM (MM z2) none) (hrc1 : ∀ {z1 z2 : pv_H}, rc 1 z1 = some z2 → CALL yX10_readPart cX10_readPart 1 none (d - 1) pv_SM (MM z1) [.inr (.inr 0)] pv_SM (MM z2) none) (hrc2 : ∀ {z1 z2 : pv_H}, rc 2 z1 = some z2 → CALL yX10_readFact cX10_readFact 3 none (d - 1) pv_SM (MM z1) [.inr (.inr 0)] pv_SM (MM z2) none)    (hf : fX10_readFact_25 N rc   v1 h = some h') : EV RX10 cX10_readFact 3 none false d pv_SM (MM h') none 25 [some (.inr (.inr (0))), some (.inl (v1)), none] [] pv_SM (MM h) := by
  unfold fX10_readFact_25 at hf
  refine EV.aload_n dX10_readFact_25 rfl rfl ?_
  refine FV.getI dX10_readFact_26 sm_0 fl_10_236 rfl ?_
  refine EV.bipush dX10_readFact_29 (by decide) (by decide) ?_
  refine EV.icmp_ne (tgt := 39) dX10_readFact_31 (by decide) (fun q10 => ?_) (fun q10 => ?_)
  · have hf := pv_gn hf q10
    refine EV.weak (L2 := [some (.inr (.inr (0))), some (.inl (v1)), none]) (And.intro rfl (And.intro rfl trivial)) ?_
    exact tX10_readFact_39 hd hrc0 hrc1 hrc2    hf
  · have hf := pv_gp hf q10
    refine EV.aload_n dX10_readFact_34 rfl rfl ?_
    refine EV.iconst dX10_readFact_35 (by decide) (by decide) ?_
    obtain ⟨h12, hc11, hf⟩ := pv_c1o hf
    refine EV.invV (As := [.inl (5)]) (st := []) (d1 := d - 1) (sh1 := pv_SM) (h1 := MM h12) (r1 := none) dX10_readFact_36 sm_0 (by decide) md_X10_fails ml_X10_190 im_X10_fails se_X10_fails (tX10_fails (by omega)  hc11) (by omega) rfl rfl (Nat.le_of_ble_eq_true rfl) ⟨[], (List.append_nil _).symm⟩ ?_
    refine EV.weak (L2 := [some (.inr (.inr (0))), some (.inl (v1)), none]) (And.intro rfl (And.intro rfl trivial)) ?_
    exact tX10_readFact_39 hd hrc0 hrc1 hrc2    hf

set_option maxHeartbeats 4000000 in
set_option maxRecDepth 20000 in
theorem tX10_readFact_261 {d N : Nat} {rc : Nat → pv_H → Option (pv_H)}    {h h' : pv_H}  (hd : 10 ≤ d) (hrc0 : ∀ {z1 z2 : pv_H}, rc 0 z1 = some z2 → CALL yX10_readTest cX10_readTest 1 none (d - 1) pv_SM (MM z1) [.inr (.inr 0)] pv_SM (MM z2) none) (hrc1 : ∀ {z1 z2 : pv_H}, rc 1 z1 = some z2 → CALL yX10_readPart cX10_readPart 1 none (d - 1) pv_SM (MM z1) [.inr (.inr 0)] pv_SM (MM z2) none) (hrc2 : ∀ {z1 z2 : pv_H}, rc 2 z1 = some z2 → CALL yX10_readFact cX10_readFact 3 none (d - 1) pv_SM (MM z1) [.inr (.inr 0)] pv_SM (MM z2) none)    (hf : fX10_readFact_261 N rc    h = some h') : EV RX10 cX10_readFact 3 none false d pv_SM (MM h') none 261 [none, none, none] [] pv_SM (MM h) := by
  unfold fX10_readFact_261 at hf
  exact FV.vret dX10_readFact_261 hf

set_option maxHeartbeats 4000000 in
set_option maxRecDepth 20000 in
theorem tX10_readFact_248 {d N : Nat} {rc : Nat → pv_H → Option (pv_H)}   {v1 : Int} {v2 : Int} {h h' : pv_H}  (hd : 10 ≤ d) (hrc0 : ∀ {z1 z2 : pv_H}, rc 0 z1 = some z2 → CALL yX10_readTest cX10_readTest 1 none (d - 1) pv_SM (MM z1) [.inr (.inr 0)] pv_SM (MM z2) none) (hrc1 : ∀ {z1 z2 : pv_H}, rc 1 z1 = some z2 → CALL yX10_readPart cX10_readPart 1 none (d - 1) pv_SM (MM z1) [.inr (.inr 0)] pv_SM (MM z2) none) (hrc2 : ∀ {z1 z2 : pv_H}, rc 2 z1 = some z2 → CALL yX10_readFact cX10_readFact 3 none (d - 1) pv_SM (MM z1) [.inr (.inr 0)] pv_SM (MM z2) none)    (hf : fX10_readFact_248 N rc   v1 v2 h = some h') : EV RX10 cX10_readFact 3 none false d pv_SM (MM h') none 248 [some (.inr (.inr (0))), some (.inl (v1)), some (.inl (v2))] [] pv_SM (MM h) := by
  unfold fX10_readFact_248 at hf
  refine EV.aload_n dX10_readFact_248 rfl rfl ?_
  refine FV.getI dX10_readFact_249 sm_0 fl_10_175 rfl ?_
  refine EV.if_ne (tgt := 261) dX10_readFact_252 (by decide) (fun q48 => ?_) (fun q48 => ?_)
  · have hf := pv_gn hf q48
    refine EV.weak (L2 := [none, none, none]) trivial ?_
    exact tX10_readFact_261 hd hrc0 hrc1 hrc2    hf
  · have hf := pv_gp hf q48
    refine EV.aload_n dX10_readFact_255 rfl rfl ?_
    refine EV.iload_n dX10_readFact_256 rfl rfl ?_
    refine EV.iload_n dX10_readFact_257 rfl rfl ?_
    obtain ⟨h50, hc49, hf⟩ := pv_c1o hf
    refine EV.invV (As := [.inl (v1), .inl (v2)]) (st := []) (d1 := d - 1) (sh1 := pv_SM) (h1 := MM h50) (r1 := none) dX10_readFact_258 sm_0 (by decide) md_X10_emit ml_X10_230 im_X10_emit se_X10_emit (tX10_emit (by omega)  hc49) (by omega) rfl rfl (Nat.le_of_ble_eq_true rfl) ⟨[], (List.append_nil _).symm⟩ ?_
    refine EV.weak (L2 := [none, none, none]) trivial ?_
    exact tX10_readFact_261 hd hrc0 hrc1 hrc2    hf

set_option maxHeartbeats 4000000 in
set_option maxRecDepth 20000 in
theorem tX10_readFact_222 {d N : Nat} {rc : Nat → pv_H → Option (pv_H)}   {v1 : Int} {h h' : pv_H}  (hd : 10 ≤ d) (hrc0 : ∀ {z1 z2 : pv_H}, rc 0 z1 = some z2 → CALL yX10_readTest cX10_readTest 1 none (d - 1) pv_SM (MM z1) [.inr (.inr 0)] pv_SM (MM z2) none) (hrc1 : ∀ {z1 z2 : pv_H}, rc 1 z1 = some z2 → CALL yX10_readPart cX10_readPart 1 none (d - 1) pv_SM (MM z1) [.inr (.inr 0)] pv_SM (MM z2) none) (hrc2 : ∀ {z1 z2 : pv_H}, rc 2 z1 = some z2 → CALL yX10_readFact cX10_readFact 3 none (d - 1) pv_SM (MM z1) [.inr (.inr 0)] pv_SM (MM z2) none)    (hf : fX10_readFact_222 N rc   v1 h = some h') : EV RX10 cX10_readFact 3 none false d pv_SM (MM h') none 222 [some (.inr (.inr (0))), some (.inl (v1)), none] [] pv_SM (MM h) := by
  unfold fX10_readFact_222 at hf
  refine EV.aload_n dX10_readFact_222 rfl rfl ?_
  refine EV.iconst dX10_readFact_223 (by decide) (by decide) ?_
  refine EV.bipush dX10_readFact_224 (by decide) (by decide) ?_
  obtain ⟨h46, r47, hc45, hf⟩ := pv_c2o hf
  refine EV.invV (As := [.inl (1), .inl (60)]) (st := []) (d1 := d - 1) (sh1 := pv_SM) (h1 := MM h46) (r1 := (some (.inl r47))) dX10_readFact_226 sm_0 (by decide) md_X10_reads ml_X10_197 im_X10_reads se_X10_reads (tX10_reads (by omega)  hc45) (by omega) rfl rfl (Nat.le_of_ble_eq_true rfl) ⟨[], (List.append_nil _).symm⟩ ?_
  refine EV.eqS (st2 := [.inl (r47)]) rfl ?_
  refine FV.sti (L2 := [some (.inr (.inr (0))), some (.inl (v1)), some (.inl (r47))]) dX10_readFact_229 rfl (Nat.le_of_ble_eq_true rfl) rfl rfl ?_
  refine EV.goto (tgt := 248) dX10_readFact_230 (by decide) ?_
  refine EV.weak (L2 := [some (.inr (.inr (0))), some (.inl (v1)), some (.inl (r47))]) (And.intro rfl (And.intro rfl (And.intro rfl trivial))) ?_
  exact tX10_readFact_248 hd hrc0 hrc1 hrc2    hf

set_option maxHeartbeats 4000000 in
set_option maxRecDepth 20000 in
theorem tX10_readFact_137 {d N : Nat} {rc : Nat → pv_H → Option (pv_H)}   {v1 : Int} {h h' : pv_H}  (hd : 10 ≤ d) (hrc0 : ∀ {z1 z2 : pv_H}, rc 0 z1 = some z2 → CALL yX10_readTest cX10_readTest 1 none (d - 1) pv_SM (MM z1) [.inr (.inr 0)] pv_SM (MM z2) none) (hrc1 : ∀ {z1 z2 : pv_H}, rc 1 z1 = some z2 → CALL yX10_readPart cX10_readPart 1 none (d - 1) pv_SM (MM z1) [.inr (.inr 0)] pv_SM (MM z2) none) (hrc2 : ∀ {z1 z2 : pv_H}, rc 2 z1 = some z2 → CALL yX10_readFact cX10_readFact 3 none (d - 1) pv_SM (MM z1) [.inr (.inr 0)] pv_SM (MM z2) none)    (hf : fX10_readFact_137 N rc   v1 h = some h') : EV RX10 cX10_readFact 3 none false d pv_SM (MM h') none 137 [some (.inr (.inr (0))), some (.inl (v1)), none] [] pv_SM (MM h) := by
  unfold fX10_readFact_137 at hf
  refine EV.aload_n dX10_readFact_137 rfl rfl ?_
  refine FV.getI dX10_readFact_138 sm_0 fl_10_175 rfl ?_
  refine EV.if_eq (tgt := 145) dX10_readFact_141 (by decide) (fun q13 => ?_) (fun q13 => ?_)
  · have hf := pv_gp hf q13
    refine EV.aload_n dX10_readFact_145 rfl rfl ?_
    obtain ⟨h15, hc14, hf⟩ := pv_c1o hf
    refine EV.invV (As := []) (st := []) (d1 := d - 1) (sh1 := pv_SM) (h1 := MM h15) (r1 := none) dX10_readFact_146 sm_0 (by decide) md_X10_next ml_X10_184 im_X10_next se_X10_next (tX10_next (by omega)  hc14) (by omega) rfl rfl (Nat.le_of_ble_eq_true rfl) ⟨[], (List.append_nil _).symm⟩ ?_
    refine EV.iconst dX10_readFact_149 (by decide) (by decide) ?_
    refine FV.sti (L2 := [some (.inr (.inr (0))), some (.inl (v1)), some (.inl (0))]) dX10_readFact_150 rfl (Nat.le_of_ble_eq_true rfl) rfl rfl ?_
    refine EV.iload_n dX10_readFact_151 rfl rfl ?_
    refine EV.bipush dX10_readFact_152 (by decide) (by decide) ?_
    refine EV.icmp_ne (tgt := 168) dX10_readFact_154 (by decide) (fun q16 => ?_) (fun q16 => ?_)
    · have hf := pv_gn hf q16
      refine EV.iload_n dX10_readFact_168 rfl rfl ?_
      refine EV.i2l dX10_readFact_169 ?_
      refine EV.ldc2 (n := 30) dX10_readFact_170 kl_X10_246 (by decide) (by decide) ?_
      refine EV.ldc2 (n := 32) dX10_readFact_173 kl_X10_248 (by decide) (by decide) ?_
      obtain ⟨r18, hc17, hf⟩ := pv_c1o hf
      refine EV.invS (As := [.inr (.inl (v1)), .inr (.inl (30)), .inr (.inl (32))]) (st := []) (d1 := d - 1) (sh1 := pv_SM) (h1 := MM h15) (r1 := (some (.inl r18))) dX10_readFact_176 md_X10_within ml_X10_193 st_X10_within (tX10_within (by omega)  hc17) (by omega) rfl rfl (Nat.le_of_ble_eq_true rfl) ⟨[], (List.append_nil _).symm⟩ ?_
      refine EV.eqS (st2 := [.inl (r18)]) rfl ?_
      refine EV.if_eq (tgt := 193) dX10_readFact_179 (by decide) (fun q19 => ?_) (fun q19 => ?_)
      · have hf := pv_gp hf q19
        refine EV.iload_n dX10_readFact_193 rfl rfl ?_
        refine EV.bipush dX10_readFact_194 (by decide) (by decide) ?_
        refine EV.icmp_ne (tgt := 210) dX10_readFact_196 (by decide) (fun q20 => ?_) (fun q20 => ?_)
        · have hf := pv_gn hf q20
          refine EV.iload_n dX10_readFact_210 rfl rfl ?_
          refine EV.bipush dX10_readFact_211 (by decide) (by decide) ?_
          refine EV.icmp_eq (tgt := 222) dX10_readFact_213 (by decide) (fun q21 => ?_) (fun q21 => ?_)
          · have hf := pv_gp hf q21
            refine EV.weak (L2 := [some (.inr (.inr (0))), some (.inl (v1)), none]) (And.intro rfl (And.intro rfl trivial)) ?_
            exact tX10_readFact_222 hd hrc0 hrc1 hrc2    hf
          · have hf := pv_gn hf q21
            refine EV.iload_n dX10_readFact_216 rfl rfl ?_
            refine EV.bipush dX10_readFact_217 (by decide) (by decide) ?_
            refine EV.icmp_ne (tgt := 233) dX10_readFact_219 (by decide) (fun q22 => ?_) (fun q22 => ?_)
            · have hf := pv_gn hf q22
              refine EV.iload_n dX10_readFact_233 rfl rfl ?_
              refine EV.bipush dX10_readFact_234 (by decide) (by decide) ?_
              refine EV.icmp_ne (tgt := 248) dX10_readFact_236 (by decide) (fun q23 => ?_) (fun q23 => ?_)
              · have hf := pv_gn hf q23
                refine EV.weak (L2 := [some (.inr (.inr (0))), some (.inl (v1)), some (.inl (0))]) (And.intro rfl (And.intro rfl (And.intro rfl trivial))) ?_
                exact tX10_readFact_248 hd hrc0 hrc1 hrc2    hf
              · have hf := pv_gp hf q23
                refine EV.aload_n dX10_readFact_239 rfl rfl ?_
                refine EV.iconst dX10_readFact_240 (by decide) (by decide) ?_
                refine EV.sipush dX10_readFact_241 (by decide) (by decide) ?_
                obtain ⟨h25, r26, hc24, hf⟩ := pv_c2o hf
                refine EV.invV (As := [.inl (0), .inl (999)]) (st := []) (d1 := d - 1) (sh1 := pv_SM) (h1 := MM h25) (r1 := (some (.inl r26))) dX10_readFact_244 sm_0 (by decide) md_X10_reads ml_X10_197 im_X10_reads se_X10_reads (tX10_reads (by omega)  hc24) (by omega) rfl rfl (Nat.le_of_ble_eq_true rfl) ⟨[], (List.append_nil _).symm⟩ ?_
                refine EV.eqS (st2 := [.inl (r26)]) rfl ?_
                refine FV.sti (L2 := [some (.inr (.inr (0))), some (.inl (v1)), some (.inl (r26))]) dX10_readFact_247 rfl (Nat.le_of_ble_eq_true rfl) rfl rfl ?_
                refine EV.weak (L2 := [some (.inr (.inr (0))), some (.inl (v1)), some (.inl (r26))]) (And.intro rfl (And.intro rfl (And.intro rfl trivial))) ?_
                exact tX10_readFact_248 hd hrc0 hrc1 hrc2    hf
            · have hf := pv_gp hf q22
              refine EV.weak (L2 := [some (.inr (.inr (0))), some (.inl (v1)), none]) (And.intro rfl (And.intro rfl trivial)) ?_
              exact tX10_readFact_222 hd hrc0 hrc1 hrc2    hf
        · have hf := pv_gp hf q20
          refine EV.aload_n dX10_readFact_199 rfl rfl ?_
          refine EV.iconst dX10_readFact_200 (by decide) (by decide) ?_
          refine EV.bipush dX10_readFact_201 (by decide) (by decide) ?_
          obtain ⟨h28, r29, hc27, hf⟩ := pv_c2o hf
          refine EV.invV (As := [.inl (0), .inl (59)]) (st := []) (d1 := d - 1) (sh1 := pv_SM) (h1 := MM h28) (r1 := (some (.inl r29))) dX10_readFact_203 sm_0 (by decide) md_X10_reads ml_X10_197 im_X10_reads se_X10_reads (tX10_reads (by omega)  hc27) (by omega) rfl rfl (Nat.le_of_ble_eq_true rfl) ⟨[], (List.append_nil _).symm⟩ ?_
          refine EV.eqS (st2 := [.inl (r29)]) rfl ?_
          refine FV.sti (L2 := [some (.inr (.inr (0))), some (.inl (v1)), some (.inl (r29))]) dX10_readFact_206 rfl (Nat.le_of_ble_eq_true rfl) rfl rfl ?_
          refine EV.goto (tgt := 248) dX10_readFact_207 (by decide) ?_
          refine EV.weak (L2 := [some (.inr (.inr (0))), some (.inl (v1)), some (.inl (r29))]) (And.intro rfl (And.intro rfl (And.intro rfl trivial))) ?_
          exact tX10_readFact_248 hd hrc0 hrc1 hrc2    hf
      · have hf := pv_gn hf q19
        refine EV.aload_n dX10_readFact_182 rfl rfl ?_
        refine EV.iconst dX10_readFact_183 (by decide) (by decide) ?_
        refine EV.bipush dX10_readFact_184 (by decide) (by decide) ?_
        obtain ⟨h31, r32, hc30, hf⟩ := pv_c2o hf
        refine EV.invV (As := [.inl (0), .inl (99)]) (st := []) (d1 := d - 1) (sh1 := pv_SM) (h1 := MM h31) (r1 := (some (.inl r32))) dX10_readFact_186 sm_0 (by decide) md_X10_reads ml_X10_197 im_X10_reads se_X10_reads (tX10_reads (by omega)  hc30) (by omega) rfl rfl (Nat.le_of_ble_eq_true rfl) ⟨[], (List.append_nil _).symm⟩ ?_
        refine EV.eqS (st2 := [.inl (r32)]) rfl ?_
        refine FV.sti (L2 := [some (.inr (.inr (0))), some (.inl (v1)), some (.inl (r32))]) dX10_readFact_189 rfl (Nat.le_of_ble_eq_true rfl) rfl rfl ?_
        refine EV.goto (tgt := 248) dX10_readFact_190 (by decide) ?_
        refine EV.weak (L2 := [some (.inr (.inr (0))), some (.inl (v1)), some (.inl (r32))]) (And.intro rfl (And.intro rfl (And.intro rfl trivial))) ?_
        exact tX10_readFact_248 hd hrc0 hrc1 hrc2    hf
    · have hf := pv_gp hf q16
      refine EV.aload_n dX10_readFact_157 rfl rfl ?_
      refine EV.iconst dX10_readFact_158 (by decide) (by decide) ?_
      refine EV.bipush dX10_readFact_159 (by decide) (by decide) ?_
      obtain ⟨h34, r35, hc33, hf⟩ := pv_c2o hf
      refine EV.invV (As := [.inl (1), .inl (61)]) (st := []) (d1 := d - 1) (sh1 := pv_SM) (h1 := MM h34) (r1 := (some (.inl r35))) dX10_readFact_161 sm_0 (by decide) md_X10_reads ml_X10_197 im_X10_reads se_X10_reads (tX10_reads (by omega)  hc33) (by omega) rfl rfl (Nat.le_of_ble_eq_true rfl) ⟨[], (List.append_nil _).symm⟩ ?_
      refine EV.eqS (st2 := [.inl (r35)]) rfl ?_
      refine FV.sti (L2 := [some (.inr (.inr (0))), some (.inl (v1)), some (.inl (r35))]) dX10_readFact_164 rfl (Nat.le_of_ble_eq_true rfl) rfl rfl ?_
      refine EV.goto (tgt := 248) dX10_readFact_165 (by decide) ?_
      refine EV.weak (L2 := [some (.inr (.inr (0))), some (.inl (v1)), some (.inl (r35))]) (And.intro rfl (And.intro rfl (And.intro rfl trivial))) ?_
      exact tX10_readFact_248 hd hrc0 hrc1 hrc2    hf
  · have hf := pv_gn hf q13
    exact FV.vret dX10_readFact_144 hf

set_option maxHeartbeats 4000000 in
set_option maxRecDepth 20000 in
theorem tX10_readFact {d N : Nat} {rc : Nat → pv_H → Option (pv_H)}  {h h' : pv_H}  (hd : 10 ≤ d) (hrc0 : ∀ {z1 z2 : pv_H}, rc 0 z1 = some z2 → CALL yX10_readTest cX10_readTest 1 none (d - 1) pv_SM (MM z1) [.inr (.inr 0)] pv_SM (MM z2) none) (hrc1 : ∀ {z1 z2 : pv_H}, rc 1 z1 = some z2 → CALL yX10_readPart cX10_readPart 1 none (d - 1) pv_SM (MM z1) [.inr (.inr 0)] pv_SM (MM z2) none) (hrc2 : ∀ {z1 z2 : pv_H}, rc 2 z1 = some z2 → CALL yX10_readFact cX10_readFact 3 none (d - 1) pv_SM (MM z1) [.inr (.inr 0)] pv_SM (MM z2) none)  (hf : fX10_readFact N rc  h = some h') : CALL yX10_readFact cX10_readFact 3 none d pv_SM (MM h) [.inr (.inr (0))] pv_SM (MM h') none := by
  unfold fX10_readFact at hf
  refine EV.call (own := RX10) (ini := false) rfl rfl (fun q => by cases q) ⟨[], (List.append_nil _).symm⟩ (Nat.le_of_ble_eq_true rfl) ?_
  refine EV.eqL (L2 := [some (.inr (.inr (0))), none, none]) rfl ?_
  refine EV.aload_n dX10_readFact_0 rfl rfl ?_
  refine FV.getI dX10_readFact_1 sm_0 fl_10_175 rfl ?_
  refine EV.if_eq (tgt := 8) dX10_readFact_4 (by decide) (fun q1 => ?_) (fun q1 => ?_)
  · have hf := pv_gp hf q1
    refine EV.aload_n dX10_readFact_8 rfl rfl ?_
    refine FV.getI dX10_readFact_9 sm_0 fl_10_159 rfl ?_
    obtain ⟨x2, ex2, hf⟩ := pv_bo hf
    refine FV.sti (L2 := [some (.inr (.inr (0))), some (.inl (x2)), none]) dX10_readFact_12 rfl (Nat.le_of_ble_eq_true rfl) ex2 rfl ?_
    refine EV.iload_n dX10_readFact_13 rfl rfl ?_
    refine EV.bipush dX10_readFact_14 (by decide) (by decide) ?_
    refine EV.icmp_eq (tgt := 25) dX10_readFact_16 (by decide) (fun q3 => ?_) (fun q3 => ?_)
    · have hf := pv_gp hf q3
      refine EV.weak (L2 := [some (.inr (.inr (0))), some (.inl (x2)), none]) (And.intro rfl (And.intro rfl trivial)) ?_
      exact tX10_readFact_25 hd hrc0 hrc1 hrc2    hf
    · have hf := pv_gn hf q3
      refine EV.iload_n dX10_readFact_19 rfl rfl ?_
      refine EV.bipush dX10_readFact_20 (by decide) (by decide) ?_
      refine EV.icmp_ne (tgt := 118) dX10_readFact_22 (by decide) (fun q4 => ?_) (fun q4 => ?_)
      · have hf := pv_gn hf q4
        refine EV.iload_n dX10_readFact_118 rfl rfl ?_
        refine EV.i2l dX10_readFact_119 ?_
        refine EV.ldc2 (n := 27) dX10_readFact_120 kl_X10_242 (by decide) (by decide) ?_
        refine EV.ldc2 (n := 36) dX10_readFact_123 kl_X10_244 (by decide) (by decide) ?_
        obtain ⟨r6, hc5, hf⟩ := pv_c1o hf
        refine EV.invS (As := [.inr (.inl (x2)), .inr (.inl (27)), .inr (.inl (36))]) (st := []) (d1 := d - 1) (sh1 := pv_SM) (h1 := MM h) (r1 := (some (.inl r6))) dX10_readFact_126 md_X10_within ml_X10_193 st_X10_within (tX10_within (by omega)  hc5) (by omega) rfl rfl (Nat.le_of_ble_eq_true rfl) ⟨[], (List.append_nil _).symm⟩ ?_
        refine EV.eqS (st2 := [.inl (r6)]) rfl ?_
        refine EV.if_ne (tgt := 137) dX10_readFact_129 (by decide) (fun q7 => ?_) (fun q7 => ?_)
        · have hf := pv_gn hf q7
          refine EV.weak (L2 := [some (.inr (.inr (0))), some (.inl (x2)), none]) (And.intro rfl (And.intro rfl trivial)) ?_
          exact tX10_readFact_137 hd hrc0 hrc1 hrc2    hf
        · have hf := pv_gp hf q7
          refine EV.aload_n dX10_readFact_132 rfl rfl ?_
          refine EV.iconst dX10_readFact_133 (by decide) (by decide) ?_
          obtain ⟨h9, hc8, hf⟩ := pv_c1o hf
          refine EV.invV (As := [.inl (2)]) (st := []) (d1 := d - 1) (sh1 := pv_SM) (h1 := MM h9) (r1 := none) dX10_readFact_134 sm_0 (by decide) md_X10_fails ml_X10_190 im_X10_fails se_X10_fails (tX10_fails (by omega)  hc8) (by omega) rfl rfl (Nat.le_of_ble_eq_true rfl) ⟨[], (List.append_nil _).symm⟩ ?_
          refine EV.weak (L2 := [some (.inr (.inr (0))), some (.inl (x2)), none]) (And.intro rfl (And.intro rfl trivial)) ?_
          exact tX10_readFact_137 hd hrc0 hrc1 hrc2    hf
      · have hf := pv_gp hf q4
        refine EV.weak (L2 := [some (.inr (.inr (0))), some (.inl (x2)), none]) (And.intro rfl (And.intro rfl trivial)) ?_
        exact tX10_readFact_25 hd hrc0 hrc1 hrc2    hf
  · have hf := pv_gn hf q1
    exact FV.vret dX10_readFact_7 hf

noncomputable def fX10_fault_29 (N : Nat)  (a1 : Int) (s0 : Int) (h : pv_H) : Option (pv_H × Int) :=
  some (h, s0)

noncomputable def fX10_fault (N : Nat) (a1 : Int) (h : pv_H) : Option (pv_H × Int) :=
  pv_b (pv_up h 0 0 0) fun h1 => if a1 = 0 then (fX10_fault_29 N  a1 (h1 0 15) h1) else (if a1 = 1 then (fX10_fault_29 N  a1 (h1 0 16) h1) else (fX10_fault_29 N  a1 (-1) h1))

set_option maxHeartbeats 4000000 in
set_option maxRecDepth 20000 in
theorem tX10_fault_29 {d N : Nat}  {a1 : Int} {s0 : Int} {h h' : pv_H} {r : Int} (hd : 1 ≤ d)    (hf : fX10_fault_29 N  a1 s0 h = some (h', r)) : EV RX10 cX10_fault 2 (some .int) false d pv_SM (MM h') (some (.inl r)) 29 [none, none] [.inl (s0)] pv_SM (MM h) := by
  unfold fX10_fault_29 at hf
  exact FV.iret dX10_fault_29 hf

set_option maxHeartbeats 4000000 in
set_option maxRecDepth 20000 in
theorem tX10_fault {d N : Nat} {a1 : Int} {h h' : pv_H} {r : Int} (hd : 1 ≤ d)  (hf : fX10_fault N a1 h = some (h', r)) : CALL yX10_fault cX10_fault 2 (some .int) d pv_SM (MM h) [.inr (.inr (0)), .inl (a1)] pv_SM (MM h') (some (.inl r)) := by
  unfold fX10_fault at hf
  refine EV.call (own := RX10) (ini := false) rfl rfl (fun q => by cases q) ⟨[], (List.append_nil _).symm⟩ (Nat.le_of_ble_eq_true rfl) ?_
  refine EV.eqL (L2 := [some (.inr (.inr (0))), some (.inl (a1))]) rfl ?_
  refine EV.aload_n dX10_fault_0 rfl rfl ?_
  refine EV.iconst dX10_fault_1 (by decide) (by decide) ?_
  obtain ⟨h1, eh1, hf⟩ := pv_bo hf
  refine FV.putI dX10_fault_2 sm_0 fl_10_1 rfl rfl eh1 ?_
  refine EV.iload_n dX10_fault_5 rfl rfl ?_
  refine EV.if_ne (tgt := 16) dX10_fault_6 (by decide) (fun q2 => ?_) (fun q2 => ?_)
  · have hf := pv_gn hf q2
    refine EV.iload_n dX10_fault_16 rfl rfl ?_
    refine EV.iconst dX10_fault_17 (by decide) (by decide) ?_
    refine EV.icmp_ne (tgt := 28) dX10_fault_18 (by decide) (fun q3 => ?_) (fun q3 => ?_)
    · have hf := pv_gn hf q3
      refine EV.iconst dX10_fault_28 (by decide) (by decide) ?_
      refine EV.weak (L2 := [none, none]) trivial ?_
      exact tX10_fault_29 hd    hf
    · have hf := pv_gp hf q3
      refine EV.aload_n dX10_fault_21 rfl rfl ?_
      refine FV.getI dX10_fault_22 sm_0 fl_10_30 rfl ?_
      refine EV.goto (tgt := 29) dX10_fault_25 (by decide) ?_
      refine EV.weak (L2 := [none, none]) trivial ?_
      exact tX10_fault_29 hd    hf
  · have hf := pv_gp hf q2
    refine EV.aload_n dX10_fault_9 rfl rfl ?_
    refine FV.getI dX10_fault_10 sm_0 fl_10_264 rfl ?_
    refine EV.goto (tgt := 29) dX10_fault_13 (by decide) ?_
    refine EV.weak (L2 := [none, none]) trivial ?_
    exact tX10_fault_29 hd    hf

noncomputable def fX10_isRod_32 (N : Nat)  (a1 : Int) (s0 : Int) (h : pv_H) : Option (Int) :=
  if s0 = 0 ∨ s0 = 1 then (some (s0)) else none

noncomputable def fX10_isRod_31 (N : Nat)  (a1 : Int)  (h : pv_H) : Option (Int) :=
  fX10_isRod_32 N  a1 (0) h

noncomputable def fX10_isRod (N : Nat) (a1 : Int) (h : pv_H) : Option (Int) :=
  pv_c1 (fX10_within N a1 0 3 h) fun r2 => if r2 = 0 then (fX10_isRod_31 N  a1  h) else (if 0 ≤ pv_w ((pv_w (242 * a1)) + 0) ∧ pv_w ((pv_w (242 * a1)) + 0) < 9159 then (if (h 2 (Int.toNat (pv_w ((pv_w (242 * a1)) + 0)))) ≤ 0 then (fX10_isRod_31 N  a1  h) else (fX10_isRod_32 N  a1 (1) h)) else none)

set_option maxHeartbeats 4000000 in
set_option maxRecDepth 20000 in
theorem tX10_isRod_32 {d N : Nat}  {a1 : Int} {s0 : Int} {h : pv_H} {r : Int} (hd : 2 ≤ d)    (hf : fX10_isRod_32 N  a1 s0 h = some r) : EV RX10 cX10_isRod 2 (some .boolean) false d pv_SM (MM h) (some (.inl r)) 32 [none, none] [.inl (s0)] pv_SM (MM h) := by
  unfold fX10_isRod_32 at hf
  obtain ⟨g6, hf⟩ := pv_gd hf
  exact FV.zretp dX10_isRod_32 g6 hf

set_option maxHeartbeats 4000000 in
set_option maxRecDepth 20000 in
theorem tX10_isRod_31 {d N : Nat}  {a1 : Int}  {h : pv_H} {r : Int} (hd : 2 ≤ d)    (hf : fX10_isRod_31 N  a1  h = some r) : EV RX10 cX10_isRod 2 (some .boolean) false d pv_SM (MM h) (some (.inl r)) 31 [none, none] [] pv_SM (MM h) := by
  unfold fX10_isRod_31 at hf
  refine EV.iconst dX10_isRod_31 (by decide) (by decide) ?_
  refine EV.weak (L2 := [none, none]) trivial ?_
  exact tX10_isRod_32 hd    hf

set_option maxHeartbeats 4000000 in
set_option maxRecDepth 20000 in
theorem tX10_isRod {d N : Nat} {a1 : Int} {h : pv_H} {r : Int} (hd : 2 ≤ d)  (hf : fX10_isRod N a1 h = some r) : CALL yX10_isRod cX10_isRod 2 (some .boolean) d pv_SM (MM h) [.inr (.inr (0)), .inl (a1)] pv_SM (MM h) (some (.inl r)) := by
  unfold fX10_isRod at hf
  refine EV.call (own := RX10) (ini := false) rfl rfl (fun q => by cases q) ⟨[], (List.append_nil _).symm⟩ (Nat.le_of_ble_eq_true rfl) ?_
  refine EV.eqL (L2 := [some (.inr (.inr (0))), some (.inl (a1))]) rfl ?_
  refine EV.iload_n dX10_isRod_0 rfl rfl ?_
  refine EV.i2l dX10_isRod_1 ?_
  refine EV.lconst (x := 0) dX10_isRod_2 (by decide) (by decide) (by decide) ?_
  refine EV.ldc2 (n := 3) dX10_isRod_3 kl_X10_250 (by decide) (by decide) ?_
  obtain ⟨r2, hc1, hf⟩ := pv_c1o hf
  refine EV.invS (As := [.inr (.inl (a1)), .inr (.inl (0)), .inr (.inl (3))]) (st := []) (d1 := d - 1) (sh1 := pv_SM) (h1 := MM h) (r1 := (some (.inl r2))) dX10_isRod_6 md_X10_within ml_X10_193 st_X10_within (tX10_within (by omega)  hc1) (by omega) rfl rfl (Nat.le_of_ble_eq_true rfl) ⟨[], (List.append_nil _).symm⟩ ?_
  refine EV.eqS (st2 := [.inl (r2)]) rfl ?_
  refine EV.if_eq (tgt := 31) dX10_isRod_9 (by decide) (fun q3 => ?_) (fun q3 => ?_)
  · have hf := pv_gp hf q3
    refine EV.weak (L2 := [none, none]) trivial ?_
    exact tX10_isRod_31 hd    hf
  · have hf := pv_gn hf q3
    refine EV.aload_n dX10_isRod_12 rfl rfl ?_
    refine FV.getF (v := 2) dX10_isRod_13 sm_0 fl_10_17 rfl rfl hvm_0_2 ?_
    refine EV.sipush dX10_isRod_16 (by decide) (by decide) ?_
    refine EV.iload_n dX10_isRod_19 rfl rfl ?_
    refine EV.imul dX10_isRod_20 ?_
    refine EV.iconst dX10_isRod_21 (by decide) (by decide) ?_
    refine EV.iadd dX10_isRod_22 ?_
    obtain ⟨g4, hf⟩ := pv_gd hf
    refine FV.iald dX10_isRod_23 sm_2 g4.1 g4.2 (j := (Int.toNat (pv_w ((pv_w (242 * a1)) + 0)))) rfl ?_
    refine EV.if_le (tgt := 31) dX10_isRod_24 (by decide) (fun q5 => ?_) (fun q5 => ?_)
    · have hf := pv_gp hf q5
      refine EV.weak (L2 := [none, none]) trivial ?_
      exact tX10_isRod_31 hd    hf
    · have hf := pv_gn hf q5
      refine EV.iconst dX10_isRod_27 (by decide) (by decide) ?_
      refine EV.goto (tgt := 32) dX10_isRod_28 (by decide) ?_
      refine EV.weak (L2 := [none, none]) trivial ?_
      exact tX10_isRod_32 hd    hf

noncomputable def fX10_shapes_2 (N : Nat)   : Nat → Int → pv_H → Option (pv_H)
  | 0, _, _ => none
  | n + 1, v1, h => if (h 0 19) ≤ v1 then (some h) else (if ¬ (pv_w ((pv_w ((h 0 19) + 1)) * (pv_w ((h 0 19) + 1)))) = 0 then (if 0 ≤ v1 ∧ v1 < 60 then (pv_b (pv_up h 10 (Int.toNat (v1)) (pv_w (Int.tdiv (pv_w ((pv_w ((pv_w (v1 + 1)) * (pv_w ((h 0 19) - v1)))) * 400)) (pv_w ((pv_w ((h 0 19) + 1)) * (pv_w ((h 0 19) + 1))))))) fun h4 => pv_b (pv_w (v1 + 1)) fun x5 => fX10_shapes_2 N   n (x5) h4) else none) else none)

noncomputable def fX10_shapes (N : Nat)  (h : pv_H) : Option (pv_H) :=
  fX10_shapes_2 N   N (0) h

set_option maxHeartbeats 4000000 in
set_option maxRecDepth 20000 in
theorem tX10_shapes_2 {d N : Nat}   {h' : pv_H}  (hd : 1 ≤ d)   : ∀ (n : Nat) (v1 : Int)  (h : pv_H), fX10_shapes_2 N   n v1 h = some h' → EV RX10 cX10_shapes 2 none false d pv_SM (MM h') none 2 [some (.inr (.inr (0))), some (.inl (v1))] [] pv_SM (MM h) := by
  intro n
  induction n with
  | zero =>
    intro v1  h hf
    cases hf
  | succ n ih =>
    intro v1  h hf
    rw [fX10_shapes_2] at hf
    refine EV.iload_n dX10_shapes_2 rfl rfl ?_
    refine EV.aload_n dX10_shapes_3 rfl rfl ?_
    refine FV.getI dX10_shapes_4 sm_0 fl_10_267 rfl ?_
    refine EV.icmp_ge (tgt := 50) dX10_shapes_7 (by decide) (fun q1 => ?_) (fun q1 => ?_)
    · have hf := pv_gp hf q1
      exact FV.vret dX10_shapes_50 hf
    · have hf := pv_gn hf q1
      refine EV.aload_n dX10_shapes_10 rfl rfl ?_
      refine FV.getF (v := 10) dX10_shapes_11 sm_0 fl_10_45 rfl rfl hvm_0_25 ?_
      refine EV.iload_n dX10_shapes_14 rfl rfl ?_
      refine EV.iload_n dX10_shapes_15 rfl rfl ?_
      refine EV.iconst dX10_shapes_16 (by decide) (by decide) ?_
      refine EV.iadd dX10_shapes_17 ?_
      refine EV.aload_n dX10_shapes_18 rfl rfl ?_
      refine FV.getI dX10_shapes_19 sm_0 fl_10_267 rfl ?_
      refine EV.iload_n dX10_shapes_22 rfl rfl ?_
      refine EV.isub dX10_shapes_23 ?_
      refine EV.imul dX10_shapes_24 ?_
      refine EV.sipush dX10_shapes_25 (by decide) (by decide) ?_
      refine EV.imul dX10_shapes_28 ?_
      refine EV.aload_n dX10_shapes_29 rfl rfl ?_
      refine FV.getI dX10_shapes_30 sm_0 fl_10_267 rfl ?_
      refine EV.iconst dX10_shapes_33 (by decide) (by decide) ?_
      refine EV.iadd dX10_shapes_34 ?_
      refine EV.aload_n dX10_shapes_35 rfl rfl ?_
      refine FV.getI dX10_shapes_36 sm_0 fl_10_267 rfl ?_
      refine EV.iconst dX10_shapes_39 (by decide) (by decide) ?_
      refine EV.iadd dX10_shapes_40 ?_
      refine EV.imul dX10_shapes_41 ?_
      obtain ⟨g2, hf⟩ := pv_gd hf
      refine EV.idiv dX10_shapes_42 g2 ?_
      obtain ⟨g3, hf⟩ := pv_gd hf
      obtain ⟨h4, eh4, hf⟩ := pv_bo hf
      refine FV.iast dX10_shapes_43 sm_10 g3.1 g3.2 (j := (Int.toNat (v1))) rfl eh4 ?_
      obtain ⟨x5, ex5, hf⟩ := pv_bo hf
      refine FV.inc (L2 := [some (.inr (.inr (0))), some (.inl (x5))]) dX10_shapes_44 rfl (Nat.le_of_ble_eq_true rfl) ex5 rfl ?_
      refine EV.goto (tgt := 2) dX10_shapes_47 (by decide) ?_
      refine EV.weak (L2 := [some (.inr (.inr (0))), some (.inl (x5))]) (And.intro rfl (And.intro rfl trivial)) ?_
      exact ih _  _ hf

set_option maxHeartbeats 4000000 in
set_option maxRecDepth 20000 in
theorem tX10_shapes {d N : Nat}  {h h' : pv_H}  (hd : 1 ≤ d)  (hf : fX10_shapes N  h = some h') : CALL yX10_shapes cX10_shapes 2 none d pv_SM (MM h) [.inr (.inr (0))] pv_SM (MM h') none := by
  unfold fX10_shapes at hf
  refine EV.call (own := RX10) (ini := false) rfl rfl (fun q => by cases q) ⟨[], (List.append_nil _).symm⟩ (Nat.le_of_ble_eq_true rfl) ?_
  refine EV.eqL (L2 := [some (.inr (.inr (0))), none]) rfl ?_
  refine EV.iconst dX10_shapes_0 (by decide) (by decide) ?_
  refine FV.sti (L2 := [some (.inr (.inr (0))), some (.inl (0))]) dX10_shapes_1 rfl (Nat.le_of_ble_eq_true rfl) rfl rfl ?_
  refine EV.weak (L2 := [some (.inr (.inr (0))), some (.inl (0))]) (And.intro rfl (And.intro rfl trivial)) ?_
  exact tX10_shapes_2 hd   _ _  _ hf

noncomputable def fX10_takes_32 (N : Nat)  (a1 : Int) : Nat → Int → Int → pv_H → Option (pv_H)
  | 0, _, _, _ => none
  | n + 1, v2, v3, h => if (h 0 19) ≤ v3 then (pv_c1 (fX10_shapes N  h) fun h8 => some h8) else (if 0 ≤ pv_w ((pv_w (v2 + 2)) + v3) ∧ pv_w ((pv_w (v2 + 2)) + v3) < 9159 then (if 0 ≤ v3 ∧ v3 < 60 then (pv_b (pv_up h 6 (Int.toNat (v3)) (h 2 (Int.toNat (pv_w ((pv_w (v2 + 2)) + v3))))) fun h11 => if 0 ≤ pv_w ((pv_w (v2 + 62)) + v3) ∧ pv_w ((pv_w (v2 + 62)) + v3) < 9159 then (if 0 ≤ v3 ∧ v3 < 60 then (pv_b (pv_up h11 7 (Int.toNat (v3)) (h11 2 (Int.toNat (pv_w ((pv_w (v2 + 62)) + v3))))) fun h14 => if 0 ≤ pv_w ((pv_w (v2 + 122)) + v3) ∧ pv_w ((pv_w (v2 + 122)) + v3) < 9159 then (if 0 ≤ v3 ∧ v3 < 60 then (pv_b (pv_up h14 8 (Int.toNat (v3)) (h14 2 (Int.toNat (pv_w ((pv_w (v2 + 122)) + v3))))) fun h17 => if 0 ≤ pv_w ((pv_w (v2 + 182)) + v3) ∧ pv_w ((pv_w (v2 + 182)) + v3) < 9159 then (if 0 ≤ v3 ∧ v3 < 60 then (pv_b (pv_up h17 9 (Int.toNat (v3)) (h17 2 (Int.toNat (pv_w ((pv_w (v2 + 182)) + v3))))) fun h20 => pv_b (pv_w (v3 + 1)) fun x21 => fX10_takes_32 N  a1 n (v2) (x21) h20) else none) else none) else none) else none) else none) else none) else none) else none)

noncomputable def fX10_takes (N : Nat) (a1 : Int) (h : pv_H) : Option (pv_H) :=
  pv_b (pv_w (242 * a1)) fun x1 => if 0 ≤ pv_w (x1 + 0) ∧ pv_w (x1 + 0) < 9159 then (pv_b (pv_up h 0 19 (h 2 (Int.toNat (pv_w (x1 + 0))))) fun h3 => if 0 ≤ pv_w (x1 + 1) ∧ pv_w (x1 + 1) < 9159 then (pv_b (pv_up h3 0 20 (h3 2 (Int.toNat (pv_w (x1 + 1))))) fun h5 => fX10_takes_32 N  a1 N (x1) (0) h5) else none) else none

set_option maxHeartbeats 4000000 in
set_option maxRecDepth 20000 in
theorem tX10_takes_32 {d N : Nat}  {a1 : Int} {h' : pv_H}  (hd : 2 ≤ d)   : ∀ (n : Nat) (v2 : Int) (v3 : Int)  (h : pv_H), fX10_takes_32 N  a1 n v2 v3 h = some h' → EV RX10 cX10_takes 4 none false d pv_SM (MM h') none 32 [some (.inr (.inr (0))), none, some (.inl (v2)), some (.inl (v3))] [] pv_SM (MM h) := by
  intro n
  induction n with
  | zero =>
    intro v2 v3  h hf
    cases hf
  | succ n ih =>
    intro v2 v3  h hf
    rw [fX10_takes_32] at hf
    refine EV.iload_n dX10_takes_32 rfl rfl ?_
    refine EV.aload_n dX10_takes_33 rfl rfl ?_
    refine FV.getI dX10_takes_34 sm_0 fl_10_267 rfl ?_
    refine EV.icmp_ge (tgt := 114) dX10_takes_37 (by decide) (fun q6 => ?_) (fun q6 => ?_)
    · have hf := pv_gp hf q6
      refine EV.aload_n dX10_takes_114 rfl rfl ?_
      obtain ⟨h8, hc7, hf⟩ := pv_c1o hf
      refine EV.invV (As := []) (st := []) (d1 := d - 1) (sh1 := pv_SM) (h1 := MM h8) (r1 := none) dX10_takes_115 sm_0 (by decide) md_X10_shapes ml_X10_273 im_X10_shapes se_X10_shapes (tX10_shapes (by omega)  hc7) (by omega) rfl rfl (Nat.le_of_ble_eq_true rfl) ⟨[], (List.append_nil _).symm⟩ ?_
      exact FV.vret dX10_takes_118 hf
    · have hf := pv_gn hf q6
      refine EV.aload_n dX10_takes_40 rfl rfl ?_
      refine FV.getF (v := 6) dX10_takes_41 sm_0 fl_10_33 rfl rfl hvm_0_21 ?_
      refine EV.iload_n dX10_takes_44 rfl rfl ?_
      refine EV.aload_n dX10_takes_45 rfl rfl ?_
      refine FV.getF (v := 2) dX10_takes_46 sm_0 fl_10_17 rfl rfl hvm_0_2 ?_
      refine EV.iload_n dX10_takes_49 rfl rfl ?_
      refine EV.iconst dX10_takes_50 (by decide) (by decide) ?_
      refine EV.iadd dX10_takes_51 ?_
      refine EV.iload_n dX10_takes_52 rfl rfl ?_
      refine EV.iadd dX10_takes_53 ?_
      obtain ⟨g9, hf⟩ := pv_gd hf
      refine FV.iald dX10_takes_54 sm_2 g9.1 g9.2 (j := (Int.toNat (pv_w ((pv_w (v2 + 2)) + v3)))) rfl ?_
      obtain ⟨g10, hf⟩ := pv_gd hf
      obtain ⟨h11, eh11, hf⟩ := pv_bo hf
      refine FV.iast dX10_takes_55 sm_6 g10.1 g10.2 (j := (Int.toNat (v3))) rfl eh11 ?_
      refine EV.aload_n dX10_takes_56 rfl rfl ?_
      refine FV.getF (v := 7) dX10_takes_57 sm_0 fl_10_36 rfl rfl hvm_0_22 ?_
      refine EV.iload_n dX10_takes_60 rfl rfl ?_
      refine EV.aload_n dX10_takes_61 rfl rfl ?_
      refine FV.getF (v := 2) dX10_takes_62 sm_0 fl_10_17 rfl rfl hvm_0_2 ?_
      refine EV.iload_n dX10_takes_65 rfl rfl ?_
      refine EV.bipush dX10_takes_66 (by decide) (by decide) ?_
      refine EV.iadd dX10_takes_68 ?_
      refine EV.iload_n dX10_takes_69 rfl rfl ?_
      refine EV.iadd dX10_takes_70 ?_
      obtain ⟨g12, hf⟩ := pv_gd hf
      refine FV.iald dX10_takes_71 sm_2 g12.1 g12.2 (j := (Int.toNat (pv_w ((pv_w (v2 + 62)) + v3)))) rfl ?_
      obtain ⟨g13, hf⟩ := pv_gd hf
      obtain ⟨h14, eh14, hf⟩ := pv_bo hf
      refine FV.iast dX10_takes_72 sm_7 g13.1 g13.2 (j := (Int.toNat (v3))) rfl eh14 ?_
      refine EV.aload_n dX10_takes_73 rfl rfl ?_
      refine FV.getF (v := 8) dX10_takes_74 sm_0 fl_10_39 rfl rfl hvm_0_23 ?_
      refine EV.iload_n dX10_takes_77 rfl rfl ?_
      refine EV.aload_n dX10_takes_78 rfl rfl ?_
      refine FV.getF (v := 2) dX10_takes_79 sm_0 fl_10_17 rfl rfl hvm_0_2 ?_
      refine EV.iload_n dX10_takes_82 rfl rfl ?_
      refine EV.bipush dX10_takes_83 (by decide) (by decide) ?_
      refine EV.iadd dX10_takes_85 ?_
      refine EV.iload_n dX10_takes_86 rfl rfl ?_
      refine EV.iadd dX10_takes_87 ?_
      obtain ⟨g15, hf⟩ := pv_gd hf
      refine FV.iald dX10_takes_88 sm_2 g15.1 g15.2 (j := (Int.toNat (pv_w ((pv_w (v2 + 122)) + v3)))) rfl ?_
      obtain ⟨g16, hf⟩ := pv_gd hf
      obtain ⟨h17, eh17, hf⟩ := pv_bo hf
      refine FV.iast dX10_takes_89 sm_8 g16.1 g16.2 (j := (Int.toNat (v3))) rfl eh17 ?_
      refine EV.aload_n dX10_takes_90 rfl rfl ?_
      refine FV.getF (v := 9) dX10_takes_91 sm_0 fl_10_42 rfl rfl hvm_0_24 ?_
      refine EV.iload_n dX10_takes_94 rfl rfl ?_
      refine EV.aload_n dX10_takes_95 rfl rfl ?_
      refine FV.getF (v := 2) dX10_takes_96 sm_0 fl_10_17 rfl rfl hvm_0_2 ?_
      refine EV.iload_n dX10_takes_99 rfl rfl ?_
      refine EV.sipush dX10_takes_100 (by decide) (by decide) ?_
      refine EV.iadd dX10_takes_103 ?_
      refine EV.iload_n dX10_takes_104 rfl rfl ?_
      refine EV.iadd dX10_takes_105 ?_
      obtain ⟨g18, hf⟩ := pv_gd hf
      refine FV.iald dX10_takes_106 sm_2 g18.1 g18.2 (j := (Int.toNat (pv_w ((pv_w (v2 + 182)) + v3)))) rfl ?_
      obtain ⟨g19, hf⟩ := pv_gd hf
      obtain ⟨h20, eh20, hf⟩ := pv_bo hf
      refine FV.iast dX10_takes_107 sm_9 g19.1 g19.2 (j := (Int.toNat (v3))) rfl eh20 ?_
      obtain ⟨x21, ex21, hf⟩ := pv_bo hf
      refine FV.inc (L2 := [some (.inr (.inr (0))), none, some (.inl (v2)), some (.inl (x21))]) dX10_takes_108 rfl (Nat.le_of_ble_eq_true rfl) ex21 rfl ?_
      refine EV.goto (tgt := 32) dX10_takes_111 (by decide) ?_
      refine EV.weak (L2 := [some (.inr (.inr (0))), none, some (.inl (v2)), some (.inl (x21))]) (And.intro rfl (And.intro rfl (And.intro rfl trivial))) ?_
      exact ih _ _  _ hf

set_option maxHeartbeats 4000000 in
set_option maxRecDepth 20000 in
theorem tX10_takes {d N : Nat} {a1 : Int} {h h' : pv_H}  (hd : 2 ≤ d)  (hf : fX10_takes N a1 h = some h') : CALL yX10_takes cX10_takes 4 none d pv_SM (MM h) [.inr (.inr (0)), .inl (a1)] pv_SM (MM h') none := by
  unfold fX10_takes at hf
  refine EV.call (own := RX10) (ini := false) rfl rfl (fun q => by cases q) ⟨[], (List.append_nil _).symm⟩ (Nat.le_of_ble_eq_true rfl) ?_
  refine EV.eqL (L2 := [some (.inr (.inr (0))), some (.inl (a1)), none, none]) rfl ?_
  refine EV.sipush dX10_takes_0 (by decide) (by decide) ?_
  refine EV.iload_n dX10_takes_3 rfl rfl ?_
  refine EV.imul dX10_takes_4 ?_
  obtain ⟨x1, ex1, hf⟩ := pv_bo hf
  refine FV.sti (L2 := [some (.inr (.inr (0))), some (.inl (a1)), some (.inl (x1)), none]) dX10_takes_5 rfl (Nat.le_of_ble_eq_true rfl) ex1 rfl ?_
  refine EV.aload_n dX10_takes_6 rfl rfl ?_
  refine EV.aload_n dX10_takes_7 rfl rfl ?_
  refine FV.getF (v := 2) dX10_takes_8 sm_0 fl_10_17 rfl rfl hvm_0_2 ?_
  refine EV.iload_n dX10_takes_11 rfl rfl ?_
  refine EV.iconst dX10_takes_12 (by decide) (by decide) ?_
  refine EV.iadd dX10_takes_13 ?_
  obtain ⟨g2, hf⟩ := pv_gd hf
  refine FV.iald dX10_takes_14 sm_2 g2.1 g2.2 (j := (Int.toNat (pv_w (x1 + 0)))) rfl ?_
  obtain ⟨h3, eh3, hf⟩ := pv_bo hf
  refine FV.putI dX10_takes_15 sm_0 fl_10_267 rfl rfl eh3 ?_
  refine EV.aload_n dX10_takes_18 rfl rfl ?_
  refine EV.aload_n dX10_takes_19 rfl rfl ?_
  refine FV.getF (v := 2) dX10_takes_20 sm_0 fl_10_17 rfl rfl hvm_0_2 ?_
  refine EV.iload_n dX10_takes_23 rfl rfl ?_
  refine EV.iconst dX10_takes_24 (by decide) (by decide) ?_
  refine EV.iadd dX10_takes_25 ?_
  obtain ⟨g4, hf⟩ := pv_gd hf
  refine FV.iald dX10_takes_26 sm_2 g4.1 g4.2 (j := (Int.toNat (pv_w (x1 + 1)))) rfl ?_
  obtain ⟨h5, eh5, hf⟩ := pv_bo hf
  refine FV.putI dX10_takes_27 sm_0 fl_10_270 rfl rfl eh5 ?_
  refine EV.iconst dX10_takes_30 (by decide) (by decide) ?_
  refine FV.sti (L2 := [some (.inr (.inr (0))), some (.inl (a1)), some (.inl (x1)), some (.inl (0))]) dX10_takes_31 rfl (Nat.le_of_ble_eq_true rfl) rfl rfl ?_
  refine EV.weak (L2 := [some (.inr (.inr (0))), none, some (.inl (x1)), some (.inl (0))]) (And.intro rfl (And.intro rfl (And.intro rfl trivial))) ?_
  exact tX10_takes_32 hd   _ _ _  _ hf

noncomputable def fX10_draws_83 (N : Nat) (k4 : Int → Int → pv_H → Option (pv_H)) (a1 : Int) (v2 : Int) (v3 : Int) (s0 : Int) (s1 : Int) (h : pv_H) : Option (pv_H) :=
  if 0 ≤ s1 ∧ s1 < 60 then (pv_b (pv_up h 11 (Int.toNat (s1)) s0) fun h11 => pv_b (pv_w (v3 + 1)) fun x12 => k4 (v2) (x12) h11) else none

noncomputable def fX10_draws_66 (N : Nat) (k4 : Int → Int → pv_H → Option (pv_H)) (a1 : Int) (v2 : Int) (v3 : Int) (v4 : Int) (h : pv_H) : Option (pv_H) :=
  if 1 ≤ v4 then (fX10_draws_83 N (k4) a1 (v2) (v3) (v4) (v3) h) else (fX10_draws_83 N (k4) a1 (v2) (v3) (1) (v3) h)

noncomputable def fX10_draws_4 (N : Nat)  (a1 : Int) : Nat → Int → Int → pv_H → Option (pv_H)
  | 0, _, _, _ => none
  | n + 1, v2, v3, h => if (h 0 19) ≤ v3 then (some h) else (if 0 ≤ v3 ∧ v3 < 60 then (if 0 ≤ v3 ∧ v3 < 60 then (pv_b (pv_w (Int.tdiv (pv_w ((h 7 (Int.toNat (v3))) * (pv_w (100 - (h 8 (Int.toNat (v3))))))) 100)) fun x4 => if (h 0 20) ≤ 0 then (fX10_draws_66 N (fun v2_ v3_ hh => fX10_draws_4 N  a1 n v2_ v3_ hh) a1 (v2) (v3) (x4) h) else (pv_b (pv_w ((pv_w (1103515245 * v2)) + 12345)) fun x6 => if ¬ (pv_w ((h 0 20) + 1)) = 0 then (pv_b (pv_w (x4 - (pv_w (Int.tmod (pv_ushr x6 16) (pv_w ((h 0 20) + 1)))))) fun x8 => fX10_draws_66 N (fun v2_ v3_ hh => fX10_draws_4 N  a1 n v2_ v3_ hh) a1 (x6) (v3) (x8) h) else none)) else none) else none)

noncomputable def fX10_draws (N : Nat) (a1 : Int) (h : pv_H) : Option (pv_H) :=
  fX10_draws_4 N  a1 N (a1) (0) h

set_option maxHeartbeats 4000000 in
set_option maxRecDepth 20000 in
theorem tX10_draws_83 {d N : Nat} {k4 : Int → Int → pv_H → Option (pv_H)} {a1 : Int} {v2 : Int} {v3 : Int} {s0 : Int} {s1 : Int} {h h' : pv_H}  (hd : 1 ≤ d) (hk4 : ∀ (v2 : Int) (v3 : Int)  (hh : pv_H), k4 v2 v3 hh = some h' → EV RX10 cX10_draws 5 none false d pv_SM (MM h') none 4 [some (.inr (.inr (0))), none, some (.inl (v2)), some (.inl (v3)), none] [] pv_SM (MM hh))   (hf : fX10_draws_83 N k4 a1 v2 v3 s0 s1 h = some h') : EV RX10 cX10_draws 5 none false d pv_SM (MM h') none 83 [some (.inr (.inr (0))), none, some (.inl (v2)), some (.inl (v3)), none] [.inl (s0), .inl (s1), .inr (.inr (11))] pv_SM (MM h) := by
  unfold fX10_draws_83 at hf
  obtain ⟨g10, hf⟩ := pv_gd hf
  obtain ⟨h11, eh11, hf⟩ := pv_bo hf
  refine FV.iast dX10_draws_83 sm_11 g10.1 g10.2 (j := (Int.toNat (s1))) rfl eh11 ?_
  obtain ⟨x12, ex12, hf⟩ := pv_bo hf
  refine FV.inc (L2 := [some (.inr (.inr (0))), none, some (.inl (v2)), some (.inl (x12)), none]) dX10_draws_84 rfl (Nat.le_of_ble_eq_true rfl) ex12 rfl ?_
  refine EV.goto (tgt := 4) dX10_draws_87 (by decide) ?_
  refine EV.weak (L2 := [some (.inr (.inr (0))), none, some (.inl (v2)), some (.inl (x12)), none]) (And.intro rfl (And.intro rfl (And.intro rfl trivial))) ?_
  exact hk4 _ _  _ hf

set_option maxHeartbeats 4000000 in
set_option maxRecDepth 20000 in
theorem tX10_draws_66 {d N : Nat} {k4 : Int → Int → pv_H → Option (pv_H)} {a1 : Int} {v2 : Int} {v3 : Int} {v4 : Int} {h h' : pv_H}  (hd : 1 ≤ d) (hk4 : ∀ (v2 : Int) (v3 : Int)  (hh : pv_H), k4 v2 v3 hh = some h' → EV RX10 cX10_draws 5 none false d pv_SM (MM h') none 4 [some (.inr (.inr (0))), none, some (.inl (v2)), some (.inl (v3)), none] [] pv_SM (MM hh))   (hf : fX10_draws_66 N k4 a1 v2 v3 v4 h = some h') : EV RX10 cX10_draws 5 none false d pv_SM (MM h') none 66 [some (.inr (.inr (0))), none, some (.inl (v2)), some (.inl (v3)), some (.inl (v4))] [] pv_SM (MM h) := by
  unfold fX10_draws_66 at hf
  refine EV.aload_n dX10_draws_66 rfl rfl ?_
  refine FV.getF (v := 11) dX10_draws_67 sm_0 fl_10_48 rfl rfl hvm_0_26 ?_
  refine EV.iload_n dX10_draws_70 rfl rfl ?_
  refine EV.iload dX10_draws_71 rfl ?_
  refine EV.iconst dX10_draws_73 (by decide) (by decide) ?_
  refine EV.icmp_ge (tgt := 81) dX10_draws_74 (by decide) (fun q9 => ?_) (fun q9 => ?_)
  · have hf := pv_gp hf q9
    refine EV.iload dX10_draws_81 rfl ?_
    refine EV.weak (L2 := [some (.inr (.inr (0))), none, some (.inl (v2)), some (.inl (v3)), none]) (And.intro rfl (And.intro rfl (And.intro rfl trivial))) ?_
    exact tX10_draws_83 hd (hk4)   hf
  · have hf := pv_gn hf q9
    refine EV.iconst dX10_draws_77 (by decide) (by decide) ?_
    refine EV.goto (tgt := 83) dX10_draws_78 (by decide) ?_
    refine EV.weak (L2 := [some (.inr (.inr (0))), none, some (.inl (v2)), some (.inl (v3)), none]) (And.intro rfl (And.intro rfl (And.intro rfl trivial))) ?_
    exact tX10_draws_83 hd (hk4)   hf

set_option maxHeartbeats 4000000 in
set_option maxRecDepth 20000 in
theorem tX10_draws_4 {d N : Nat}  {a1 : Int} {h' : pv_H}  (hd : 1 ≤ d)   : ∀ (n : Nat) (v2 : Int) (v3 : Int)  (h : pv_H), fX10_draws_4 N  a1 n v2 v3 h = some h' → EV RX10 cX10_draws 5 none false d pv_SM (MM h') none 4 [some (.inr (.inr (0))), none, some (.inl (v2)), some (.inl (v3)), none] [] pv_SM (MM h) := by
  intro n
  induction n with
  | zero =>
    intro v2 v3  h hf
    cases hf
  | succ n ih =>
    intro v2 v3  h hf
    rw [fX10_draws_4] at hf
    refine EV.iload_n dX10_draws_4 rfl rfl ?_
    refine EV.aload_n dX10_draws_5 rfl rfl ?_
    refine FV.getI dX10_draws_6 sm_0 fl_10_267 rfl ?_
    refine EV.icmp_ge (tgt := 90) dX10_draws_9 (by decide) (fun q1 => ?_) (fun q1 => ?_)
    · have hf := pv_gp hf q1
      exact FV.vret dX10_draws_90 hf
    · have hf := pv_gn hf q1
      refine EV.aload_n dX10_draws_12 rfl rfl ?_
      refine FV.getF (v := 7) dX10_draws_13 sm_0 fl_10_36 rfl rfl hvm_0_22 ?_
      refine EV.iload_n dX10_draws_16 rfl rfl ?_
      obtain ⟨g2, hf⟩ := pv_gd hf
      refine FV.iald dX10_draws_17 sm_7 g2.1 g2.2 (j := (Int.toNat (v3))) rfl ?_
      refine EV.bipush dX10_draws_18 (by decide) (by decide) ?_
      refine EV.aload_n dX10_draws_20 rfl rfl ?_
      refine FV.getF (v := 8) dX10_draws_21 sm_0 fl_10_39 rfl rfl hvm_0_23 ?_
      refine EV.iload_n dX10_draws_24 rfl rfl ?_
      obtain ⟨g3, hf⟩ := pv_gd hf
      refine FV.iald dX10_draws_25 sm_8 g3.1 g3.2 (j := (Int.toNat (v3))) rfl ?_
      refine EV.isub dX10_draws_26 ?_
      refine EV.imul dX10_draws_27 ?_
      refine EV.bipush dX10_draws_28 (by decide) (by decide) ?_
      refine EV.idiv dX10_draws_30 (by decide) ?_
      obtain ⟨x4, ex4, hf⟩ := pv_bo hf
      refine FV.stiw (L2 := [some (.inr (.inr (0))), none, some (.inl (v2)), some (.inl (v3)), some (.inl (x4))]) dX10_draws_31 (Nat.le_of_ble_eq_true rfl) ex4 rfl ?_
      refine EV.aload_n dX10_draws_33 rfl rfl ?_
      refine FV.getI dX10_draws_34 sm_0 fl_10_270 rfl ?_
      refine EV.if_le (tgt := 66) dX10_draws_37 (by decide) (fun q5 => ?_) (fun q5 => ?_)
      · have hf := pv_gp hf q5
        refine EV.weak (L2 := [some (.inr (.inr (0))), none, some (.inl (v2)), some (.inl (v3)), some (.inl (x4))]) (And.intro rfl (And.intro rfl (And.intro rfl (And.intro rfl trivial)))) ?_
        exact tX10_draws_66 hd (ih)   hf
      · have hf := pv_gn hf q5
        refine EV.ldcw (n := 1103515245) dX10_draws_40 kc_X10_276 (by decide) (by decide) ?_
        refine EV.iload_n dX10_draws_43 rfl rfl ?_
        refine EV.imul dX10_draws_44 ?_
        refine EV.sipush dX10_draws_45 (by decide) (by decide) ?_
        refine EV.iadd dX10_draws_48 ?_
        obtain ⟨x6, ex6, hf⟩ := pv_bo hf
        refine FV.sti (L2 := [some (.inr (.inr (0))), none, some (.inl (x6)), some (.inl (v3)), some (.inl (x4))]) dX10_draws_49 rfl (Nat.le_of_ble_eq_true rfl) ex6 rfl ?_
        refine EV.iload dX10_draws_50 rfl ?_
        refine EV.iload_n dX10_draws_52 rfl rfl ?_
        refine EV.bipush dX10_draws_53 (by decide) (by decide) ?_
        refine EV.iushr dX10_draws_55 ?_
        refine EV.aload_n dX10_draws_56 rfl rfl ?_
        refine FV.getI dX10_draws_57 sm_0 fl_10_270 rfl ?_
        refine EV.iconst dX10_draws_60 (by decide) (by decide) ?_
        refine EV.iadd dX10_draws_61 ?_
        obtain ⟨g7, hf⟩ := pv_gd hf
        refine EV.irem dX10_draws_62 g7 ?_
        refine EV.isub dX10_draws_63 ?_
        obtain ⟨x8, ex8, hf⟩ := pv_bo hf
        refine FV.stiw (L2 := [some (.inr (.inr (0))), none, some (.inl (x6)), some (.inl (v3)), some (.inl (x8))]) dX10_draws_64 (Nat.le_of_ble_eq_true rfl) ex8 rfl ?_
        refine EV.weak (L2 := [some (.inr (.inr (0))), none, some (.inl (x6)), some (.inl (v3)), some (.inl (x8))]) (And.intro rfl (And.intro rfl (And.intro rfl (And.intro rfl trivial)))) ?_
        exact tX10_draws_66 hd (ih)   hf

set_option maxHeartbeats 4000000 in
set_option maxRecDepth 20000 in
theorem tX10_draws {d N : Nat} {a1 : Int} {h h' : pv_H}  (hd : 1 ≤ d)  (hf : fX10_draws N a1 h = some h') : CALL yX10_draws cX10_draws 5 none d pv_SM (MM h) [.inr (.inr (0)), .inl (a1)] pv_SM (MM h') none := by
  unfold fX10_draws at hf
  refine EV.call (own := RX10) (ini := false) rfl rfl (fun q => by cases q) ⟨[], (List.append_nil _).symm⟩ (Nat.le_of_ble_eq_true rfl) ?_
  refine EV.eqL (L2 := [some (.inr (.inr (0))), some (.inl (a1)), none, none, none]) rfl ?_
  refine EV.iload_n dX10_draws_0 rfl rfl ?_
  refine FV.sti (L2 := [some (.inr (.inr (0))), some (.inl (a1)), some (.inl (a1)), none, none]) dX10_draws_1 rfl (Nat.le_of_ble_eq_true rfl) rfl rfl ?_
  refine EV.iconst dX10_draws_2 (by decide) (by decide) ?_
  refine FV.sti (L2 := [some (.inr (.inr (0))), some (.inl (a1)), some (.inl (a1)), some (.inl (0)), none]) dX10_draws_3 rfl (Nat.le_of_ble_eq_true rfl) rfl rfl ?_
  refine EV.weak (L2 := [some (.inr (.inr (0))), none, some (.inl (a1)), some (.inl (0)), none]) (And.intro rfl (And.intro rfl (And.intro rfl trivial))) ?_
  exact tX10_draws_4 hd   _ _ _  _ hf

noncomputable def fX10_rod_23 (N : Nat)  (a1 : Int) (a2 : Int)  (h : pv_H) : Option (pv_H × Int) :=
  pv_c2b (fX10_no N (-2) h) fun h10 r11 => some (h10, r11)

noncomputable def fX10_rod (N : Nat) (a1 : Int) (a2 : Int) (h : pv_H) : Option (pv_H × Int) :=
  pv_b (pv_up h 0 0 0) fun h1 => pv_c1 (fX10_isRod N a1 h1) fun r3 => if r3 = 0 then (fX10_rod_23 N  a1 a2  h1) else (pv_c1 (fX10_within N a2 0 1 h1) fun r6 => if r6 = 0 then (fX10_rod_23 N  a1 a2  h1) else (if 0 ≤ pv_w ((pv_w (242 * a1)) + a2) ∧ pv_w ((pv_w (242 * a1)) + a2) < 9159 then (some (h1, h1 2 (Int.toNat (pv_w ((pv_w (242 * a1)) + a2))))) else none))

set_option maxHeartbeats 4000000 in
set_option maxRecDepth 20000 in
theorem tX10_rod_23 {d N : Nat}  {a1 : Int} {a2 : Int}  {h h' : pv_H} {r : Int} (hd : 3 ≤ d)    (hf : fX10_rod_23 N  a1 a2  h = some (h', r)) : EV RX10 cX10_rod 3 (some .int) false d pv_SM (MM h') (some (.inl r)) 23 [some (.inr (.inr (0))), none, none] [] pv_SM (MM h) := by
  unfold fX10_rod_23 at hf
  refine EV.aload_n dX10_rod_23 rfl rfl ?_
  refine EV.bipush dX10_rod_24 (by decide) (by decide) ?_
  obtain ⟨h10, r11, hc9, hf⟩ := pv_c2o hf
  refine EV.invV (As := [.inl (-2)]) (st := []) (d1 := d - 1) (sh1 := pv_SM) (h1 := MM h10) (r1 := (some (.inl r11))) dX10_rod_26 sm_0 (by decide) md_X10_no ml_X10_131 im_X10_no se_X10_no (tX10_no (by omega)  hc9) (by omega) rfl rfl (Nat.le_of_ble_eq_true rfl) ⟨[], (List.append_nil _).symm⟩ ?_
  refine EV.eqS (st2 := [.inl (r11)]) rfl ?_
  exact FV.iret dX10_rod_29 hf

set_option maxHeartbeats 4000000 in
set_option maxRecDepth 20000 in
theorem tX10_rod {d N : Nat} {a1 : Int} {a2 : Int} {h h' : pv_H} {r : Int} (hd : 3 ≤ d)  (hf : fX10_rod N a1 a2 h = some (h', r)) : CALL yX10_rod cX10_rod 3 (some .int) d pv_SM (MM h) [.inr (.inr (0)), .inl (a1), .inl (a2)] pv_SM (MM h') (some (.inl r)) := by
  unfold fX10_rod at hf
  refine EV.call (own := RX10) (ini := false) rfl rfl (fun q => by cases q) ⟨[], (List.append_nil _).symm⟩ (Nat.le_of_ble_eq_true rfl) ?_
  refine EV.eqL (L2 := [some (.inr (.inr (0))), some (.inl (a1)), some (.inl (a2))]) rfl ?_
  refine EV.aload_n dX10_rod_0 rfl rfl ?_
  refine EV.iconst dX10_rod_1 (by decide) (by decide) ?_
  obtain ⟨h1, eh1, hf⟩ := pv_bo hf
  refine FV.putI dX10_rod_2 sm_0 fl_10_1 rfl rfl eh1 ?_
  refine EV.aload_n dX10_rod_5 rfl rfl ?_
  refine EV.iload_n dX10_rod_6 rfl rfl ?_
  obtain ⟨r3, hc2, hf⟩ := pv_c1o hf
  refine EV.invV (As := [.inl (a1)]) (st := []) (d1 := d - 1) (sh1 := pv_SM) (h1 := MM h1) (r1 := (some (.inl r3))) dX10_rod_7 sm_0 (by decide) md_X10_isRod ml_X10_277 im_X10_isRod se_X10_isRod (tX10_isRod (by omega)  hc2) (by omega) rfl rfl (Nat.le_of_ble_eq_true rfl) ⟨[], (List.append_nil _).symm⟩ ?_
  refine EV.eqS (st2 := [.inl (r3)]) rfl ?_
  refine EV.if_eq (tgt := 23) dX10_rod_10 (by decide) (fun q4 => ?_) (fun q4 => ?_)
  · have hf := pv_gp hf q4
    refine EV.weak (L2 := [some (.inr (.inr (0))), none, none]) (And.intro rfl trivial) ?_
    exact tX10_rod_23 hd    hf
  · have hf := pv_gn hf q4
    refine EV.iload_n dX10_rod_13 rfl rfl ?_
    refine EV.i2l dX10_rod_14 ?_
    refine EV.lconst (x := 0) dX10_rod_15 (by decide) (by decide) (by decide) ?_
    refine EV.lconst (x := 1) dX10_rod_16 (by decide) (by decide) (by decide) ?_
    obtain ⟨r6, hc5, hf⟩ := pv_c1o hf
    refine EV.invS (As := [.inr (.inl (a2)), .inr (.inl (0)), .inr (.inl (1))]) (st := []) (d1 := d - 1) (sh1 := pv_SM) (h1 := MM h1) (r1 := (some (.inl r6))) dX10_rod_17 md_X10_within ml_X10_193 st_X10_within (tX10_within (by omega)  hc5) (by omega) rfl rfl (Nat.le_of_ble_eq_true rfl) ⟨[], (List.append_nil _).symm⟩ ?_
    refine EV.eqS (st2 := [.inl (r6)]) rfl ?_
    refine EV.if_ne (tgt := 30) dX10_rod_20 (by decide) (fun q7 => ?_) (fun q7 => ?_)
    · have hf := pv_gn hf q7
      refine EV.aload_n dX10_rod_30 rfl rfl ?_
      refine FV.getF (v := 2) dX10_rod_31 sm_0 fl_10_17 rfl rfl hvm_0_2 ?_
      refine EV.sipush dX10_rod_34 (by decide) (by decide) ?_
      refine EV.iload_n dX10_rod_37 rfl rfl ?_
      refine EV.imul dX10_rod_38 ?_
      refine EV.iload_n dX10_rod_39 rfl rfl ?_
      refine EV.iadd dX10_rod_40 ?_
      obtain ⟨g8, hf⟩ := pv_gd hf
      refine FV.iald dX10_rod_41 sm_2 g8.1 g8.2 (j := (Int.toNat (pv_w ((pv_w (242 * a1)) + a2)))) rfl ?_
      exact FV.iret dX10_rod_42 hf
    · have hf := pv_gp hf q7
      refine EV.weak (L2 := [some (.inr (.inr (0))), none, none]) (And.intro rfl trivial) ?_
      exact tX10_rod_23 hd    hf

noncomputable def fX10_cell_49 (N : Nat)  (a1 : Int) (a2 : Int) (a3 : Int)  (h : pv_H) : Option (pv_H × Int) :=
  pv_c2b (fX10_no N (-2) h) fun h18 r19 => some (h18, r19)

noncomputable def fX10_cell (N : Nat) (a1 : Int) (a2 : Int) (a3 : Int) (h : pv_H) : Option (pv_H × Int) :=
  pv_b (pv_up h 0 0 0) fun h1 => pv_c1 (fX10_isRod N a1 h1) fun r3 => if r3 = 0 then (fX10_cell_49 N  a1 a2 a3  h1) else (if 0 ≤ pv_w ((pv_w (242 * a1)) + 0) ∧ pv_w ((pv_w (242 * a1)) + 0) < 9159 then (pv_c1 (fX10_within N a2 0 (pv_w ((h1 2 (Int.toNat (pv_w ((pv_w (242 * a1)) + 0)))) - 1)) h1) fun r7 => if r7 = 0 then (fX10_cell_49 N  a1 a2 a3  h1) else (pv_c1 (fX10_within N a3 0 4 h1) fun r10 => if r10 = 0 then (fX10_cell_49 N  a1 a2 a3  h1) else (if a3 = 4 then (pv_c1 (fX10_takes N a1 h1) fun h15 => if 0 ≤ a2 ∧ a2 < 60 then (some (h15, h15 10 (Int.toNat (a2)))) else none) else (if 0 ≤ pv_w ((pv_w ((pv_w ((pv_w (242 * a1)) + 2)) + (pv_w (60 * a3)))) + a2) ∧ pv_w ((pv_w ((pv_w ((pv_w (242 * a1)) + 2)) + (pv_w (60 * a3)))) + a2) < 9159 then (some (h1, h1 2 (Int.toNat (pv_w ((pv_w ((pv_w ((pv_w (242 * a1)) + 2)) + (pv_w (60 * a3)))) + a2))))) else none)))) else none)

set_option maxHeartbeats 4000000 in
set_option maxRecDepth 20000 in
theorem tX10_cell_49 {d N : Nat}  {a1 : Int} {a2 : Int} {a3 : Int}  {h h' : pv_H} {r : Int} (hd : 3 ≤ d)    (hf : fX10_cell_49 N  a1 a2 a3  h = some (h', r)) : EV RX10 cX10_cell 4 (some .int) false d pv_SM (MM h') (some (.inl r)) 49 [some (.inr (.inr (0))), none, none, none] [] pv_SM (MM h) := by
  unfold fX10_cell_49 at hf
  refine EV.aload_n dX10_cell_49 rfl rfl ?_
  refine EV.bipush dX10_cell_50 (by decide) (by decide) ?_
  obtain ⟨h18, r19, hc17, hf⟩ := pv_c2o hf
  refine EV.invV (As := [.inl (-2)]) (st := []) (d1 := d - 1) (sh1 := pv_SM) (h1 := MM h18) (r1 := (some (.inl r19))) dX10_cell_52 sm_0 (by decide) md_X10_no ml_X10_131 im_X10_no se_X10_no (tX10_no (by omega)  hc17) (by omega) rfl rfl (Nat.le_of_ble_eq_true rfl) ⟨[], (List.append_nil _).symm⟩ ?_
  refine EV.eqS (st2 := [.inl (r19)]) rfl ?_
  exact FV.iret dX10_cell_55 hf

set_option maxHeartbeats 4000000 in
set_option maxRecDepth 20000 in
theorem tX10_cell {d N : Nat} {a1 : Int} {a2 : Int} {a3 : Int} {h h' : pv_H} {r : Int} (hd : 3 ≤ d)  (hf : fX10_cell N a1 a2 a3 h = some (h', r)) : CALL yX10_cell cX10_cell 4 (some .int) d pv_SM (MM h) [.inr (.inr (0)), .inl (a1), .inl (a2), .inl (a3)] pv_SM (MM h') (some (.inl r)) := by
  unfold fX10_cell at hf
  refine EV.call (own := RX10) (ini := false) rfl rfl (fun q => by cases q) ⟨[], (List.append_nil _).symm⟩ (Nat.le_of_ble_eq_true rfl) ?_
  refine EV.eqL (L2 := [some (.inr (.inr (0))), some (.inl (a1)), some (.inl (a2)), some (.inl (a3))]) rfl ?_
  refine EV.aload_n dX10_cell_0 rfl rfl ?_
  refine EV.iconst dX10_cell_1 (by decide) (by decide) ?_
  obtain ⟨h1, eh1, hf⟩ := pv_bo hf
  refine FV.putI dX10_cell_2 sm_0 fl_10_1 rfl rfl eh1 ?_
  refine EV.aload_n dX10_cell_5 rfl rfl ?_
  refine EV.iload_n dX10_cell_6 rfl rfl ?_
  obtain ⟨r3, hc2, hf⟩ := pv_c1o hf
  refine EV.invV (As := [.inl (a1)]) (st := []) (d1 := d - 1) (sh1 := pv_SM) (h1 := MM h1) (r1 := (some (.inl r3))) dX10_cell_7 sm_0 (by decide) md_X10_isRod ml_X10_277 im_X10_isRod se_X10_isRod (tX10_isRod (by omega)  hc2) (by omega) rfl rfl (Nat.le_of_ble_eq_true rfl) ⟨[], (List.append_nil _).symm⟩ ?_
  refine EV.eqS (st2 := [.inl (r3)]) rfl ?_
  refine EV.if_eq (tgt := 49) dX10_cell_10 (by decide) (fun q4 => ?_) (fun q4 => ?_)
  · have hf := pv_gp hf q4
    refine EV.weak (L2 := [some (.inr (.inr (0))), none, none, none]) (And.intro rfl trivial) ?_
    exact tX10_cell_49 hd    hf
  · have hf := pv_gn hf q4
    refine EV.iload_n dX10_cell_13 rfl rfl ?_
    refine EV.i2l dX10_cell_14 ?_
    refine EV.lconst (x := 0) dX10_cell_15 (by decide) (by decide) (by decide) ?_
    refine EV.aload_n dX10_cell_16 rfl rfl ?_
    refine FV.getF (v := 2) dX10_cell_17 sm_0 fl_10_17 rfl rfl hvm_0_2 ?_
    refine EV.sipush dX10_cell_20 (by decide) (by decide) ?_
    refine EV.iload_n dX10_cell_23 rfl rfl ?_
    refine EV.imul dX10_cell_24 ?_
    refine EV.iconst dX10_cell_25 (by decide) (by decide) ?_
    refine EV.iadd dX10_cell_26 ?_
    obtain ⟨g5, hf⟩ := pv_gd hf
    refine FV.iald dX10_cell_27 sm_2 g5.1 g5.2 (j := (Int.toNat (pv_w ((pv_w (242 * a1)) + 0)))) rfl ?_
    refine EV.iconst dX10_cell_28 (by decide) (by decide) ?_
    refine EV.isub dX10_cell_29 ?_
    refine EV.i2l dX10_cell_30 ?_
    obtain ⟨r7, hc6, hf⟩ := pv_c1o hf
    refine EV.invS (As := [.inr (.inl (a2)), .inr (.inl (0)), .inr (.inl (pv_w ((h1 2 (Int.toNat (pv_w ((pv_w (242 * a1)) + 0)))) - 1)))]) (st := []) (d1 := d - 1) (sh1 := pv_SM) (h1 := MM h1) (r1 := (some (.inl r7))) dX10_cell_31 md_X10_within ml_X10_193 st_X10_within (tX10_within (by omega)  hc6) (by omega) rfl rfl (Nat.le_of_ble_eq_true rfl) ⟨[], (List.append_nil _).symm⟩ ?_
    refine EV.eqS (st2 := [.inl (r7)]) rfl ?_
    refine EV.if_eq (tgt := 49) dX10_cell_34 (by decide) (fun q8 => ?_) (fun q8 => ?_)
    · have hf := pv_gp hf q8
      refine EV.weak (L2 := [some (.inr (.inr (0))), none, none, none]) (And.intro rfl trivial) ?_
      exact tX10_cell_49 hd    hf
    · have hf := pv_gn hf q8
      refine EV.iload_n dX10_cell_37 rfl rfl ?_
      refine EV.i2l dX10_cell_38 ?_
      refine EV.lconst (x := 0) dX10_cell_39 (by decide) (by decide) (by decide) ?_
      refine EV.ldc2 (n := 4) dX10_cell_40 kl_X10_280 (by decide) (by decide) ?_
      obtain ⟨r10, hc9, hf⟩ := pv_c1o hf
      refine EV.invS (As := [.inr (.inl (a3)), .inr (.inl (0)), .inr (.inl (4))]) (st := []) (d1 := d - 1) (sh1 := pv_SM) (h1 := MM h1) (r1 := (some (.inl r10))) dX10_cell_43 md_X10_within ml_X10_193 st_X10_within (tX10_within (by omega)  hc9) (by omega) rfl rfl (Nat.le_of_ble_eq_true rfl) ⟨[], (List.append_nil _).symm⟩ ?_
      refine EV.eqS (st2 := [.inl (r10)]) rfl ?_
      refine EV.if_ne (tgt := 56) dX10_cell_46 (by decide) (fun q11 => ?_) (fun q11 => ?_)
      · have hf := pv_gn hf q11
        refine EV.iload_n dX10_cell_56 rfl rfl ?_
        refine EV.iconst dX10_cell_57 (by decide) (by decide) ?_
        refine EV.icmp_ne (tgt := 73) dX10_cell_58 (by decide) (fun q12 => ?_) (fun q12 => ?_)
        · have hf := pv_gn hf q12
          refine EV.aload_n dX10_cell_73 rfl rfl ?_
          refine FV.getF (v := 2) dX10_cell_74 sm_0 fl_10_17 rfl rfl hvm_0_2 ?_
          refine EV.sipush dX10_cell_77 (by decide) (by decide) ?_
          refine EV.iload_n dX10_cell_80 rfl rfl ?_
          refine EV.imul dX10_cell_81 ?_
          refine EV.iconst dX10_cell_82 (by decide) (by decide) ?_
          refine EV.iadd dX10_cell_83 ?_
          refine EV.bipush dX10_cell_84 (by decide) (by decide) ?_
          refine EV.iload_n dX10_cell_86 rfl rfl ?_
          refine EV.imul dX10_cell_87 ?_
          refine EV.iadd dX10_cell_88 ?_
          refine EV.iload_n dX10_cell_89 rfl rfl ?_
          refine EV.iadd dX10_cell_90 ?_
          obtain ⟨g13, hf⟩ := pv_gd hf
          refine FV.iald dX10_cell_91 sm_2 g13.1 g13.2 (j := (Int.toNat (pv_w ((pv_w ((pv_w ((pv_w (242 * a1)) + 2)) + (pv_w (60 * a3)))) + a2)))) rfl ?_
          exact FV.iret dX10_cell_92 hf
        · have hf := pv_gp hf q12
          refine EV.aload_n dX10_cell_61 rfl rfl ?_
          refine EV.iload_n dX10_cell_62 rfl rfl ?_
          obtain ⟨h15, hc14, hf⟩ := pv_c1o hf
          refine EV.invV (As := [.inl (a1)]) (st := []) (d1 := d - 1) (sh1 := pv_SM) (h1 := MM h15) (r1 := none) dX10_cell_63 sm_0 (by decide) md_X10_takes ml_X10_282 im_X10_takes se_X10_takes (tX10_takes (by omega)  hc14) (by omega) rfl rfl (Nat.le_of_ble_eq_true rfl) ⟨[], (List.append_nil _).symm⟩ ?_
          refine EV.aload_n dX10_cell_66 rfl rfl ?_
          refine FV.getF (v := 10) dX10_cell_67 sm_0 fl_10_45 rfl rfl hvm_0_25 ?_
          refine EV.iload_n dX10_cell_70 rfl rfl ?_
          obtain ⟨g16, hf⟩ := pv_gd hf
          refine FV.iald dX10_cell_71 sm_10 g16.1 g16.2 (j := (Int.toNat (a2))) rfl ?_
          exact FV.iret dX10_cell_72 hf
      · have hf := pv_gp hf q11
        refine EV.weak (L2 := [some (.inr (.inr (0))), none, none, none]) (And.intro rfl trivial) ?_
        exact tX10_cell_49 hd    hf

noncomputable def fX10_strength_37 (N : Nat)  (a1 : Int) (a2 : Int) (a3 : Int)  (h : pv_H) : Option (pv_H × Int) :=
  pv_c2b (fX10_no N (-2) h) fun h15 r16 => some (h15, r16)

noncomputable def fX10_strength (N : Nat) (a1 : Int) (a2 : Int) (a3 : Int) (h : pv_H) : Option (pv_H × Int) :=
  pv_b (pv_up h 0 0 0) fun h1 => pv_c1 (fX10_isRod N a1 h1) fun r3 => if r3 = 0 then (fX10_strength_37 N  a1 a2 a3  h1) else (if 0 ≤ pv_w ((pv_w (242 * a1)) + 0) ∧ pv_w ((pv_w (242 * a1)) + 0) < 9159 then (pv_c1 (fX10_within N a2 0 (pv_w ((h1 2 (Int.toNat (pv_w ((pv_w (242 * a1)) + 0)))) - 1)) h1) fun r7 => if r7 = 0 then (fX10_strength_37 N  a1 a2 a3  h1) else (pv_c1 (fX10_takes N a1 h1) fun h10 => pv_c1 (fX10_draws N a3 h10) fun h12 => if 0 ≤ a2 ∧ a2 < 60 then (some (h12, h12 11 (Int.toNat (a2)))) else none)) else none)

set_option maxHeartbeats 4000000 in
set_option maxRecDepth 20000 in
theorem tX10_strength_37 {d N : Nat}  {a1 : Int} {a2 : Int} {a3 : Int}  {h h' : pv_H} {r : Int} (hd : 3 ≤ d)    (hf : fX10_strength_37 N  a1 a2 a3  h = some (h', r)) : EV RX10 cX10_strength 4 (some .int) false d pv_SM (MM h') (some (.inl r)) 37 [some (.inr (.inr (0))), none, none, none] [] pv_SM (MM h) := by
  unfold fX10_strength_37 at hf
  refine EV.aload_n dX10_strength_37 rfl rfl ?_
  refine EV.bipush dX10_strength_38 (by decide) (by decide) ?_
  obtain ⟨h15, r16, hc14, hf⟩ := pv_c2o hf
  refine EV.invV (As := [.inl (-2)]) (st := []) (d1 := d - 1) (sh1 := pv_SM) (h1 := MM h15) (r1 := (some (.inl r16))) dX10_strength_40 sm_0 (by decide) md_X10_no ml_X10_131 im_X10_no se_X10_no (tX10_no (by omega)  hc14) (by omega) rfl rfl (Nat.le_of_ble_eq_true rfl) ⟨[], (List.append_nil _).symm⟩ ?_
  refine EV.eqS (st2 := [.inl (r16)]) rfl ?_
  exact FV.iret dX10_strength_43 hf

set_option maxHeartbeats 4000000 in
set_option maxRecDepth 20000 in
theorem tX10_strength {d N : Nat} {a1 : Int} {a2 : Int} {a3 : Int} {h h' : pv_H} {r : Int} (hd : 3 ≤ d)  (hf : fX10_strength N a1 a2 a3 h = some (h', r)) : CALL yX10_strength cX10_strength 4 (some .int) d pv_SM (MM h) [.inr (.inr (0)), .inl (a1), .inl (a2), .inl (a3)] pv_SM (MM h') (some (.inl r)) := by
  unfold fX10_strength at hf
  refine EV.call (own := RX10) (ini := false) rfl rfl (fun q => by cases q) ⟨[], (List.append_nil _).symm⟩ (Nat.le_of_ble_eq_true rfl) ?_
  refine EV.eqL (L2 := [some (.inr (.inr (0))), some (.inl (a1)), some (.inl (a2)), some (.inl (a3))]) rfl ?_
  refine EV.aload_n dX10_strength_0 rfl rfl ?_
  refine EV.iconst dX10_strength_1 (by decide) (by decide) ?_
  obtain ⟨h1, eh1, hf⟩ := pv_bo hf
  refine FV.putI dX10_strength_2 sm_0 fl_10_1 rfl rfl eh1 ?_
  refine EV.aload_n dX10_strength_5 rfl rfl ?_
  refine EV.iload_n dX10_strength_6 rfl rfl ?_
  obtain ⟨r3, hc2, hf⟩ := pv_c1o hf
  refine EV.invV (As := [.inl (a1)]) (st := []) (d1 := d - 1) (sh1 := pv_SM) (h1 := MM h1) (r1 := (some (.inl r3))) dX10_strength_7 sm_0 (by decide) md_X10_isRod ml_X10_277 im_X10_isRod se_X10_isRod (tX10_isRod (by omega)  hc2) (by omega) rfl rfl (Nat.le_of_ble_eq_true rfl) ⟨[], (List.append_nil _).symm⟩ ?_
  refine EV.eqS (st2 := [.inl (r3)]) rfl ?_
  refine EV.if_eq (tgt := 37) dX10_strength_10 (by decide) (fun q4 => ?_) (fun q4 => ?_)
  · have hf := pv_gp hf q4
    refine EV.weak (L2 := [some (.inr (.inr (0))), none, none, none]) (And.intro rfl trivial) ?_
    exact tX10_strength_37 hd    hf
  · have hf := pv_gn hf q4
    refine EV.iload_n dX10_strength_13 rfl rfl ?_
    refine EV.i2l dX10_strength_14 ?_
    refine EV.lconst (x := 0) dX10_strength_15 (by decide) (by decide) (by decide) ?_
    refine EV.aload_n dX10_strength_16 rfl rfl ?_
    refine FV.getF (v := 2) dX10_strength_17 sm_0 fl_10_17 rfl rfl hvm_0_2 ?_
    refine EV.sipush dX10_strength_20 (by decide) (by decide) ?_
    refine EV.iload_n dX10_strength_23 rfl rfl ?_
    refine EV.imul dX10_strength_24 ?_
    refine EV.iconst dX10_strength_25 (by decide) (by decide) ?_
    refine EV.iadd dX10_strength_26 ?_
    obtain ⟨g5, hf⟩ := pv_gd hf
    refine FV.iald dX10_strength_27 sm_2 g5.1 g5.2 (j := (Int.toNat (pv_w ((pv_w (242 * a1)) + 0)))) rfl ?_
    refine EV.iconst dX10_strength_28 (by decide) (by decide) ?_
    refine EV.isub dX10_strength_29 ?_
    refine EV.i2l dX10_strength_30 ?_
    obtain ⟨r7, hc6, hf⟩ := pv_c1o hf
    refine EV.invS (As := [.inr (.inl (a2)), .inr (.inl (0)), .inr (.inl (pv_w ((h1 2 (Int.toNat (pv_w ((pv_w (242 * a1)) + 0)))) - 1)))]) (st := []) (d1 := d - 1) (sh1 := pv_SM) (h1 := MM h1) (r1 := (some (.inl r7))) dX10_strength_31 md_X10_within ml_X10_193 st_X10_within (tX10_within (by omega)  hc6) (by omega) rfl rfl (Nat.le_of_ble_eq_true rfl) ⟨[], (List.append_nil _).symm⟩ ?_
    refine EV.eqS (st2 := [.inl (r7)]) rfl ?_
    refine EV.if_ne (tgt := 44) dX10_strength_34 (by decide) (fun q8 => ?_) (fun q8 => ?_)
    · have hf := pv_gn hf q8
      refine EV.aload_n dX10_strength_44 rfl rfl ?_
      refine EV.iload_n dX10_strength_45 rfl rfl ?_
      obtain ⟨h10, hc9, hf⟩ := pv_c1o hf
      refine EV.invV (As := [.inl (a1)]) (st := []) (d1 := d - 1) (sh1 := pv_SM) (h1 := MM h10) (r1 := none) dX10_strength_46 sm_0 (by decide) md_X10_takes ml_X10_282 im_X10_takes se_X10_takes (tX10_takes (by omega)  hc9) (by omega) rfl rfl (Nat.le_of_ble_eq_true rfl) ⟨[], (List.append_nil _).symm⟩ ?_
      refine EV.aload_n dX10_strength_49 rfl rfl ?_
      refine EV.iload_n dX10_strength_50 rfl rfl ?_
      obtain ⟨h12, hc11, hf⟩ := pv_c1o hf
      refine EV.invV (As := [.inl (a3)]) (st := []) (d1 := d - 1) (sh1 := pv_SM) (h1 := MM h12) (r1 := none) dX10_strength_51 sm_0 (by decide) md_X10_draws ml_X10_285 im_X10_draws se_X10_draws (tX10_draws (by omega)  hc11) (by omega) rfl rfl (Nat.le_of_ble_eq_true rfl) ⟨[], (List.append_nil _).symm⟩ ?_
      refine EV.aload_n dX10_strength_54 rfl rfl ?_
      refine FV.getF (v := 11) dX10_strength_55 sm_0 fl_10_48 rfl rfl hvm_0_26 ?_
      refine EV.iload_n dX10_strength_58 rfl rfl ?_
      obtain ⟨g13, hf⟩ := pv_gd hf
      refine FV.iald dX10_strength_59 sm_11 g13.1 g13.2 (j := (Int.toNat (a2))) rfl ?_
      exact FV.iret dX10_strength_60 hf
    · have hf := pv_gp hf q8
      refine EV.weak (L2 := [some (.inr (.inr (0))), none, none, none]) (And.intro rfl trivial) ?_
      exact tX10_strength_37 hd    hf

noncomputable def fX10_acts_92 (N : Nat)  (a1 : Int) (s0 : Int) (s1 : Int) (h : pv_H) : Option (pv_H) :=
  pv_b (pv_up h 0 37 (pv_w (s1 + s0))) fun h13 => some h13

noncomputable def fX10_acts_64 (N : Nat)  (a1 : Int) (s0 : Int) (h : pv_H) : Option (pv_H) :=
  pv_b (pv_up h 0 36 s0) fun h9 => if 0 ≤ a1 ∧ a1 < 12 then (if (h9 14 (Int.toNat (a1))) = 2 then (if 0 ≤ a1 ∧ a1 < 12 then (fX10_acts_92 N  a1 (h9 15 (Int.toNat (a1))) (h9 0 37) h9) else none) else (fX10_acts_92 N  a1 (0) (h9 0 37) h9)) else none

noncomputable def fX10_acts_44 (N : Nat)  (a1 : Int) (s0 : Int) (s1 : Int) (h : pv_H) : Option (pv_H) :=
  pv_b (pv_up h 0 36 (pv_w (s1 + s0))) fun h7 => if 0 ≤ (h7 0 36) then (fX10_acts_64 N  a1 (h7 0 36) h7) else (fX10_acts_64 N  a1 (0) h7)

noncomputable def fX10_acts (N : Nat) (a1 : Int) (h : pv_H) : Option (pv_H) :=
  if 0 ≤ a1 ∧ a1 < 12 then (if (h 14 (Int.toNat (a1))) = 0 then (if 0 ≤ a1 ∧ a1 < 12 then (fX10_acts_44 N  a1 (h 15 (Int.toNat (a1))) (h 0 36) h) else none) else (if 0 ≤ a1 ∧ a1 < 12 then (if (h 14 (Int.toNat (a1))) = 1 then (if 0 ≤ a1 ∧ a1 < 12 then (fX10_acts_44 N  a1 (pv_w (-(h 15 (Int.toNat (a1))))) (h 0 36) h) else none) else (fX10_acts_44 N  a1 (0) (h 0 36) h)) else none)) else none

set_option maxHeartbeats 4000000 in
set_option maxRecDepth 20000 in
theorem tX10_acts_92 {d N : Nat}  {a1 : Int} {s0 : Int} {s1 : Int} {h h' : pv_H}  (hd : 1 ≤ d)    (hf : fX10_acts_92 N  a1 s0 s1 h = some h') : EV RX10 cX10_acts 2 none false d pv_SM (MM h') none 92 [none, none] [.inl (s0), .inl (s1), .inr (.inr (0))] pv_SM (MM h) := by
  unfold fX10_acts_92 at hf
  refine EV.iadd dX10_acts_92 ?_
  obtain ⟨h13, eh13, hf⟩ := pv_bo hf
  refine FV.putI dX10_acts_93 sm_0 fl_10_300 rfl rfl eh13 ?_
  exact FV.vret dX10_acts_96 hf

set_option maxHeartbeats 4000000 in
set_option maxRecDepth 20000 in
theorem tX10_acts_64 {d N : Nat}  {a1 : Int} {s0 : Int} {h h' : pv_H}  (hd : 1 ≤ d)    (hf : fX10_acts_64 N  a1 s0 h = some h') : EV RX10 cX10_acts 2 none false d pv_SM (MM h') none 64 [some (.inr (.inr (0))), some (.inl (a1))] [.inl (s0), .inr (.inr (0))] pv_SM (MM h) := by
  unfold fX10_acts_64 at hf
  obtain ⟨h9, eh9, hf⟩ := pv_bo hf
  refine FV.putI dX10_acts_64 sm_0 fl_10_297 rfl rfl eh9 ?_
  refine EV.aload_n dX10_acts_67 rfl rfl ?_
  refine EV.dup dX10_acts_68 rfl ?_
  refine FV.getI dX10_acts_69 sm_0 fl_10_300 rfl ?_
  refine EV.aload_n dX10_acts_72 rfl rfl ?_
  refine FV.getF (v := 14) dX10_acts_73 sm_0 fl_10_57 rfl rfl hvm_0_33 ?_
  refine EV.iload_n dX10_acts_76 rfl rfl ?_
  obtain ⟨g10, hf⟩ := pv_gd hf
  refine FV.iald dX10_acts_77 sm_14 g10.1 g10.2 (j := (Int.toNat (a1))) rfl ?_
  refine EV.iconst dX10_acts_78 (by decide) (by decide) ?_
  refine EV.icmp_ne (tgt := 91) dX10_acts_79 (by decide) (fun q11 => ?_) (fun q11 => ?_)
  · have hf := pv_gn hf q11
    refine EV.iconst dX10_acts_91 (by decide) (by decide) ?_
    refine EV.weak (L2 := [none, none]) trivial ?_
    exact tX10_acts_92 hd    hf
  · have hf := pv_gp hf q11
    refine EV.aload_n dX10_acts_82 rfl rfl ?_
    refine FV.getF (v := 15) dX10_acts_83 sm_0 fl_10_60 rfl rfl hvm_0_34 ?_
    refine EV.iload_n dX10_acts_86 rfl rfl ?_
    obtain ⟨g12, hf⟩ := pv_gd hf
    refine FV.iald dX10_acts_87 sm_15 g12.1 g12.2 (j := (Int.toNat (a1))) rfl ?_
    refine EV.goto (tgt := 92) dX10_acts_88 (by decide) ?_
    refine EV.weak (L2 := [none, none]) trivial ?_
    exact tX10_acts_92 hd    hf

set_option maxHeartbeats 4000000 in
set_option maxRecDepth 20000 in
theorem tX10_acts_44 {d N : Nat}  {a1 : Int} {s0 : Int} {s1 : Int} {h h' : pv_H}  (hd : 1 ≤ d)    (hf : fX10_acts_44 N  a1 s0 s1 h = some h') : EV RX10 cX10_acts 2 none false d pv_SM (MM h') none 44 [some (.inr (.inr (0))), some (.inl (a1))] [.inl (s0), .inl (s1), .inr (.inr (0))] pv_SM (MM h) := by
  unfold fX10_acts_44 at hf
  refine EV.iadd dX10_acts_44 ?_
  obtain ⟨h7, eh7, hf⟩ := pv_bo hf
  refine FV.putI dX10_acts_45 sm_0 fl_10_297 rfl rfl eh7 ?_
  refine EV.aload_n dX10_acts_48 rfl rfl ?_
  refine EV.aload_n dX10_acts_49 rfl rfl ?_
  refine FV.getI dX10_acts_50 sm_0 fl_10_297 rfl ?_
  refine EV.if_ge (tgt := 60) dX10_acts_53 (by decide) (fun q8 => ?_) (fun q8 => ?_)
  · have hf := pv_gp hf q8
    refine EV.aload_n dX10_acts_60 rfl rfl ?_
    refine FV.getI dX10_acts_61 sm_0 fl_10_297 rfl ?_
    refine EV.weak (L2 := [some (.inr (.inr (0))), some (.inl (a1))]) (And.intro rfl (And.intro rfl trivial)) ?_
    exact tX10_acts_64 hd    hf
  · have hf := pv_gn hf q8
    refine EV.iconst dX10_acts_56 (by decide) (by decide) ?_
    refine EV.goto (tgt := 64) dX10_acts_57 (by decide) ?_
    refine EV.weak (L2 := [some (.inr (.inr (0))), some (.inl (a1))]) (And.intro rfl (And.intro rfl trivial)) ?_
    exact tX10_acts_64 hd    hf

set_option maxHeartbeats 4000000 in
set_option maxRecDepth 20000 in
theorem tX10_acts {d N : Nat} {a1 : Int} {h h' : pv_H}  (hd : 1 ≤ d)  (hf : fX10_acts N a1 h = some h') : CALL yX10_acts cX10_acts 2 none d pv_SM (MM h) [.inr (.inr (0)), .inl (a1)] pv_SM (MM h') none := by
  unfold fX10_acts at hf
  refine EV.call (own := RX10) (ini := false) rfl rfl (fun q => by cases q) ⟨[], (List.append_nil _).symm⟩ (Nat.le_of_ble_eq_true rfl) ?_
  refine EV.eqL (L2 := [some (.inr (.inr (0))), some (.inl (a1))]) rfl ?_
  refine EV.aload_n dX10_acts_0 rfl rfl ?_
  refine EV.dup dX10_acts_1 rfl ?_
  refine FV.getI dX10_acts_2 sm_0 fl_10_297 rfl ?_
  refine EV.aload_n dX10_acts_5 rfl rfl ?_
  refine FV.getF (v := 14) dX10_acts_6 sm_0 fl_10_57 rfl rfl hvm_0_33 ?_
  refine EV.iload_n dX10_acts_9 rfl rfl ?_
  obtain ⟨g1, hf⟩ := pv_gd hf
  refine FV.iald dX10_acts_10 sm_14 g1.1 g1.2 (j := (Int.toNat (a1))) rfl ?_
  refine EV.if_ne (tgt := 23) dX10_acts_11 (by decide) (fun q2 => ?_) (fun q2 => ?_)
  · have hf := pv_gn hf q2
    refine EV.aload_n dX10_acts_23 rfl rfl ?_
    refine FV.getF (v := 14) dX10_acts_24 sm_0 fl_10_57 rfl rfl hvm_0_33 ?_
    refine EV.iload_n dX10_acts_27 rfl rfl ?_
    obtain ⟨g3, hf⟩ := pv_gd hf
    refine FV.iald dX10_acts_28 sm_14 g3.1 g3.2 (j := (Int.toNat (a1))) rfl ?_
    refine EV.iconst dX10_acts_29 (by decide) (by decide) ?_
    refine EV.icmp_ne (tgt := 43) dX10_acts_30 (by decide) (fun q4 => ?_) (fun q4 => ?_)
    · have hf := pv_gn hf q4
      refine EV.iconst dX10_acts_43 (by decide) (by decide) ?_
      refine EV.weak (L2 := [some (.inr (.inr (0))), some (.inl (a1))]) (And.intro rfl (And.intro rfl trivial)) ?_
      exact tX10_acts_44 hd    hf
    · have hf := pv_gp hf q4
      refine EV.aload_n dX10_acts_33 rfl rfl ?_
      refine FV.getF (v := 15) dX10_acts_34 sm_0 fl_10_60 rfl rfl hvm_0_34 ?_
      refine EV.iload_n dX10_acts_37 rfl rfl ?_
      obtain ⟨g5, hf⟩ := pv_gd hf
      refine FV.iald dX10_acts_38 sm_15 g5.1 g5.2 (j := (Int.toNat (a1))) rfl ?_
      refine EV.ineg dX10_acts_39 ?_
      refine EV.goto (tgt := 44) dX10_acts_40 (by decide) ?_
      refine EV.weak (L2 := [some (.inr (.inr (0))), some (.inl (a1))]) (And.intro rfl (And.intro rfl trivial)) ?_
      exact tX10_acts_44 hd    hf
  · have hf := pv_gp hf q2
    refine EV.aload_n dX10_acts_14 rfl rfl ?_
    refine FV.getF (v := 15) dX10_acts_15 sm_0 fl_10_60 rfl rfl hvm_0_34 ?_
    refine EV.iload_n dX10_acts_18 rfl rfl ?_
    obtain ⟨g6, hf⟩ := pv_gd hf
    refine FV.iald dX10_acts_19 sm_15 g6.1 g6.2 (j := (Int.toNat (a1))) rfl ?_
    refine EV.goto (tgt := 44) dX10_acts_20 (by decide) ?_
    refine EV.weak (L2 := [some (.inr (.inr (0))), some (.inl (a1))]) (And.intro rfl (And.intro rfl trivial)) ?_
    exact tX10_acts_44 hd    hf

noncomputable def fX10_laysTicks_125 (N : Nat) (k22 : Int → pv_H → Option (pv_H))  (v1 : Int) (h : pv_H) : Option (pv_H) :=
  pv_b (pv_w (v1 + 1)) fun x16 => k22 (x16) h

noncomputable def fX10_laysTicks_106 (N : Nat) (k22 : Int → pv_H → Option (pv_H)) (k32 : Int → Int → pv_H → Option (pv_H))  (v1 : Int) (v2 : Int) (s0 : Int) (h : pv_H) : Option (pv_H) :=
  pv_b (pv_up h 0 30 s0) fun h17 => pv_b (pv_up h17 0 29 (pv_w ((h17 0 29) + 1))) fun h18 => pv_b (pv_w (v2 + 1)) fun x19 => k32 (v1) (x19) h18

noncomputable def fX10_laysTicks_32 (N : Nat) (k22 : Int → pv_H → Option (pv_H))  : Nat → Int → Int → pv_H → Option (pv_H)
  | 0, _, _, _ => none
  | n + 1, v1, v2, h => if 0 ≤ v1 ∧ v1 < 12 then (if (h 16 (Int.toNat (v1))) ≤ v2 then (fX10_laysTicks_125 N (k22)  (v1) h) else (if 4000 ≤ (h 0 29) then (fX10_laysTicks_125 N (k22)  (v1) h) else (pv_c1 (fX10_acts N v1 h) fun h10 => if 0 ≤ h10 0 29 ∧ h10 0 29 < 4000 then (pv_b (pv_up h10 12 (Int.toNat (h10 0 29)) (h10 0 36)) fun h12 => if 0 ≤ h12 0 29 ∧ h12 0 29 < 4000 then (pv_b (pv_up h12 13 (Int.toNat (h12 0 29)) (h12 0 37)) fun h14 => if (h14 0 36) ≤ (h14 0 30) then (fX10_laysTicks_106 N (k22) (fun v1_ v2_ hh => fX10_laysTicks_32 N k22  n v1_ v2_ hh)  (v1) (v2) (h14 0 30) h14) else (fX10_laysTicks_106 N (k22) (fun v1_ v2_ hh => fX10_laysTicks_32 N k22  n v1_ v2_ hh)  (v1) (v2) (h14 0 36) h14)) else none) else none))) else none

noncomputable def fX10_laysTicks_22 (N : Nat)   : Nat → Int → pv_H → Option (pv_H)
  | 0, _, _ => none
  | n + 1, v1, h => if (h 0 27) ≤ v1 then (some h) else (fX10_laysTicks_32 N (fun v1_ hh => fX10_laysTicks_22 N   n v1_ hh)  N (v1) (0) h)

noncomputable def fX10_laysTicks (N : Nat)  (h : pv_H) : Option (pv_H) :=
  pv_b (pv_up h 0 36 0) fun h1 => pv_b (pv_up h1 0 37 0) fun h2 => pv_b (pv_up h2 0 29 0) fun h3 => pv_b (pv_up h3 0 30 0) fun h4 => fX10_laysTicks_22 N   N (0) h4

set_option maxHeartbeats 4000000 in
set_option maxRecDepth 20000 in
theorem tX10_laysTicks_125 {d N : Nat} {k22 : Int → pv_H → Option (pv_H)}  {v1 : Int} {h h' : pv_H}  (hd : 2 ≤ d) (hk22 : ∀ (v1 : Int)  (hh : pv_H), k22 v1 hh = some h' → EV RX10 cX10_laysTicks 3 none false d pv_SM (MM h') none 22 [some (.inr (.inr (0))), some (.inl (v1)), none] [] pv_SM (MM hh))   (hf : fX10_laysTicks_125 N k22  v1 h = some h') : EV RX10 cX10_laysTicks 3 none false d pv_SM (MM h') none 125 [some (.inr (.inr (0))), some (.inl (v1)), none] [] pv_SM (MM h) := by
  unfold fX10_laysTicks_125 at hf
  obtain ⟨x16, ex16, hf⟩ := pv_bo hf
  refine FV.inc (L2 := [some (.inr (.inr (0))), some (.inl (x16)), none]) dX10_laysTicks_125 rfl (Nat.le_of_ble_eq_true rfl) ex16 rfl ?_
  refine EV.goto (tgt := 22) dX10_laysTicks_128 (by decide) ?_
  refine EV.weak (L2 := [some (.inr (.inr (0))), some (.inl (x16)), none]) (And.intro rfl (And.intro rfl trivial)) ?_
  exact hk22 _  _ hf

set_option maxHeartbeats 4000000 in
set_option maxRecDepth 20000 in
theorem tX10_laysTicks_106 {d N : Nat} {k22 : Int → pv_H → Option (pv_H)} {k32 : Int → Int → pv_H → Option (pv_H)}  {v1 : Int} {v2 : Int} {s0 : Int} {h h' : pv_H}  (hd : 2 ≤ d) (hk22 : ∀ (v1 : Int)  (hh : pv_H), k22 v1 hh = some h' → EV RX10 cX10_laysTicks 3 none false d pv_SM (MM h') none 22 [some (.inr (.inr (0))), some (.inl (v1)), none] [] pv_SM (MM hh)) (hk32 : ∀ (v1 : Int) (v2 : Int)  (hh : pv_H), k32 v1 v2 hh = some h' → EV RX10 cX10_laysTicks 3 none false d pv_SM (MM h') none 32 [some (.inr (.inr (0))), some (.inl (v1)), some (.inl (v2))] [] pv_SM (MM hh))   (hf : fX10_laysTicks_106 N k22 k32  v1 v2 s0 h = some h') : EV RX10 cX10_laysTicks 3 none false d pv_SM (MM h') none 106 [some (.inr (.inr (0))), some (.inl (v1)), some (.inl (v2))] [.inl (s0), .inr (.inr (0))] pv_SM (MM h) := by
  unfold fX10_laysTicks_106 at hf
  obtain ⟨h17, eh17, hf⟩ := pv_bo hf
  refine FV.putI dX10_laysTicks_106 sm_0 fl_10_306 rfl rfl eh17 ?_
  refine EV.aload_n dX10_laysTicks_109 rfl rfl ?_
  refine EV.dup dX10_laysTicks_110 rfl ?_
  refine FV.getI dX10_laysTicks_111 sm_0 fl_10_303 rfl ?_
  refine EV.iconst dX10_laysTicks_114 (by decide) (by decide) ?_
  refine EV.iadd dX10_laysTicks_115 ?_
  obtain ⟨h18, eh18, hf⟩ := pv_bo hf
  refine FV.putI dX10_laysTicks_116 sm_0 fl_10_303 rfl rfl eh18 ?_
  obtain ⟨x19, ex19, hf⟩ := pv_bo hf
  refine FV.inc (L2 := [some (.inr (.inr (0))), some (.inl (v1)), some (.inl (x19))]) dX10_laysTicks_119 rfl (Nat.le_of_ble_eq_true rfl) ex19 rfl ?_
  refine EV.goto (tgt := 32) dX10_laysTicks_122 (by decide) ?_
  refine EV.weak (L2 := [some (.inr (.inr (0))), some (.inl (v1)), some (.inl (x19))]) (And.intro rfl (And.intro rfl (And.intro rfl trivial))) ?_
  exact hk32 _ _  _ hf

set_option maxHeartbeats 4000000 in
set_option maxRecDepth 20000 in
theorem tX10_laysTicks_32 {d N : Nat} {k22 : Int → pv_H → Option (pv_H)}  {h' : pv_H}  (hd : 2 ≤ d) (hk22 : ∀ (v1 : Int)  (hh : pv_H), k22 v1 hh = some h' → EV RX10 cX10_laysTicks 3 none false d pv_SM (MM h') none 22 [some (.inr (.inr (0))), some (.inl (v1)), none] [] pv_SM (MM hh))  : ∀ (n : Nat) (v1 : Int) (v2 : Int)  (h : pv_H), fX10_laysTicks_32 N k22  n v1 v2 h = some h' → EV RX10 cX10_laysTicks 3 none false d pv_SM (MM h') none 32 [some (.inr (.inr (0))), some (.inl (v1)), some (.inl (v2))] [] pv_SM (MM h) := by
  intro n
  induction n with
  | zero =>
    intro v1 v2  h hf
    cases hf
  | succ n ih =>
    intro v1 v2  h hf
    rw [fX10_laysTicks_32] at hf
    refine EV.iload_n dX10_laysTicks_32 rfl rfl ?_
    refine EV.aload_n dX10_laysTicks_33 rfl rfl ?_
    refine FV.getF (v := 16) dX10_laysTicks_34 sm_0 fl_10_63 rfl rfl hvm_0_35 ?_
    refine EV.iload_n dX10_laysTicks_37 rfl rfl ?_
    obtain ⟨g6, hf⟩ := pv_gd hf
    refine FV.iald dX10_laysTicks_38 sm_16 g6.1 g6.2 (j := (Int.toNat (v1))) rfl ?_
    refine EV.icmp_ge (tgt := 125) dX10_laysTicks_39 (by decide) (fun q7 => ?_) (fun q7 => ?_)
    · have hf := pv_gp hf q7
      refine EV.weak (L2 := [some (.inr (.inr (0))), some (.inl (v1)), none]) (And.intro rfl (And.intro rfl trivial)) ?_
      exact tX10_laysTicks_125 hd (hk22)   hf
    · have hf := pv_gn hf q7
      refine EV.aload_n dX10_laysTicks_42 rfl rfl ?_
      refine FV.getI dX10_laysTicks_43 sm_0 fl_10_303 rfl ?_
      refine EV.sipush dX10_laysTicks_46 (by decide) (by decide) ?_
      refine EV.icmp_ge (tgt := 125) dX10_laysTicks_49 (by decide) (fun q8 => ?_) (fun q8 => ?_)
      · have hf := pv_gp hf q8
        refine EV.weak (L2 := [some (.inr (.inr (0))), some (.inl (v1)), none]) (And.intro rfl (And.intro rfl trivial)) ?_
        exact tX10_laysTicks_125 hd (hk22)   hf
      · have hf := pv_gn hf q8
        refine EV.aload_n dX10_laysTicks_52 rfl rfl ?_
        refine EV.iload_n dX10_laysTicks_53 rfl rfl ?_
        obtain ⟨h10, hc9, hf⟩ := pv_c1o hf
        refine EV.invV (As := [.inl (v1)]) (st := []) (d1 := d - 1) (sh1 := pv_SM) (h1 := MM h10) (r1 := none) dX10_laysTicks_54 sm_0 (by decide) md_X10_acts ml_X10_309 im_X10_acts se_X10_acts (tX10_acts (by omega)  hc9) (by omega) rfl rfl (Nat.le_of_ble_eq_true rfl) ⟨[], (List.append_nil _).symm⟩ ?_
        refine EV.aload_n dX10_laysTicks_57 rfl rfl ?_
        refine FV.getF (v := 12) dX10_laysTicks_58 sm_0 fl_10_51 rfl rfl hvm_0_31 ?_
        refine EV.aload_n dX10_laysTicks_61 rfl rfl ?_
        refine FV.getI dX10_laysTicks_62 sm_0 fl_10_303 rfl ?_
        refine EV.aload_n dX10_laysTicks_65 rfl rfl ?_
        refine FV.getI dX10_laysTicks_66 sm_0 fl_10_297 rfl ?_
        obtain ⟨g11, hf⟩ := pv_gd hf
        obtain ⟨h12, eh12, hf⟩ := pv_bo hf
        refine FV.iast dX10_laysTicks_69 sm_12 g11.1 g11.2 (j := (Int.toNat (h10 0 29))) rfl eh12 ?_
        refine EV.aload_n dX10_laysTicks_70 rfl rfl ?_
        refine FV.getF (v := 13) dX10_laysTicks_71 sm_0 fl_10_54 rfl rfl hvm_0_32 ?_
        refine EV.aload_n dX10_laysTicks_74 rfl rfl ?_
        refine FV.getI dX10_laysTicks_75 sm_0 fl_10_303 rfl ?_
        refine EV.aload_n dX10_laysTicks_78 rfl rfl ?_
        refine FV.getI dX10_laysTicks_79 sm_0 fl_10_300 rfl ?_
        obtain ⟨g13, hf⟩ := pv_gd hf
        obtain ⟨h14, eh14, hf⟩ := pv_bo hf
        refine FV.iast dX10_laysTicks_82 sm_13 g13.1 g13.2 (j := (Int.toNat (h12 0 29))) rfl eh14 ?_
        refine EV.aload_n dX10_laysTicks_83 rfl rfl ?_
        refine EV.aload_n dX10_laysTicks_84 rfl rfl ?_
        refine FV.getI dX10_laysTicks_85 sm_0 fl_10_297 rfl ?_
        refine EV.aload_n dX10_laysTicks_88 rfl rfl ?_
        refine FV.getI dX10_laysTicks_89 sm_0 fl_10_306 rfl ?_
        refine EV.icmp_le (tgt := 102) dX10_laysTicks_92 (by decide) (fun q15 => ?_) (fun q15 => ?_)
        · have hf := pv_gp hf q15
          refine EV.aload_n dX10_laysTicks_102 rfl rfl ?_
          refine FV.getI dX10_laysTicks_103 sm_0 fl_10_306 rfl ?_
          refine EV.weak (L2 := [some (.inr (.inr (0))), some (.inl (v1)), some (.inl (v2))]) (And.intro rfl (And.intro rfl (And.intro rfl trivial))) ?_
          exact tX10_laysTicks_106 hd (hk22) (ih)   hf
        · have hf := pv_gn hf q15
          refine EV.aload_n dX10_laysTicks_95 rfl rfl ?_
          refine FV.getI dX10_laysTicks_96 sm_0 fl_10_297 rfl ?_
          refine EV.goto (tgt := 106) dX10_laysTicks_99 (by decide) ?_
          refine EV.weak (L2 := [some (.inr (.inr (0))), some (.inl (v1)), some (.inl (v2))]) (And.intro rfl (And.intro rfl (And.intro rfl trivial))) ?_
          exact tX10_laysTicks_106 hd (hk22) (ih)   hf

set_option maxHeartbeats 4000000 in
set_option maxRecDepth 20000 in
theorem tX10_laysTicks_22 {d N : Nat}   {h' : pv_H}  (hd : 2 ≤ d)   : ∀ (n : Nat) (v1 : Int)  (h : pv_H), fX10_laysTicks_22 N   n v1 h = some h' → EV RX10 cX10_laysTicks 3 none false d pv_SM (MM h') none 22 [some (.inr (.inr (0))), some (.inl (v1)), none] [] pv_SM (MM h) := by
  intro n
  induction n with
  | zero =>
    intro v1  h hf
    cases hf
  | succ n ih =>
    intro v1  h hf
    rw [fX10_laysTicks_22] at hf
    refine EV.iload_n dX10_laysTicks_22 rfl rfl ?_
    refine EV.aload_n dX10_laysTicks_23 rfl rfl ?_
    refine FV.getI dX10_laysTicks_24 sm_0 fl_10_288 rfl ?_
    refine EV.icmp_ge (tgt := 131) dX10_laysTicks_27 (by decide) (fun q5 => ?_) (fun q5 => ?_)
    · have hf := pv_gp hf q5
      exact FV.vret dX10_laysTicks_131 hf
    · have hf := pv_gn hf q5
      refine EV.iconst dX10_laysTicks_30 (by decide) (by decide) ?_
      refine FV.sti (L2 := [some (.inr (.inr (0))), some (.inl (v1)), some (.inl (0))]) dX10_laysTicks_31 rfl (Nat.le_of_ble_eq_true rfl) rfl rfl ?_
      refine EV.weak (L2 := [some (.inr (.inr (0))), some (.inl (v1)), some (.inl (0))]) (And.intro rfl (And.intro rfl (And.intro rfl trivial))) ?_
      exact tX10_laysTicks_32 hd (ih)  _ _ _  _ hf

set_option maxHeartbeats 4000000 in
set_option maxRecDepth 20000 in
theorem tX10_laysTicks {d N : Nat}  {h h' : pv_H}  (hd : 2 ≤ d)  (hf : fX10_laysTicks N  h = some h') : CALL yX10_laysTicks cX10_laysTicks 3 none d pv_SM (MM h) [.inr (.inr (0))] pv_SM (MM h') none := by
  unfold fX10_laysTicks at hf
  refine EV.call (own := RX10) (ini := false) rfl rfl (fun q => by cases q) ⟨[], (List.append_nil _).symm⟩ (Nat.le_of_ble_eq_true rfl) ?_
  refine EV.eqL (L2 := [some (.inr (.inr (0))), none, none]) rfl ?_
  refine EV.aload_n dX10_laysTicks_0 rfl rfl ?_
  refine EV.iconst dX10_laysTicks_1 (by decide) (by decide) ?_
  obtain ⟨h1, eh1, hf⟩ := pv_bo hf
  refine FV.putI dX10_laysTicks_2 sm_0 fl_10_297 rfl rfl eh1 ?_
  refine EV.aload_n dX10_laysTicks_5 rfl rfl ?_
  refine EV.iconst dX10_laysTicks_6 (by decide) (by decide) ?_
  obtain ⟨h2, eh2, hf⟩ := pv_bo hf
  refine FV.putI dX10_laysTicks_7 sm_0 fl_10_300 rfl rfl eh2 ?_
  refine EV.aload_n dX10_laysTicks_10 rfl rfl ?_
  refine EV.iconst dX10_laysTicks_11 (by decide) (by decide) ?_
  obtain ⟨h3, eh3, hf⟩ := pv_bo hf
  refine FV.putI dX10_laysTicks_12 sm_0 fl_10_303 rfl rfl eh3 ?_
  refine EV.aload_n dX10_laysTicks_15 rfl rfl ?_
  refine EV.iconst dX10_laysTicks_16 (by decide) (by decide) ?_
  obtain ⟨h4, eh4, hf⟩ := pv_bo hf
  refine FV.putI dX10_laysTicks_17 sm_0 fl_10_306 rfl rfl eh4 ?_
  refine EV.iconst dX10_laysTicks_20 (by decide) (by decide) ?_
  refine FV.sti (L2 := [some (.inr (.inr (0))), some (.inl (0)), none]) dX10_laysTicks_21 rfl (Nat.le_of_ble_eq_true rfl) rfl rfl ?_
  refine EV.weak (L2 := [some (.inr (.inr (0))), some (.inl (0)), none]) (And.intro rfl (And.intro rfl trivial)) ?_
  exact tX10_laysTicks_22 hd   _ _  _ hf

noncomputable def fX10_does_29 (N : Nat)  (a1 : Int) (a2 : Int) : Nat → Int → Int → pv_H → Option (pv_H)
  | 0, _, _, _ => none
  | n + 1, v3, v4, h => if (h 0 27) ≤ v4 then (pv_c1 (fX10_laysTicks N  h) fun h7 => some h7) else (if 0 ≤ pv_w ((pv_w (v3 + 1)) + v4) ∧ pv_w ((pv_w (v3 + 1)) + v4) < 9159 then (if 0 ≤ v4 ∧ v4 < 12 then (pv_b (pv_up h 14 (Int.toNat (v4)) (h 2 (Int.toNat (pv_w ((pv_w (v3 + 1)) + v4))))) fun h10 => if 0 ≤ pv_w ((pv_w (v3 + 13)) + v4) ∧ pv_w ((pv_w (v3 + 13)) + v4) < 9159 then (if ¬ a2 = 0 then (if 0 ≤ v4 ∧ v4 < 12 then (pv_b (pv_up h10 15 (Int.toNat (v4)) (pv_w (Int.tdiv (h10 2 (Int.toNat (pv_w ((pv_w (v3 + 13)) + v4)))) a2))) fun h14 => if 0 ≤ pv_w ((pv_w (v3 + 25)) + v4) ∧ pv_w ((pv_w (v3 + 25)) + v4) < 9159 then (if 0 ≤ v4 ∧ v4 < 12 then (pv_b (pv_up h14 16 (Int.toNat (v4)) (pv_w ((h14 2 (Int.toNat (pv_w ((pv_w (v3 + 25)) + v4)))) * a2))) fun h17 => if 0 ≤ v4 ∧ v4 < 12 then (pv_b (pv_up h17 0 28 (pv_w ((h17 0 28) + (h17 16 (Int.toNat (v4)))))) fun h19 => pv_b (pv_w (v4 + 1)) fun x20 => fX10_does_29 N  a1 a2 n (v3) (x20) h19) else none) else none) else none) else none) else none) else none) else none) else none)

noncomputable def fX10_does (N : Nat) (a1 : Int) (a2 : Int) (h : pv_H) : Option (pv_H) :=
  pv_b (pv_w (968 + (pv_w (37 * a1)))) fun x1 => if 0 ≤ pv_w (x1 + 0) ∧ pv_w (x1 + 0) < 9159 then (pv_b (pv_up h 0 27 (h 2 (Int.toNat (pv_w (x1 + 0))))) fun h3 => pv_b (pv_up h3 0 28 0) fun h4 => fX10_does_29 N  a1 a2 N (x1) (0) h4) else none

set_option maxHeartbeats 4000000 in
set_option maxRecDepth 20000 in
theorem tX10_does_29 {d N : Nat}  {a1 : Int} {a2 : Int} {h' : pv_H}  (hd : 3 ≤ d)   : ∀ (n : Nat) (v3 : Int) (v4 : Int)  (h : pv_H), fX10_does_29 N  a1 a2 n v3 v4 h = some h' → EV RX10 cX10_does 5 none false d pv_SM (MM h') none 29 [some (.inr (.inr (0))), none, some (.inl (a2)), some (.inl (v3)), some (.inl (v4))] [] pv_SM (MM h) := by
  intro n
  induction n with
  | zero =>
    intro v3 v4  h hf
    cases hf
  | succ n ih =>
    intro v3 v4  h hf
    rw [fX10_does_29] at hf
    refine EV.iload dX10_does_29 rfl ?_
    refine EV.aload_n dX10_does_31 rfl rfl ?_
    refine FV.getI dX10_does_32 sm_0 fl_10_288 rfl ?_
    refine EV.icmp_ge (tgt := 120) dX10_does_35 (by decide) (fun q5 => ?_) (fun q5 => ?_)
    · have hf := pv_gp hf q5
      refine EV.aload_n dX10_does_120 rfl rfl ?_
      obtain ⟨h7, hc6, hf⟩ := pv_c1o hf
      refine EV.invV (As := []) (st := []) (d1 := d - 1) (sh1 := pv_SM) (h1 := MM h7) (r1 := none) dX10_does_121 sm_0 (by decide) md_X10_laysTicks ml_X10_294 im_X10_laysTicks se_X10_laysTicks (tX10_laysTicks (by omega)  hc6) (by omega) rfl rfl (Nat.le_of_ble_eq_true rfl) ⟨[], (List.append_nil _).symm⟩ ?_
      exact FV.vret dX10_does_124 hf
    · have hf := pv_gn hf q5
      refine EV.aload_n dX10_does_38 rfl rfl ?_
      refine FV.getF (v := 14) dX10_does_39 sm_0 fl_10_57 rfl rfl hvm_0_33 ?_
      refine EV.iload dX10_does_42 rfl ?_
      refine EV.aload_n dX10_does_44 rfl rfl ?_
      refine FV.getF (v := 2) dX10_does_45 sm_0 fl_10_17 rfl rfl hvm_0_2 ?_
      refine EV.iload_n dX10_does_48 rfl rfl ?_
      refine EV.iconst dX10_does_49 (by decide) (by decide) ?_
      refine EV.iadd dX10_does_50 ?_
      refine EV.iload dX10_does_51 rfl ?_
      refine EV.iadd dX10_does_53 ?_
      obtain ⟨g8, hf⟩ := pv_gd hf
      refine FV.iald dX10_does_54 sm_2 g8.1 g8.2 (j := (Int.toNat (pv_w ((pv_w (v3 + 1)) + v4)))) rfl ?_
      obtain ⟨g9, hf⟩ := pv_gd hf
      obtain ⟨h10, eh10, hf⟩ := pv_bo hf
      refine FV.iast dX10_does_55 sm_14 g9.1 g9.2 (j := (Int.toNat (v4))) rfl eh10 ?_
      refine EV.aload_n dX10_does_56 rfl rfl ?_
      refine FV.getF (v := 15) dX10_does_57 sm_0 fl_10_60 rfl rfl hvm_0_34 ?_
      refine EV.iload dX10_does_60 rfl ?_
      refine EV.aload_n dX10_does_62 rfl rfl ?_
      refine FV.getF (v := 2) dX10_does_63 sm_0 fl_10_17 rfl rfl hvm_0_2 ?_
      refine EV.iload_n dX10_does_66 rfl rfl ?_
      refine EV.bipush dX10_does_67 (by decide) (by decide) ?_
      refine EV.iadd dX10_does_69 ?_
      refine EV.iload dX10_does_70 rfl ?_
      refine EV.iadd dX10_does_72 ?_
      obtain ⟨g11, hf⟩ := pv_gd hf
      refine FV.iald dX10_does_73 sm_2 g11.1 g11.2 (j := (Int.toNat (pv_w ((pv_w (v3 + 13)) + v4)))) rfl ?_
      refine EV.iload_n dX10_does_74 rfl rfl ?_
      obtain ⟨g12, hf⟩ := pv_gd hf
      refine EV.idiv dX10_does_75 g12 ?_
      obtain ⟨g13, hf⟩ := pv_gd hf
      obtain ⟨h14, eh14, hf⟩ := pv_bo hf
      refine FV.iast dX10_does_76 sm_15 g13.1 g13.2 (j := (Int.toNat (v4))) rfl eh14 ?_
      refine EV.aload_n dX10_does_77 rfl rfl ?_
      refine FV.getF (v := 16) dX10_does_78 sm_0 fl_10_63 rfl rfl hvm_0_35 ?_
      refine EV.iload dX10_does_81 rfl ?_
      refine EV.aload_n dX10_does_83 rfl rfl ?_
      refine FV.getF (v := 2) dX10_does_84 sm_0 fl_10_17 rfl rfl hvm_0_2 ?_
      refine EV.iload_n dX10_does_87 rfl rfl ?_
      refine EV.bipush dX10_does_88 (by decide) (by decide) ?_
      refine EV.iadd dX10_does_90 ?_
      refine EV.iload dX10_does_91 rfl ?_
      refine EV.iadd dX10_does_93 ?_
      obtain ⟨g15, hf⟩ := pv_gd hf
      refine FV.iald dX10_does_94 sm_2 g15.1 g15.2 (j := (Int.toNat (pv_w ((pv_w (v3 + 25)) + v4)))) rfl ?_
      refine EV.iload_n dX10_does_95 rfl rfl ?_
      refine EV.imul dX10_does_96 ?_
      obtain ⟨g16, hf⟩ := pv_gd hf
      obtain ⟨h17, eh17, hf⟩ := pv_bo hf
      refine FV.iast dX10_does_97 sm_16 g16.1 g16.2 (j := (Int.toNat (v4))) rfl eh17 ?_
      refine EV.aload_n dX10_does_98 rfl rfl ?_
      refine EV.dup dX10_does_99 rfl ?_
      refine FV.getI dX10_does_100 sm_0 fl_10_291 rfl ?_
      refine EV.aload_n dX10_does_103 rfl rfl ?_
      refine FV.getF (v := 16) dX10_does_104 sm_0 fl_10_63 rfl rfl hvm_0_35 ?_
      refine EV.iload dX10_does_107 rfl ?_
      obtain ⟨g18, hf⟩ := pv_gd hf
      refine FV.iald dX10_does_109 sm_16 g18.1 g18.2 (j := (Int.toNat (v4))) rfl ?_
      refine EV.iadd dX10_does_110 ?_
      obtain ⟨h19, eh19, hf⟩ := pv_bo hf
      refine FV.putI dX10_does_111 sm_0 fl_10_291 rfl rfl eh19 ?_
      obtain ⟨x20, ex20, hf⟩ := pv_bo hf
      refine FV.inc (L2 := [some (.inr (.inr (0))), none, some (.inl (a2)), some (.inl (v3)), some (.inl (x20))]) dX10_does_114 rfl (Nat.le_of_ble_eq_true rfl) ex20 rfl ?_
      refine EV.goto (tgt := 29) dX10_does_117 (by decide) ?_
      refine EV.weak (L2 := [some (.inr (.inr (0))), none, some (.inl (a2)), some (.inl (v3)), some (.inl (x20))]) (And.intro rfl (And.intro rfl (And.intro rfl (And.intro rfl trivial)))) ?_
      exact ih _ _  _ hf

set_option maxHeartbeats 4000000 in
set_option maxRecDepth 20000 in
theorem tX10_does {d N : Nat} {a1 : Int} {a2 : Int} {h h' : pv_H}  (hd : 3 ≤ d)  (hf : fX10_does N a1 a2 h = some h') : CALL yX10_does cX10_does 5 none d pv_SM (MM h) [.inr (.inr (0)), .inl (a1), .inl (a2)] pv_SM (MM h') none := by
  unfold fX10_does at hf
  refine EV.call (own := RX10) (ini := false) rfl rfl (fun q => by cases q) ⟨[], (List.append_nil _).symm⟩ (Nat.le_of_ble_eq_true rfl) ?_
  refine EV.eqL (L2 := [some (.inr (.inr (0))), some (.inl (a1)), some (.inl (a2)), none, none]) rfl ?_
  refine EV.sipush dX10_does_0 (by decide) (by decide) ?_
  refine EV.bipush dX10_does_3 (by decide) (by decide) ?_
  refine EV.iload_n dX10_does_5 rfl rfl ?_
  refine EV.imul dX10_does_6 ?_
  refine EV.iadd dX10_does_7 ?_
  obtain ⟨x1, ex1, hf⟩ := pv_bo hf
  refine FV.sti (L2 := [some (.inr (.inr (0))), some (.inl (a1)), some (.inl (a2)), some (.inl (x1)), none]) dX10_does_8 rfl (Nat.le_of_ble_eq_true rfl) ex1 rfl ?_
  refine EV.aload_n dX10_does_9 rfl rfl ?_
  refine EV.aload_n dX10_does_10 rfl rfl ?_
  refine FV.getF (v := 2) dX10_does_11 sm_0 fl_10_17 rfl rfl hvm_0_2 ?_
  refine EV.iload_n dX10_does_14 rfl rfl ?_
  refine EV.iconst dX10_does_15 (by decide) (by decide) ?_
  refine EV.iadd dX10_does_16 ?_
  obtain ⟨g2, hf⟩ := pv_gd hf
  refine FV.iald dX10_does_17 sm_2 g2.1 g2.2 (j := (Int.toNat (pv_w (x1 + 0)))) rfl ?_
  obtain ⟨h3, eh3, hf⟩ := pv_bo hf
  refine FV.putI dX10_does_18 sm_0 fl_10_288 rfl rfl eh3 ?_
  refine EV.aload_n dX10_does_21 rfl rfl ?_
  refine EV.iconst dX10_does_22 (by decide) (by decide) ?_
  obtain ⟨h4, eh4, hf⟩ := pv_bo hf
  refine FV.putI dX10_does_23 sm_0 fl_10_291 rfl rfl eh4 ?_
  refine EV.iconst dX10_does_26 (by decide) (by decide) ?_
  refine FV.stiw (L2 := [some (.inr (.inr (0))), some (.inl (a1)), some (.inl (a2)), some (.inl (x1)), some (.inl (0))]) dX10_does_27 (Nat.le_of_ble_eq_true rfl) rfl rfl ?_
  refine EV.weak (L2 := [some (.inr (.inr (0))), none, some (.inl (a2)), some (.inl (x1)), some (.inl (0))]) (And.intro rfl (And.intro rfl (And.intro rfl (And.intro rfl trivial)))) ?_
  exact tX10_does_29 hd   _ _ _  _ hf

noncomputable def fX10_isDoing (N : Nat) (a0 : Int) (h : pv_H) : Option (Int) :=
  pv_c1 (fX10_within N a0 0 3 h) fun r2 => if r2 = 0 ∨ r2 = 1 then (some (r2)) else none

set_option maxHeartbeats 4000000 in
set_option maxRecDepth 20000 in
theorem tX10_isDoing {d N : Nat} {a0 : Int} {h : pv_H} {r : Int} (hd : 2 ≤ d)  (hf : fX10_isDoing N a0 h = some r) : CALL yX10_isDoing cX10_isDoing 1 (some .boolean) d pv_SM (MM h) [.inl (a0)] pv_SM (MM h) (some (.inl r)) := by
  unfold fX10_isDoing at hf
  refine EV.call (own := RX10) (ini := false) rfl rfl (fun q => by cases q) ⟨[], (List.append_nil _).symm⟩ (Nat.le_of_ble_eq_true rfl) ?_
  refine EV.eqL (L2 := [some (.inl (a0))]) rfl ?_
  refine EV.iload_n dX10_isDoing_0 rfl rfl ?_
  refine EV.i2l dX10_isDoing_1 ?_
  refine EV.lconst (x := 0) dX10_isDoing_2 (by decide) (by decide) (by decide) ?_
  refine EV.ldc2 (n := 3) dX10_isDoing_3 kl_X10_250 (by decide) (by decide) ?_
  obtain ⟨r2, hc1, hf⟩ := pv_c1o hf
  refine EV.invS (As := [.inr (.inl (a0)), .inr (.inl (0)), .inr (.inl (3))]) (st := []) (d1 := d - 1) (sh1 := pv_SM) (h1 := MM h) (r1 := (some (.inl r2))) dX10_isDoing_6 md_X10_within ml_X10_193 st_X10_within (tX10_within (by omega)  hc1) (by omega) rfl rfl (Nat.le_of_ble_eq_true rfl) ⟨[], (List.append_nil _).symm⟩ ?_
  refine EV.eqS (st2 := [.inl (r2)]) rfl ?_
  obtain ⟨g3, hf⟩ := pv_gd hf
  exact FV.zretp dX10_isDoing_9 g3 hf

noncomputable def fX10_bent_94 (N : Nat)  (a1 : Int) (a2 : Int) (a3 : Int) (s0 : Int) (h : pv_H) : Option (pv_H × Int) :=
  some (h, s0)

noncomputable def fX10_bent_62 (N : Nat)  (a1 : Int) (a2 : Int) (a3 : Int) (s0 : Int) (h : pv_H) : Option (pv_H × Int) :=
  if 0 ≤ s0 then (if a3 = 0 then (if 0 ≤ s0 ∧ s0 < 4000 then (fX10_bent_94 N  a1 a2 a3 (h 12 (Int.toNat (s0))) h) else none) else (if 0 ≤ s0 ∧ s0 < 4000 then (fX10_bent_94 N  a1 a2 a3 (h 13 (Int.toNat (s0))) h) else none)) else (fX10_bent_94 N  a1 a2 a3 (0) h)

noncomputable def fX10_bent (N : Nat) (a1 : Int) (a2 : Int) (a3 : Int) (h : pv_H) : Option (pv_H × Int) :=
  pv_b (pv_up h 0 0 0) fun h1 => pv_c1 (fX10_isDoing N a1 h1) fun r3 => if r3 = 0 then (pv_c2b (fX10_no N (-2) h1) fun h15 r16 => some (h15, r16)) else (pv_c1 (fX10_within N a2 0 3999 h1) fun r6 => if r6 = 0 then (pv_c2b (fX10_no N (-3) h1) fun h12 r13 => some (h12, r13)) else (pv_c1 (fX10_does N a1 1 h1) fun h9 => if (h9 0 29) ≤ a2 then (fX10_bent_62 N  a1 a2 a3 (pv_w ((h9 0 29) - 1)) h9) else (fX10_bent_62 N  a1 a2 a3 (a2) h9)))

set_option maxHeartbeats 4000000 in
set_option maxRecDepth 20000 in
theorem tX10_bent_94 {d N : Nat}  {a1 : Int} {a2 : Int} {a3 : Int} {s0 : Int} {h h' : pv_H} {r : Int} (hd : 4 ≤ d)    (hf : fX10_bent_94 N  a1 a2 a3 s0 h = some (h', r)) : EV RX10 cX10_bent 5 (some .int) false d pv_SM (MM h') (some (.inl r)) 94 [none, none, none, none, none] [.inl (s0)] pv_SM (MM h) := by
  unfold fX10_bent_94 at hf
  exact FV.iret dX10_bent_94 hf

set_option maxHeartbeats 4000000 in
set_option maxRecDepth 20000 in
theorem tX10_bent_62 {d N : Nat}  {a1 : Int} {a2 : Int} {a3 : Int} {s0 : Int} {h h' : pv_H} {r : Int} (hd : 4 ≤ d)    (hf : fX10_bent_62 N  a1 a2 a3 s0 h = some (h', r)) : EV RX10 cX10_bent 5 (some .int) false d pv_SM (MM h') (some (.inl r)) 62 [some (.inr (.inr (0))), none, none, some (.inl (a3)), none] [.inl (s0)] pv_SM (MM h) := by
  unfold fX10_bent_62 at hf
  refine FV.stiw (L2 := [some (.inr (.inr (0))), none, none, some (.inl (a3)), some (.inl (s0))]) dX10_bent_62 (Nat.le_of_ble_eq_true rfl) rfl rfl ?_
  refine EV.iload dX10_bent_64 rfl ?_
  refine EV.if_ge (tgt := 73) dX10_bent_66 (by decide) (fun q17 => ?_) (fun q17 => ?_)
  · have hf := pv_gp hf q17
    refine EV.iload_n dX10_bent_73 rfl rfl ?_
    refine EV.if_eq (tgt := 87) dX10_bent_74 (by decide) (fun q18 => ?_) (fun q18 => ?_)
    · have hf := pv_gp hf q18
      refine EV.aload_n dX10_bent_87 rfl rfl ?_
      refine FV.getF (v := 12) dX10_bent_88 sm_0 fl_10_51 rfl rfl hvm_0_31 ?_
      refine EV.iload dX10_bent_91 rfl ?_
      obtain ⟨g19, hf⟩ := pv_gd hf
      refine FV.iald dX10_bent_93 sm_12 g19.1 g19.2 (j := (Int.toNat (s0))) rfl ?_
      refine EV.weak (L2 := [none, none, none, none, none]) trivial ?_
      exact tX10_bent_94 hd    hf
    · have hf := pv_gn hf q18
      refine EV.aload_n dX10_bent_77 rfl rfl ?_
      refine FV.getF (v := 13) dX10_bent_78 sm_0 fl_10_54 rfl rfl hvm_0_32 ?_
      refine EV.iload dX10_bent_81 rfl ?_
      obtain ⟨g20, hf⟩ := pv_gd hf
      refine FV.iald dX10_bent_83 sm_13 g20.1 g20.2 (j := (Int.toNat (s0))) rfl ?_
      refine EV.goto (tgt := 94) dX10_bent_84 (by decide) ?_
      refine EV.weak (L2 := [none, none, none, none, none]) trivial ?_
      exact tX10_bent_94 hd    hf
  · have hf := pv_gn hf q17
    refine EV.iconst dX10_bent_69 (by decide) (by decide) ?_
    refine EV.goto (tgt := 94) dX10_bent_70 (by decide) ?_
    refine EV.weak (L2 := [none, none, none, none, none]) trivial ?_
    exact tX10_bent_94 hd    hf

set_option maxHeartbeats 4000000 in
set_option maxRecDepth 20000 in
theorem tX10_bent {d N : Nat} {a1 : Int} {a2 : Int} {a3 : Int} {h h' : pv_H} {r : Int} (hd : 4 ≤ d)  (hf : fX10_bent N a1 a2 a3 h = some (h', r)) : CALL yX10_bent cX10_bent 5 (some .int) d pv_SM (MM h) [.inr (.inr (0)), .inl (a1), .inl (a2), .inl (a3)] pv_SM (MM h') (some (.inl r)) := by
  unfold fX10_bent at hf
  refine EV.call (own := RX10) (ini := false) rfl rfl (fun q => by cases q) ⟨[], (List.append_nil _).symm⟩ (Nat.le_of_ble_eq_true rfl) ?_
  refine EV.eqL (L2 := [some (.inr (.inr (0))), some (.inl (a1)), some (.inl (a2)), some (.inl (a3)), none]) rfl ?_
  refine EV.aload_n dX10_bent_0 rfl rfl ?_
  refine EV.iconst dX10_bent_1 (by decide) (by decide) ?_
  obtain ⟨h1, eh1, hf⟩ := pv_bo hf
  refine FV.putI dX10_bent_2 sm_0 fl_10_1 rfl rfl eh1 ?_
  refine EV.iload_n dX10_bent_5 rfl rfl ?_
  obtain ⟨r3, hc2, hf⟩ := pv_c1o hf
  refine EV.invS (As := [.inl (a1)]) (st := []) (d1 := d - 1) (sh1 := pv_SM) (h1 := MM h1) (r1 := (some (.inl r3))) dX10_bent_6 md_X10_isDoing ml_X10_312 st_X10_isDoing (tX10_isDoing (by omega)  hc2) (by omega) rfl rfl (Nat.le_of_ble_eq_true rfl) ⟨[], (List.append_nil _).symm⟩ ?_
  refine EV.eqS (st2 := [.inl (r3)]) rfl ?_
  refine EV.if_ne (tgt := 19) dX10_bent_9 (by decide) (fun q4 => ?_) (fun q4 => ?_)
  · have hf := pv_gn hf q4
    refine EV.iload_n dX10_bent_19 rfl rfl ?_
    refine EV.i2l dX10_bent_20 ?_
    refine EV.lconst (x := 0) dX10_bent_21 (by decide) (by decide) (by decide) ?_
    refine EV.ldc2 (n := 3999) dX10_bent_22 kl_X10_315 (by decide) (by decide) ?_
    obtain ⟨r6, hc5, hf⟩ := pv_c1o hf
    refine EV.invS (As := [.inr (.inl (a2)), .inr (.inl (0)), .inr (.inl (3999))]) (st := []) (d1 := d - 1) (sh1 := pv_SM) (h1 := MM h1) (r1 := (some (.inl r6))) dX10_bent_25 md_X10_within ml_X10_193 st_X10_within (tX10_within (by omega)  hc5) (by omega) rfl rfl (Nat.le_of_ble_eq_true rfl) ⟨[], (List.append_nil _).symm⟩ ?_
    refine EV.eqS (st2 := [.inl (r6)]) rfl ?_
    refine EV.if_ne (tgt := 38) dX10_bent_28 (by decide) (fun q7 => ?_) (fun q7 => ?_)
    · have hf := pv_gn hf q7
      refine EV.aload_n dX10_bent_38 rfl rfl ?_
      refine EV.iload_n dX10_bent_39 rfl rfl ?_
      refine EV.iconst dX10_bent_40 (by decide) (by decide) ?_
      obtain ⟨h9, hc8, hf⟩ := pv_c1o hf
      refine EV.invV (As := [.inl (a1), .inl (1)]) (st := []) (d1 := d - 1) (sh1 := pv_SM) (h1 := MM h9) (r1 := none) dX10_bent_41 sm_0 (by decide) md_X10_does ml_X10_317 im_X10_does se_X10_does (tX10_does (by omega)  hc8) (by omega) rfl rfl (Nat.le_of_ble_eq_true rfl) ⟨[], (List.append_nil _).symm⟩ ?_
      refine EV.iload_n dX10_bent_44 rfl rfl ?_
      refine EV.aload_n dX10_bent_45 rfl rfl ?_
      refine FV.getI dX10_bent_46 sm_0 fl_10_303 rfl ?_
      refine EV.icmp_ge (tgt := 56) dX10_bent_49 (by decide) (fun q10 => ?_) (fun q10 => ?_)
      · have hf := pv_gp hf q10
        refine EV.aload_n dX10_bent_56 rfl rfl ?_
        refine FV.getI dX10_bent_57 sm_0 fl_10_303 rfl ?_
        refine EV.iconst dX10_bent_60 (by decide) (by decide) ?_
        refine EV.isub dX10_bent_61 ?_
        refine EV.weak (L2 := [some (.inr (.inr (0))), none, none, some (.inl (a3)), none]) (And.intro rfl (And.intro rfl trivial)) ?_
        exact tX10_bent_62 hd    hf
      · have hf := pv_gn hf q10
        refine EV.iload_n dX10_bent_52 rfl rfl ?_
        refine EV.goto (tgt := 62) dX10_bent_53 (by decide) ?_
        refine EV.weak (L2 := [some (.inr (.inr (0))), none, none, some (.inl (a3)), none]) (And.intro rfl (And.intro rfl trivial)) ?_
        exact tX10_bent_62 hd    hf
    · have hf := pv_gp hf q7
      refine EV.aload_n dX10_bent_31 rfl rfl ?_
      refine EV.bipush dX10_bent_32 (by decide) (by decide) ?_
      obtain ⟨h12, r13, hc11, hf⟩ := pv_c2o hf
      refine EV.invV (As := [.inl (-3)]) (st := []) (d1 := d - 1) (sh1 := pv_SM) (h1 := MM h12) (r1 := (some (.inl r13))) dX10_bent_34 sm_0 (by decide) md_X10_no ml_X10_131 im_X10_no se_X10_no (tX10_no (by omega)  hc11) (by omega) rfl rfl (Nat.le_of_ble_eq_true rfl) ⟨[], (List.append_nil _).symm⟩ ?_
      refine EV.eqS (st2 := [.inl (r13)]) rfl ?_
      exact FV.iret dX10_bent_37 hf
  · have hf := pv_gp hf q4
    refine EV.aload_n dX10_bent_12 rfl rfl ?_
    refine EV.bipush dX10_bent_13 (by decide) (by decide) ?_
    obtain ⟨h15, r16, hc14, hf⟩ := pv_c2o hf
    refine EV.invV (As := [.inl (-2)]) (st := []) (d1 := d - 1) (sh1 := pv_SM) (h1 := MM h15) (r1 := (some (.inl r16))) dX10_bent_15 sm_0 (by decide) md_X10_no ml_X10_131 im_X10_no se_X10_no (tX10_no (by omega)  hc14) (by omega) rfl rfl (Nat.le_of_ble_eq_true rfl) ⟨[], (List.append_nil _).symm⟩ ?_
    refine EV.eqS (st2 := [.inl (r16)]) rfl ?_
    exact FV.iret dX10_bent_18 hf

noncomputable def fX10_loadBy_49 (N : Nat)  (a1 : Int) (a2 : Int) (s0 : Int) (s1 : Int) (h : pv_H) : Option (Int) :=
  some (pv_w (s1 + s0))

noncomputable def fX10_loadBy_32 (N : Nat)  (a1 : Int) (a2 : Int) (s0 : Int) (h : pv_H) : Option (Int) :=
  fX10_loadBy_49 N  a1 a2 (pv_w (Int.tdiv (pv_w (a2 * (h 2 1123))) 100)) (s0) h

noncomputable def fX10_loadBy (N : Nat) (a1 : Int) (a2 : Int) (h : pv_H) : Option (Int) :=
  if 0 ≤ a1 ∧ a1 < 60 then (if 0 ≤ a1 ∧ a1 < 60 then (if ¬ (pv_w (10 * (h 6 (Int.toNat (a1))))) = 0 then (if a1 = 0 then (fX10_loadBy_32 N  a1 a2 (pv_w (Int.tdiv (pv_w (a2 * (h 10 (Int.toNat (a1))))) (pv_w (10 * (h 6 (Int.toNat (a1))))))) h) else (if a1 = (pv_w ((h 0 19) - 1)) then (fX10_loadBy_32 N  a1 a2 (pv_w (Int.tdiv (pv_w (a2 * (h 10 (Int.toNat (a1))))) (pv_w (10 * (h 6 (Int.toNat (a1))))))) h) else (fX10_loadBy_49 N  a1 a2 (0) (pv_w (Int.tdiv (pv_w (a2 * (h 10 (Int.toNat (a1))))) (pv_w (10 * (h 6 (Int.toNat (a1))))))) h))) else none) else none) else none

set_option maxHeartbeats 4000000 in
set_option maxRecDepth 20000 in
theorem tX10_loadBy_49 {d N : Nat}  {a1 : Int} {a2 : Int} {s0 : Int} {s1 : Int} {h : pv_H} {r : Int} (hd : 1 ≤ d)    (hf : fX10_loadBy_49 N  a1 a2 s0 s1 h = some r) : EV RX10 cX10_loadBy 3 (some .int) false d pv_SM (MM h) (some (.inl r)) 49 [none, none, none] [.inl (s0), .inl (s1)] pv_SM (MM h) := by
  unfold fX10_loadBy_49 at hf
  refine EV.iadd dX10_loadBy_49 ?_
  exact FV.iretp dX10_loadBy_50 hf

set_option maxHeartbeats 4000000 in
set_option maxRecDepth 20000 in
theorem tX10_loadBy_32 {d N : Nat}  {a1 : Int} {a2 : Int} {s0 : Int} {h : pv_H} {r : Int} (hd : 1 ≤ d)    (hf : fX10_loadBy_32 N  a1 a2 s0 h = some r) : EV RX10 cX10_loadBy 3 (some .int) false d pv_SM (MM h) (some (.inl r)) 32 [some (.inr (.inr (0))), none, some (.inl (a2))] [.inl (s0)] pv_SM (MM h) := by
  unfold fX10_loadBy_32 at hf
  refine EV.iload_n dX10_loadBy_32 rfl rfl ?_
  refine EV.aload_n dX10_loadBy_33 rfl rfl ?_
  refine FV.getF (v := 2) dX10_loadBy_34 sm_0 fl_10_17 rfl rfl hvm_0_2 ?_
  refine EV.sipush dX10_loadBy_37 (by decide) (by decide) ?_
  refine FV.iald dX10_loadBy_40 sm_2 (by decide) (by decide) (j := 1123) rfl ?_
  refine EV.imul dX10_loadBy_41 ?_
  refine EV.bipush dX10_loadBy_42 (by decide) (by decide) ?_
  refine EV.idiv dX10_loadBy_44 (by decide) ?_
  refine EV.goto (tgt := 49) dX10_loadBy_45 (by decide) ?_
  refine EV.weak (L2 := [none, none, none]) trivial ?_
  exact tX10_loadBy_49 hd    hf

set_option maxHeartbeats 4000000 in
set_option maxRecDepth 20000 in
theorem tX10_loadBy {d N : Nat} {a1 : Int} {a2 : Int} {h : pv_H} {r : Int} (hd : 1 ≤ d)  (hf : fX10_loadBy N a1 a2 h = some r) : CALL yX10_loadBy cX10_loadBy 3 (some .int) d pv_SM (MM h) [.inr (.inr (0)), .inl (a1), .inl (a2)] pv_SM (MM h) (some (.inl r)) := by
  unfold fX10_loadBy at hf
  refine EV.call (own := RX10) (ini := false) rfl rfl (fun q => by cases q) ⟨[], (List.append_nil _).symm⟩ (Nat.le_of_ble_eq_true rfl) ?_
  refine EV.eqL (L2 := [some (.inr (.inr (0))), some (.inl (a1)), some (.inl (a2))]) rfl ?_
  refine EV.iload_n dX10_loadBy_0 rfl rfl ?_
  refine EV.aload_n dX10_loadBy_1 rfl rfl ?_
  refine FV.getF (v := 10) dX10_loadBy_2 sm_0 fl_10_45 rfl rfl hvm_0_25 ?_
  refine EV.iload_n dX10_loadBy_5 rfl rfl ?_
  obtain ⟨g1, hf⟩ := pv_gd hf
  refine FV.iald dX10_loadBy_6 sm_10 g1.1 g1.2 (j := (Int.toNat (a1))) rfl ?_
  refine EV.imul dX10_loadBy_7 ?_
  refine EV.bipush dX10_loadBy_8 (by decide) (by decide) ?_
  refine EV.aload_n dX10_loadBy_10 rfl rfl ?_
  refine FV.getF (v := 6) dX10_loadBy_11 sm_0 fl_10_33 rfl rfl hvm_0_21 ?_
  refine EV.iload_n dX10_loadBy_14 rfl rfl ?_
  obtain ⟨g2, hf⟩ := pv_gd hf
  refine FV.iald dX10_loadBy_15 sm_6 g2.1 g2.2 (j := (Int.toNat (a1))) rfl ?_
  refine EV.imul dX10_loadBy_16 ?_
  obtain ⟨g3, hf⟩ := pv_gd hf
  refine EV.idiv dX10_loadBy_17 g3 ?_
  refine EV.iload_n dX10_loadBy_18 rfl rfl ?_
  refine EV.if_eq (tgt := 32) dX10_loadBy_19 (by decide) (fun q4 => ?_) (fun q4 => ?_)
  · have hf := pv_gp hf q4
    refine EV.weak (L2 := [some (.inr (.inr (0))), none, some (.inl (a2))]) (And.intro rfl (And.intro rfl trivial)) ?_
    exact tX10_loadBy_32 hd    hf
  · have hf := pv_gn hf q4
    refine EV.iload_n dX10_loadBy_22 rfl rfl ?_
    refine EV.aload_n dX10_loadBy_23 rfl rfl ?_
    refine FV.getI dX10_loadBy_24 sm_0 fl_10_267 rfl ?_
    refine EV.iconst dX10_loadBy_27 (by decide) (by decide) ?_
    refine EV.isub dX10_loadBy_28 ?_
    refine EV.icmp_ne (tgt := 48) dX10_loadBy_29 (by decide) (fun q5 => ?_) (fun q5 => ?_)
    · have hf := pv_gn hf q5
      refine EV.iconst dX10_loadBy_48 (by decide) (by decide) ?_
      refine EV.weak (L2 := [none, none, none]) trivial ?_
      exact tX10_loadBy_49 hd    hf
    · have hf := pv_gp hf q5
      refine EV.weak (L2 := [some (.inr (.inr (0))), none, some (.inl (a2))]) (And.intro rfl (And.intro rfl trivial)) ?_
      exact tX10_loadBy_32 hd    hf

noncomputable def fX10_loadOf (N : Nat) (a1 : Int) (h : pv_H) : Option (Int) :=
  if 0 ≤ a1 ∧ a1 < 60 then (if (h 18 (Int.toNat (a1))) = 0 then (pv_c1 (fX10_loadBy N a1 (h 0 36) h) fun r4 => some (r4)) else (some (0))) else none

set_option maxHeartbeats 4000000 in
set_option maxRecDepth 20000 in
theorem tX10_loadOf {d N : Nat} {a1 : Int} {h : pv_H} {r : Int} (hd : 2 ≤ d)  (hf : fX10_loadOf N a1 h = some r) : CALL yX10_loadOf cX10_loadOf 2 (some .int) d pv_SM (MM h) [.inr (.inr (0)), .inl (a1)] pv_SM (MM h) (some (.inl r)) := by
  unfold fX10_loadOf at hf
  refine EV.call (own := RX10) (ini := false) rfl rfl (fun q => by cases q) ⟨[], (List.append_nil _).symm⟩ (Nat.le_of_ble_eq_true rfl) ?_
  refine EV.eqL (L2 := [some (.inr (.inr (0))), some (.inl (a1))]) rfl ?_
  refine EV.aload_n dX10_loadOf_0 rfl rfl ?_
  refine FV.getF (v := 18) dX10_loadOf_1 sm_0 fl_10_69 rfl rfl hvm_0_45 ?_
  refine EV.iload_n dX10_loadOf_4 rfl rfl ?_
  obtain ⟨g1, hf⟩ := pv_gd hf
  refine FV.zald dX10_loadOf_5 sm_18 g1.1 g1.2 (j := (Int.toNat (a1))) rfl ?_
  refine EV.if_eq (tgt := 11) dX10_loadOf_6 (by decide) (fun q2 => ?_) (fun q2 => ?_)
  · have hf := pv_gp hf q2
    refine EV.aload_n dX10_loadOf_11 rfl rfl ?_
    refine EV.iload_n dX10_loadOf_12 rfl rfl ?_
    refine EV.aload_n dX10_loadOf_13 rfl rfl ?_
    refine FV.getI dX10_loadOf_14 sm_0 fl_10_297 rfl ?_
    obtain ⟨r4, hc3, hf⟩ := pv_c1o hf
    refine EV.invV (As := [.inl (a1), .inl (h 0 36)]) (st := []) (d1 := d - 1) (sh1 := pv_SM) (h1 := MM h) (r1 := (some (.inl r4))) dX10_loadOf_17 sm_0 (by decide) md_X10_loadBy ml_X10_320 im_X10_loadBy se_X10_loadBy (tX10_loadBy (by omega)  hc3) (by omega) rfl rfl (Nat.le_of_ble_eq_true rfl) ⟨[], (List.append_nil _).symm⟩ ?_
    refine EV.eqS (st2 := [.inl (r4)]) rfl ?_
    exact FV.iretp dX10_loadOf_20 hf
  · have hf := pv_gn hf q2
    refine EV.iconst dX10_loadOf_9 (by decide) (by decide) ?_
    exact FV.iretp dX10_loadOf_10 hf

noncomputable def fX10_part (N : Nat) (a0 : Int) (a1 : Int) (h : pv_H) : Option (Int) :=
  some (pv_w (pv_wl (Int.tdiv (pv_wl (a0 * a1)) 100)))

set_option maxHeartbeats 4000000 in
set_option maxRecDepth 20000 in
theorem tX10_part {d N : Nat} {a0 : Int} {a1 : Int} {h : pv_H} {r : Int} (hd : 1 ≤ d)  (hf : fX10_part N a0 a1 h = some r) : CALL yX10_part cX10_part 2 (some .int) d pv_SM (MM h) [.inl (a0), .inl (a1)] pv_SM (MM h) (some (.inl r)) := by
  unfold fX10_part at hf
  refine EV.call (own := RX10) (ini := false) rfl rfl (fun q => by cases q) ⟨[], (List.append_nil _).symm⟩ (Nat.le_of_ble_eq_true rfl) ?_
  refine EV.eqL (L2 := [some (.inl (a0)), some (.inl (a1))]) rfl ?_
  refine EV.iload_n dX10_part_0 rfl rfl ?_
  refine EV.i2l dX10_part_1 ?_
  refine EV.iload_n dX10_part_2 rfl rfl ?_
  refine EV.i2l dX10_part_3 ?_
  refine EV.lmul dX10_part_4 ?_
  refine EV.ldc2 (n := 100) dX10_part_5 kl_X10_323 (by decide) (by decide) ?_
  refine EV.ldiv dX10_part_8 (by decide) ?_
  refine EV.l2i dX10_part_9 ?_
  exact FV.iretp dX10_part_10 hf

noncomputable def fX10_begins_70 (N : Nat)  (a1 : Int) (a2 : Int) (a3 : Int) (a4 : Int) (a5 : Int) (s0 : Int) (s1 : Int) (h : pv_H) : Option (pv_H) :=
  if 0 ≤ s1 ∧ s1 < 200 then (pv_b (pv_up h 29 (Int.toNat (s1)) s0) fun h12 => if 0 ≤ h12 0 39 ∧ h12 0 39 < 200 then (pv_b (pv_up h12 30 (Int.toNat (h12 0 39)) 0) fun h14 => if 0 ≤ h14 0 39 ∧ h14 0 39 < 200 then (pv_b (pv_up h14 31 (Int.toNat (h14 0 39)) a4) fun h16 => if 0 ≤ h16 0 39 ∧ h16 0 39 < 200 then (pv_b (pv_up h16 19 (Int.toNat (h16 0 39)) 1) fun h18 => pv_b (pv_up h18 0 39 (pv_w ((h18 0 39) + 1))) fun h19 => some h19) else none) else none) else none) else none

noncomputable def fX10_begins (N : Nat) (a1 : Int) (a2 : Int) (a3 : Int) (a4 : Int) (a5 : Int) (h : pv_H) : Option (pv_H) :=
  if (h 0 39) = 200 then (some h) else (if 0 ≤ h 0 39 ∧ h 0 39 < 200 then (pv_b (pv_up h 25 (Int.toNat (h 0 39)) a1) fun h3 => if 0 ≤ h3 0 39 ∧ h3 0 39 < 200 then (pv_b (pv_up h3 26 (Int.toNat (h3 0 39)) a2) fun h5 => if 0 ≤ h5 0 39 ∧ h5 0 39 < 200 then (pv_b (pv_up h5 27 (Int.toNat (h5 0 39)) a3) fun h7 => if 0 ≤ h7 0 39 ∧ h7 0 39 < 200 then (pv_b (pv_up h7 28 (Int.toNat (h7 0 39)) a4) fun h9 => if a5 = 0 then (fX10_begins_70 N  a1 a2 a3 a4 a5 (0) (h9 0 39) h9) else (fX10_begins_70 N  a1 a2 a3 a4 a5 (1) (h9 0 39) h9)) else none) else none) else none) else none)

set_option maxHeartbeats 4000000 in
set_option maxRecDepth 20000 in
theorem tX10_begins_70 {d N : Nat}  {a1 : Int} {a2 : Int} {a3 : Int} {a4 : Int} {a5 : Int} {s0 : Int} {s1 : Int} {h h' : pv_H}  (hd : 1 ≤ d)    (hf : fX10_begins_70 N  a1 a2 a3 a4 a5 s0 s1 h = some h') : EV RX10 cX10_begins 6 none false d pv_SM (MM h') none 70 [some (.inr (.inr (0))), none, none, none, some (.inl (a4)), none] [.inl (s0), .inl (s1), .inr (.inr (29))] pv_SM (MM h) := by
  unfold fX10_begins_70 at hf
  obtain ⟨g11, hf⟩ := pv_gd hf
  obtain ⟨h12, eh12, hf⟩ := pv_bo hf
  refine FV.iast dX10_begins_70 sm_29 g11.1 g11.2 (j := (Int.toNat (s1))) rfl eh12 ?_
  refine EV.aload_n dX10_begins_71 rfl rfl ?_
  refine FV.getF (v := 30) dX10_begins_72 sm_0 fl_10_105 rfl rfl hvm_0_57 ?_
  refine EV.aload_n dX10_begins_75 rfl rfl ?_
  refine FV.getI dX10_begins_76 sm_0 fl_10_325 rfl ?_
  refine EV.iconst dX10_begins_79 (by decide) (by decide) ?_
  obtain ⟨g13, hf⟩ := pv_gd hf
  obtain ⟨h14, eh14, hf⟩ := pv_bo hf
  refine FV.iast dX10_begins_80 sm_30 g13.1 g13.2 (j := (Int.toNat (h12 0 39))) rfl eh14 ?_
  refine EV.aload_n dX10_begins_81 rfl rfl ?_
  refine FV.getF (v := 31) dX10_begins_82 sm_0 fl_10_108 rfl rfl hvm_0_58 ?_
  refine EV.aload_n dX10_begins_85 rfl rfl ?_
  refine FV.getI dX10_begins_86 sm_0 fl_10_325 rfl ?_
  refine EV.iload dX10_begins_89 rfl ?_
  obtain ⟨g15, hf⟩ := pv_gd hf
  obtain ⟨h16, eh16, hf⟩ := pv_bo hf
  refine FV.iast dX10_begins_91 sm_31 g15.1 g15.2 (j := (Int.toNat (h14 0 39))) rfl eh16 ?_
  refine EV.aload_n dX10_begins_92 rfl rfl ?_
  refine FV.getF (v := 19) dX10_begins_93 sm_0 fl_10_72 rfl rfl hvm_0_46 ?_
  refine EV.aload_n dX10_begins_96 rfl rfl ?_
  refine FV.getI dX10_begins_97 sm_0 fl_10_325 rfl ?_
  refine EV.iconst dX10_begins_100 (by decide) (by decide) ?_
  obtain ⟨g17, hf⟩ := pv_gd hf
  obtain ⟨h18, eh18, hf⟩ := pv_bo hf
  refine FV.zast dX10_begins_101 sm_19 g17.1 g17.2 (by decide) (j := (Int.toNat (h16 0 39))) rfl eh18 ?_
  refine EV.aload_n dX10_begins_102 rfl rfl ?_
  refine EV.dup dX10_begins_103 rfl ?_
  refine FV.getI dX10_begins_104 sm_0 fl_10_325 rfl ?_
  refine EV.iconst dX10_begins_107 (by decide) (by decide) ?_
  refine EV.iadd dX10_begins_108 ?_
  obtain ⟨h19, eh19, hf⟩ := pv_bo hf
  refine FV.putI dX10_begins_109 sm_0 fl_10_325 rfl rfl eh19 ?_
  exact FV.vret dX10_begins_112 hf

set_option maxHeartbeats 4000000 in
set_option maxRecDepth 20000 in
theorem tX10_begins {d N : Nat} {a1 : Int} {a2 : Int} {a3 : Int} {a4 : Int} {a5 : Int} {h h' : pv_H}  (hd : 1 ≤ d)  (hf : fX10_begins N a1 a2 a3 a4 a5 h = some h') : CALL yX10_begins cX10_begins 6 none d pv_SM (MM h) [.inr (.inr (0)), .inl (a1), .inl (a2), .inl (a3), .inl (a4), .inl (a5)] pv_SM (MM h') none := by
  unfold fX10_begins at hf
  refine EV.call (own := RX10) (ini := false) rfl rfl (fun q => by cases q) ⟨[], (List.append_nil _).symm⟩ (Nat.le_of_ble_eq_true rfl) ?_
  refine EV.eqL (L2 := [some (.inr (.inr (0))), some (.inl (a1)), some (.inl (a2)), some (.inl (a3)), some (.inl (a4)), some (.inl (a5))]) rfl ?_
  refine EV.aload_n dX10_begins_0 rfl rfl ?_
  refine FV.getI dX10_begins_1 sm_0 fl_10_325 rfl ?_
  refine EV.sipush dX10_begins_4 (by decide) (by decide) ?_
  refine EV.icmp_ne (tgt := 11) dX10_begins_7 (by decide) (fun q1 => ?_) (fun q1 => ?_)
  · have hf := pv_gn hf q1
    refine EV.aload_n dX10_begins_11 rfl rfl ?_
    refine FV.getF (v := 25) dX10_begins_12 sm_0 fl_10_90 rfl rfl hvm_0_52 ?_
    refine EV.aload_n dX10_begins_15 rfl rfl ?_
    refine FV.getI dX10_begins_16 sm_0 fl_10_325 rfl ?_
    refine EV.iload_n dX10_begins_19 rfl rfl ?_
    obtain ⟨g2, hf⟩ := pv_gd hf
    obtain ⟨h3, eh3, hf⟩ := pv_bo hf
    refine FV.iast dX10_begins_20 sm_25 g2.1 g2.2 (j := (Int.toNat (h 0 39))) rfl eh3 ?_
    refine EV.aload_n dX10_begins_21 rfl rfl ?_
    refine FV.getF (v := 26) dX10_begins_22 sm_0 fl_10_93 rfl rfl hvm_0_53 ?_
    refine EV.aload_n dX10_begins_25 rfl rfl ?_
    refine FV.getI dX10_begins_26 sm_0 fl_10_325 rfl ?_
    refine EV.iload_n dX10_begins_29 rfl rfl ?_
    obtain ⟨g4, hf⟩ := pv_gd hf
    obtain ⟨h5, eh5, hf⟩ := pv_bo hf
    refine FV.iast dX10_begins_30 sm_26 g4.1 g4.2 (j := (Int.toNat (h3 0 39))) rfl eh5 ?_
    refine EV.aload_n dX10_begins_31 rfl rfl ?_
    refine FV.getF (v := 27) dX10_begins_32 sm_0 fl_10_96 rfl rfl hvm_0_54 ?_
    refine EV.aload_n dX10_begins_35 rfl rfl ?_
    refine FV.getI dX10_begins_36 sm_0 fl_10_325 rfl ?_
    refine EV.iload_n dX10_begins_39 rfl rfl ?_
    obtain ⟨g6, hf⟩ := pv_gd hf
    obtain ⟨h7, eh7, hf⟩ := pv_bo hf
    refine FV.iast dX10_begins_40 sm_27 g6.1 g6.2 (j := (Int.toNat (h5 0 39))) rfl eh7 ?_
    refine EV.aload_n dX10_begins_41 rfl rfl ?_
    refine FV.getF (v := 28) dX10_begins_42 sm_0 fl_10_99 rfl rfl hvm_0_55 ?_
    refine EV.aload_n dX10_begins_45 rfl rfl ?_
    refine FV.getI dX10_begins_46 sm_0 fl_10_325 rfl ?_
    refine EV.iload dX10_begins_49 rfl ?_
    obtain ⟨g8, hf⟩ := pv_gd hf
    obtain ⟨h9, eh9, hf⟩ := pv_bo hf
    refine FV.iast dX10_begins_51 sm_28 g8.1 g8.2 (j := (Int.toNat (h7 0 39))) rfl eh9 ?_
    refine EV.aload_n dX10_begins_52 rfl rfl ?_
    refine FV.getF (v := 29) dX10_begins_53 sm_0 fl_10_102 rfl rfl hvm_0_56 ?_
    refine EV.aload_n dX10_begins_56 rfl rfl ?_
    refine FV.getI dX10_begins_57 sm_0 fl_10_325 rfl ?_
    refine EV.iload dX10_begins_60 rfl ?_
    refine EV.if_eq (tgt := 69) dX10_begins_62 (by decide) (fun q10 => ?_) (fun q10 => ?_)
    · have hf := pv_gp hf q10
      refine EV.iconst dX10_begins_69 (by decide) (by decide) ?_
      refine EV.weak (L2 := [some (.inr (.inr (0))), none, none, none, some (.inl (a4)), none]) (And.intro rfl (And.intro rfl trivial)) ?_
      exact tX10_begins_70 hd    hf
    · have hf := pv_gn hf q10
      refine EV.iconst dX10_begins_65 (by decide) (by decide) ?_
      refine EV.goto (tgt := 70) dX10_begins_66 (by decide) ?_
      refine EV.weak (L2 := [some (.inr (.inr (0))), none, none, none, some (.inl (a4)), none]) (And.intro rfl (And.intro rfl trivial)) ?_
      exact tX10_begins_70 hd    hf
  · have hf := pv_gp hf q1
    exact FV.vret dX10_begins_10 hf

noncomputable def fX10_breaks_134 (N : Nat)  (a1 : Int) (a2 : Int) (a3 : Int) (a4 : Int) (s0 : Int) (h : pv_H) : Option (pv_H) :=
  pv_c1 (fX10_begins N a1 0 a2 s0 0 h) fun h22 => pv_c1 (fX10_begins N a1 1 a2 s0 0 h22) fun h24 => some h24

noncomputable def fX10_breaks_81 (N : Nat)  (a1 : Int) (a2 : Int) (a3 : Int) (a4 : Int) (s0 : Int) (s1 : Int) (h : pv_H) : Option (pv_H) :=
  if 0 ≤ s1 ∧ s1 < 60 then (pv_b (pv_up h 22 (Int.toNat (s1)) s0) fun h14 => if 0 ≤ h14 0 38 ∧ h14 0 38 < 60 then (pv_b (pv_up h14 23 (Int.toNat (h14 0 38)) a4) fun h16 => pv_b (pv_up h16 0 38 (pv_w ((h16 0 38) + 1))) fun h17 => pv_c1 (fX10_part N a4 (h17 2 1116) h17) fun r19 => if r19 ≤ 1000000 then (fX10_breaks_134 N  a1 a2 a3 a4 (r19) h17) else (fX10_breaks_134 N  a1 a2 a3 a4 (1000000) h17)) else none) else none

noncomputable def fX10_breaks_57 (N : Nat)  (a1 : Int) (a2 : Int) (a3 : Int) (a4 : Int) (s0 : Int) (h : pv_H) : Option (pv_H) :=
  fX10_breaks_81 N  a1 a2 a3 a4 (3) (s0) h

noncomputable def fX10_breaks (N : Nat) (a1 : Int) (a2 : Int) (a3 : Int) (a4 : Int) (h : pv_H) : Option (pv_H) :=
  if 0 ≤ a1 ∧ a1 < 60 then (pv_b (pv_up h 17 (Int.toNat (a1)) 1) fun h2 => if 0 ≤ h2 0 38 ∧ h2 0 38 < 60 then (pv_b (pv_up h2 20 (Int.toNat (h2 0 38)) a1) fun h4 => if 0 ≤ h4 0 38 ∧ h4 0 38 < 60 then (pv_b (pv_up h4 21 (Int.toNat (h4 0 38)) a2) fun h6 => if a3 ≤ 0 then (if a1 = 0 then (fX10_breaks_57 N  a1 a2 a3 a4 (h6 0 38) h6) else (if a1 = (pv_w ((h6 0 19) - 1)) then (fX10_breaks_57 N  a1 a2 a3 a4 (h6 0 38) h6) else (if 0 ≤ a1 ∧ a1 < 60 then (if 0 ≤ a1 ∧ a1 < 60 then (if (h6 7 (Int.toNat (a1))) ≤ (h6 11 (Int.toNat (a1))) then (fX10_breaks_81 N  a1 a2 a3 a4 (0) (h6 0 38) h6) else (fX10_breaks_81 N  a1 a2 a3 a4 (4) (h6 0 38) h6)) else none) else none))) else (fX10_breaks_81 N  a1 a2 a3 a4 (a3) (h6 0 38) h6)) else none) else none) else none

set_option maxHeartbeats 4000000 in
set_option maxRecDepth 20000 in
theorem tX10_breaks_134 {d N : Nat}  {a1 : Int} {a2 : Int} {a3 : Int} {a4 : Int} {s0 : Int} {h h' : pv_H}  (hd : 2 ≤ d)    (hf : fX10_breaks_134 N  a1 a2 a3 a4 s0 h = some h') : EV RX10 cX10_breaks 6 none false d pv_SM (MM h') none 134 [some (.inr (.inr (0))), some (.inl (a1)), some (.inl (a2)), none, none, none] [.inl (s0)] pv_SM (MM h) := by
  unfold fX10_breaks_134 at hf
  refine FV.stiw (L2 := [some (.inr (.inr (0))), some (.inl (a1)), some (.inl (a2)), none, none, some (.inl (s0))]) dX10_breaks_134 (Nat.le_of_ble_eq_true rfl) rfl rfl ?_
  refine EV.aload_n dX10_breaks_136 rfl rfl ?_
  refine EV.iload_n dX10_breaks_137 rfl rfl ?_
  refine EV.iconst dX10_breaks_138 (by decide) (by decide) ?_
  refine EV.iload_n dX10_breaks_139 rfl rfl ?_
  refine EV.iload dX10_breaks_140 rfl ?_
  refine EV.iconst dX10_breaks_142 (by decide) (by decide) ?_
  obtain ⟨h22, hc21, hf⟩ := pv_c1o hf
  refine EV.invV (As := [.inl (a1), .inl (0), .inl (a2), .inl (s0), .inl (0)]) (st := []) (d1 := d - 1) (sh1 := pv_SM) (h1 := MM h22) (r1 := none) dX10_breaks_143 sm_0 (by decide) md_X10_begins ml_X10_335 im_X10_begins se_X10_begins (tX10_begins (by omega)  hc21) (by omega) rfl rfl (Nat.le_of_ble_eq_true rfl) ⟨[], (List.append_nil _).symm⟩ ?_
  refine EV.aload_n dX10_breaks_146 rfl rfl ?_
  refine EV.iload_n dX10_breaks_147 rfl rfl ?_
  refine EV.iconst dX10_breaks_148 (by decide) (by decide) ?_
  refine EV.iload_n dX10_breaks_149 rfl rfl ?_
  refine EV.iload dX10_breaks_150 rfl ?_
  refine EV.iconst dX10_breaks_152 (by decide) (by decide) ?_
  obtain ⟨h24, hc23, hf⟩ := pv_c1o hf
  refine EV.invV (As := [.inl (a1), .inl (1), .inl (a2), .inl (s0), .inl (0)]) (st := []) (d1 := d - 1) (sh1 := pv_SM) (h1 := MM h24) (r1 := none) dX10_breaks_153 sm_0 (by decide) md_X10_begins ml_X10_335 im_X10_begins se_X10_begins (tX10_begins (by omega)  hc23) (by omega) rfl rfl (Nat.le_of_ble_eq_true rfl) ⟨[], (List.append_nil _).symm⟩ ?_
  exact FV.vret dX10_breaks_156 hf

set_option maxHeartbeats 4000000 in
set_option maxRecDepth 20000 in
theorem tX10_breaks_81 {d N : Nat}  {a1 : Int} {a2 : Int} {a3 : Int} {a4 : Int} {s0 : Int} {s1 : Int} {h h' : pv_H}  (hd : 2 ≤ d)    (hf : fX10_breaks_81 N  a1 a2 a3 a4 s0 s1 h = some h') : EV RX10 cX10_breaks 6 none false d pv_SM (MM h') none 81 [some (.inr (.inr (0))), some (.inl (a1)), some (.inl (a2)), none, some (.inl (a4)), none] [.inl (s0), .inl (s1), .inr (.inr (22))] pv_SM (MM h) := by
  unfold fX10_breaks_81 at hf
  obtain ⟨g13, hf⟩ := pv_gd hf
  obtain ⟨h14, eh14, hf⟩ := pv_bo hf
  refine FV.iast dX10_breaks_81 sm_22 g13.1 g13.2 (j := (Int.toNat (s1))) rfl eh14 ?_
  refine EV.aload_n dX10_breaks_82 rfl rfl ?_
  refine FV.getF (v := 23) dX10_breaks_83 sm_0 fl_10_84 rfl rfl hvm_0_50 ?_
  refine EV.aload_n dX10_breaks_86 rfl rfl ?_
  refine FV.getI dX10_breaks_87 sm_0 fl_10_328 rfl ?_
  refine EV.iload dX10_breaks_90 rfl ?_
  obtain ⟨g15, hf⟩ := pv_gd hf
  obtain ⟨h16, eh16, hf⟩ := pv_bo hf
  refine FV.iast dX10_breaks_92 sm_23 g15.1 g15.2 (j := (Int.toNat (h14 0 38))) rfl eh16 ?_
  refine EV.aload_n dX10_breaks_93 rfl rfl ?_
  refine EV.dup dX10_breaks_94 rfl ?_
  refine FV.getI dX10_breaks_95 sm_0 fl_10_328 rfl ?_
  refine EV.iconst dX10_breaks_98 (by decide) (by decide) ?_
  refine EV.iadd dX10_breaks_99 ?_
  obtain ⟨h17, eh17, hf⟩ := pv_bo hf
  refine FV.putI dX10_breaks_100 sm_0 fl_10_328 rfl rfl eh17 ?_
  refine EV.iload dX10_breaks_103 rfl ?_
  refine EV.aload_n dX10_breaks_105 rfl rfl ?_
  refine FV.getF (v := 2) dX10_breaks_106 sm_0 fl_10_17 rfl rfl hvm_0_2 ?_
  refine EV.sipush dX10_breaks_109 (by decide) (by decide) ?_
  refine FV.iald dX10_breaks_112 sm_2 (by decide) (by decide) (j := 1116) rfl ?_
  obtain ⟨r19, hc18, hf⟩ := pv_c1o hf
  refine EV.invS (As := [.inl (a4), .inl (h17 2 1116)]) (st := []) (d1 := d - 1) (sh1 := pv_SM) (h1 := MM h17) (r1 := (some (.inl r19))) dX10_breaks_113 md_X10_part ml_X10_331 st_X10_part (tX10_part (by omega)  hc18) (by omega) rfl rfl (Nat.le_of_ble_eq_true rfl) ⟨[], (List.append_nil _).symm⟩ ?_
  refine EV.eqS (st2 := [.inl (r19)]) rfl ?_
  refine FV.stiw (L2 := [some (.inr (.inr (0))), some (.inl (a1)), some (.inl (a2)), none, some (.inl (a4)), some (.inl (r19))]) dX10_breaks_116 (Nat.le_of_ble_eq_true rfl) rfl rfl ?_
  refine EV.iload dX10_breaks_118 rfl ?_
  refine EV.ldcw (n := 1000000) dX10_breaks_120 kc_X10_334 (by decide) (by decide) ?_
  refine EV.icmp_le (tgt := 132) dX10_breaks_123 (by decide) (fun q20 => ?_) (fun q20 => ?_)
  · have hf := pv_gp hf q20
    refine EV.iload dX10_breaks_132 rfl ?_
    refine EV.weak (L2 := [some (.inr (.inr (0))), some (.inl (a1)), some (.inl (a2)), none, none, none]) (And.intro rfl (And.intro rfl (And.intro rfl trivial))) ?_
    exact tX10_breaks_134 hd    hf
  · have hf := pv_gn hf q20
    refine EV.ldcw (n := 1000000) dX10_breaks_126 kc_X10_334 (by decide) (by decide) ?_
    refine EV.goto (tgt := 134) dX10_breaks_129 (by decide) ?_
    refine EV.weak (L2 := [some (.inr (.inr (0))), some (.inl (a1)), some (.inl (a2)), none, none, none]) (And.intro rfl (And.intro rfl (And.intro rfl trivial))) ?_
    exact tX10_breaks_134 hd    hf

set_option maxHeartbeats 4000000 in
set_option maxRecDepth 20000 in
theorem tX10_breaks_57 {d N : Nat}  {a1 : Int} {a2 : Int} {a3 : Int} {a4 : Int} {s0 : Int} {h h' : pv_H}  (hd : 2 ≤ d)    (hf : fX10_breaks_57 N  a1 a2 a3 a4 s0 h = some h') : EV RX10 cX10_breaks 6 none false d pv_SM (MM h') none 57 [some (.inr (.inr (0))), some (.inl (a1)), some (.inl (a2)), none, some (.inl (a4)), none] [.inl (s0), .inr (.inr (22))] pv_SM (MM h) := by
  unfold fX10_breaks_57 at hf
  refine EV.iconst dX10_breaks_57 (by decide) (by decide) ?_
  refine EV.goto (tgt := 81) dX10_breaks_58 (by decide) ?_
  refine EV.weak (L2 := [some (.inr (.inr (0))), some (.inl (a1)), some (.inl (a2)), none, some (.inl (a4)), none]) (And.intro rfl (And.intro rfl (And.intro rfl (And.intro rfl trivial)))) ?_
  exact tX10_breaks_81 hd    hf

set_option maxHeartbeats 4000000 in
set_option maxRecDepth 20000 in
theorem tX10_breaks {d N : Nat} {a1 : Int} {a2 : Int} {a3 : Int} {a4 : Int} {h h' : pv_H}  (hd : 2 ≤ d)  (hf : fX10_breaks N a1 a2 a3 a4 h = some h') : CALL yX10_breaks cX10_breaks 6 none d pv_SM (MM h) [.inr (.inr (0)), .inl (a1), .inl (a2), .inl (a3), .inl (a4)] pv_SM (MM h') none := by
  unfold fX10_breaks at hf
  refine EV.call (own := RX10) (ini := false) rfl rfl (fun q => by cases q) ⟨[], (List.append_nil _).symm⟩ (Nat.le_of_ble_eq_true rfl) ?_
  refine EV.eqL (L2 := [some (.inr (.inr (0))), some (.inl (a1)), some (.inl (a2)), some (.inl (a3)), some (.inl (a4)), none]) rfl ?_
  refine EV.aload_n dX10_breaks_0 rfl rfl ?_
  refine FV.getF (v := 17) dX10_breaks_1 sm_0 fl_10_66 rfl rfl hvm_0_44 ?_
  refine EV.iload_n dX10_breaks_4 rfl rfl ?_
  refine EV.iconst dX10_breaks_5 (by decide) (by decide) ?_
  obtain ⟨g1, hf⟩ := pv_gd hf
  obtain ⟨h2, eh2, hf⟩ := pv_bo hf
  refine FV.zast dX10_breaks_6 sm_17 g1.1 g1.2 (by decide) (j := (Int.toNat (a1))) rfl eh2 ?_
  refine EV.aload_n dX10_breaks_7 rfl rfl ?_
  refine FV.getF (v := 20) dX10_breaks_8 sm_0 fl_10_75 rfl rfl hvm_0_47 ?_
  refine EV.aload_n dX10_breaks_11 rfl rfl ?_
  refine FV.getI dX10_breaks_12 sm_0 fl_10_328 rfl ?_
  refine EV.iload_n dX10_breaks_15 rfl rfl ?_
  obtain ⟨g3, hf⟩ := pv_gd hf
  obtain ⟨h4, eh4, hf⟩ := pv_bo hf
  refine FV.iast dX10_breaks_16 sm_20 g3.1 g3.2 (j := (Int.toNat (h2 0 38))) rfl eh4 ?_
  refine EV.aload_n dX10_breaks_17 rfl rfl ?_
  refine FV.getF (v := 21) dX10_breaks_18 sm_0 fl_10_78 rfl rfl hvm_0_48 ?_
  refine EV.aload_n dX10_breaks_21 rfl rfl ?_
  refine FV.getI dX10_breaks_22 sm_0 fl_10_328 rfl ?_
  refine EV.iload_n dX10_breaks_25 rfl rfl ?_
  obtain ⟨g5, hf⟩ := pv_gd hf
  obtain ⟨h6, eh6, hf⟩ := pv_bo hf
  refine FV.iast dX10_breaks_26 sm_21 g5.1 g5.2 (j := (Int.toNat (h4 0 38))) rfl eh6 ?_
  refine EV.aload_n dX10_breaks_27 rfl rfl ?_
  refine FV.getF (v := 22) dX10_breaks_28 sm_0 fl_10_81 rfl rfl hvm_0_49 ?_
  refine EV.aload_n dX10_breaks_31 rfl rfl ?_
  refine FV.getI dX10_breaks_32 sm_0 fl_10_328 rfl ?_
  refine EV.iload_n dX10_breaks_35 rfl rfl ?_
  refine EV.if_le (tgt := 43) dX10_breaks_36 (by decide) (fun q7 => ?_) (fun q7 => ?_)
  · have hf := pv_gp hf q7
    refine EV.iload_n dX10_breaks_43 rfl rfl ?_
    refine EV.if_eq (tgt := 57) dX10_breaks_44 (by decide) (fun q8 => ?_) (fun q8 => ?_)
    · have hf := pv_gp hf q8
      refine EV.weak (L2 := [some (.inr (.inr (0))), some (.inl (a1)), some (.inl (a2)), none, some (.inl (a4)), none]) (And.intro rfl (And.intro rfl (And.intro rfl (And.intro rfl trivial)))) ?_
      exact tX10_breaks_57 hd    hf
    · have hf := pv_gn hf q8
      refine EV.iload_n dX10_breaks_47 rfl rfl ?_
      refine EV.aload_n dX10_breaks_48 rfl rfl ?_
      refine FV.getI dX10_breaks_49 sm_0 fl_10_267 rfl ?_
      refine EV.iconst dX10_breaks_52 (by decide) (by decide) ?_
      refine EV.isub dX10_breaks_53 ?_
      refine EV.icmp_ne (tgt := 61) dX10_breaks_54 (by decide) (fun q9 => ?_) (fun q9 => ?_)
      · have hf := pv_gn hf q9
        refine EV.aload_n dX10_breaks_61 rfl rfl ?_
        refine FV.getF (v := 11) dX10_breaks_62 sm_0 fl_10_48 rfl rfl hvm_0_26 ?_
        refine EV.iload_n dX10_breaks_65 rfl rfl ?_
        obtain ⟨g10, hf⟩ := pv_gd hf
        refine FV.iald dX10_breaks_66 sm_11 g10.1 g10.2 (j := (Int.toNat (a1))) rfl ?_
        refine EV.aload_n dX10_breaks_67 rfl rfl ?_
        refine FV.getF (v := 7) dX10_breaks_68 sm_0 fl_10_36 rfl rfl hvm_0_22 ?_
        refine EV.iload_n dX10_breaks_71 rfl rfl ?_
        obtain ⟨g11, hf⟩ := pv_gd hf
        refine FV.iald dX10_breaks_72 sm_7 g11.1 g11.2 (j := (Int.toNat (a1))) rfl ?_
        refine EV.icmp_ge (tgt := 80) dX10_breaks_73 (by decide) (fun q12 => ?_) (fun q12 => ?_)
        · have hf := pv_gp hf q12
          refine EV.iconst dX10_breaks_80 (by decide) (by decide) ?_
          refine EV.weak (L2 := [some (.inr (.inr (0))), some (.inl (a1)), some (.inl (a2)), none, some (.inl (a4)), none]) (And.intro rfl (And.intro rfl (And.intro rfl (And.intro rfl trivial)))) ?_
          exact tX10_breaks_81 hd    hf
        · have hf := pv_gn hf q12
          refine EV.iconst dX10_breaks_76 (by decide) (by decide) ?_
          refine EV.goto (tgt := 81) dX10_breaks_77 (by decide) ?_
          refine EV.weak (L2 := [some (.inr (.inr (0))), some (.inl (a1)), some (.inl (a2)), none, some (.inl (a4)), none]) (And.intro rfl (And.intro rfl (And.intro rfl (And.intro rfl trivial)))) ?_
          exact tX10_breaks_81 hd    hf
      · have hf := pv_gp hf q9
        refine EV.weak (L2 := [some (.inr (.inr (0))), some (.inl (a1)), some (.inl (a2)), none, some (.inl (a4)), none]) (And.intro rfl (And.intro rfl (And.intro rfl (And.intro rfl trivial)))) ?_
        exact tX10_breaks_57 hd    hf
  · have hf := pv_gn hf q7
    refine EV.iload_n dX10_breaks_39 rfl rfl ?_
    refine EV.goto (tgt := 81) dX10_breaks_40 (by decide) ?_
    refine EV.weak (L2 := [some (.inr (.inr (0))), some (.inl (a1)), some (.inl (a2)), none, some (.inl (a4)), none]) (And.intro rfl (And.intro rfl (And.intro rfl (And.intro rfl trivial)))) ?_
    exact tX10_breaks_81 hd    hf

noncomputable def fX10_stops_59 (N : Nat)  (a1 : Int) (a2 : Int) (a3 : Int)  (h : pv_H) : Option (pv_H) :=
  some h

noncomputable def fX10_stops (N : Nat) (a1 : Int) (a2 : Int) (a3 : Int) (h : pv_H) : Option (pv_H) :=
  if 0 ≤ a1 ∧ a1 < 200 then (pv_b (pv_up h 19 (Int.toNat (a1)) 0) fun h2 => if 0 ≤ a1 ∧ a1 < 200 then (if (h2 29 (Int.toNat (a1))) = 1 then (some h2) else (if 0 ≤ a1 ∧ a1 < 200 then (pv_c1 (fX10_part N (h2 31 (Int.toNat (a1))) (h2 2 1121) h2) fun r7 => if r7 ≤ 0 then (fX10_stops_59 N  a1 a2 a3  h2) else (if 0 ≤ a1 ∧ a1 < 200 then (pv_c1 (fX10_begins N a2 (pv_w (1 - (h2 26 (Int.toNat (a1))))) a3 r7 1 h2) fun h11 => fX10_stops_59 N  a1 a2 a3  h11) else none)) else none)) else none) else none

set_option maxHeartbeats 4000000 in
set_option maxRecDepth 20000 in
theorem tX10_stops_59 {d N : Nat}  {a1 : Int} {a2 : Int} {a3 : Int}  {h h' : pv_H}  (hd : 2 ≤ d)    (hf : fX10_stops_59 N  a1 a2 a3  h = some h') : EV RX10 cX10_stops 5 none false d pv_SM (MM h') none 59 [none, none, none, none, none] [] pv_SM (MM h) := by
  unfold fX10_stops_59 at hf
  exact FV.vret dX10_stops_59 hf

set_option maxHeartbeats 4000000 in
set_option maxRecDepth 20000 in
theorem tX10_stops {d N : Nat} {a1 : Int} {a2 : Int} {a3 : Int} {h h' : pv_H}  (hd : 2 ≤ d)  (hf : fX10_stops N a1 a2 a3 h = some h') : CALL yX10_stops cX10_stops 5 none d pv_SM (MM h) [.inr (.inr (0)), .inl (a1), .inl (a2), .inl (a3)] pv_SM (MM h') none := by
  unfold fX10_stops at hf
  refine EV.call (own := RX10) (ini := false) rfl rfl (fun q => by cases q) ⟨[], (List.append_nil _).symm⟩ (Nat.le_of_ble_eq_true rfl) ?_
  refine EV.eqL (L2 := [some (.inr (.inr (0))), some (.inl (a1)), some (.inl (a2)), some (.inl (a3)), none]) rfl ?_
  refine EV.aload_n dX10_stops_0 rfl rfl ?_
  refine FV.getF (v := 19) dX10_stops_1 sm_0 fl_10_72 rfl rfl hvm_0_46 ?_
  refine EV.iload_n dX10_stops_4 rfl rfl ?_
  refine EV.iconst dX10_stops_5 (by decide) (by decide) ?_
  obtain ⟨g1, hf⟩ := pv_gd hf
  obtain ⟨h2, eh2, hf⟩ := pv_bo hf
  refine FV.zast dX10_stops_6 sm_19 g1.1 g1.2 (by decide) (j := (Int.toNat (a1))) rfl eh2 ?_
  refine EV.aload_n dX10_stops_7 rfl rfl ?_
  refine FV.getF (v := 29) dX10_stops_8 sm_0 fl_10_102 rfl rfl hvm_0_56 ?_
  refine EV.iload_n dX10_stops_11 rfl rfl ?_
  obtain ⟨g3, hf⟩ := pv_gd hf
  refine FV.iald dX10_stops_12 sm_29 g3.1 g3.2 (j := (Int.toNat (a1))) rfl ?_
  refine EV.iconst dX10_stops_13 (by decide) (by decide) ?_
  refine EV.icmp_ne (tgt := 18) dX10_stops_14 (by decide) (fun q4 => ?_) (fun q4 => ?_)
  · have hf := pv_gn hf q4
    refine EV.aload_n dX10_stops_18 rfl rfl ?_
    refine FV.getF (v := 31) dX10_stops_19 sm_0 fl_10_108 rfl rfl hvm_0_58 ?_
    refine EV.iload_n dX10_stops_22 rfl rfl ?_
    obtain ⟨g5, hf⟩ := pv_gd hf
    refine FV.iald dX10_stops_23 sm_31 g5.1 g5.2 (j := (Int.toNat (a1))) rfl ?_
    refine EV.aload_n dX10_stops_24 rfl rfl ?_
    refine FV.getF (v := 2) dX10_stops_25 sm_0 fl_10_17 rfl rfl hvm_0_2 ?_
    refine EV.sipush dX10_stops_28 (by decide) (by decide) ?_
    refine FV.iald dX10_stops_31 sm_2 (by decide) (by decide) (j := 1121) rfl ?_
    obtain ⟨r7, hc6, hf⟩ := pv_c1o hf
    refine EV.invS (As := [.inl (h2 31 (Int.toNat (a1))), .inl (h2 2 1121)]) (st := []) (d1 := d - 1) (sh1 := pv_SM) (h1 := MM h2) (r1 := (some (.inl r7))) dX10_stops_32 md_X10_part ml_X10_331 st_X10_part (tX10_part (by omega)  hc6) (by omega) rfl rfl (Nat.le_of_ble_eq_true rfl) ⟨[], (List.append_nil _).symm⟩ ?_
    refine EV.eqS (st2 := [.inl (r7)]) rfl ?_
    refine FV.stiw (L2 := [some (.inr (.inr (0))), some (.inl (a1)), some (.inl (a2)), some (.inl (a3)), some (.inl (r7))]) dX10_stops_35 (Nat.le_of_ble_eq_true rfl) rfl rfl ?_
    refine EV.iload dX10_stops_37 rfl ?_
    refine EV.if_le (tgt := 59) dX10_stops_39 (by decide) (fun q8 => ?_) (fun q8 => ?_)
    · have hf := pv_gp hf q8
      refine EV.weak (L2 := [none, none, none, none, none]) trivial ?_
      exact tX10_stops_59 hd    hf
    · have hf := pv_gn hf q8
      refine EV.aload_n dX10_stops_42 rfl rfl ?_
      refine EV.iload_n dX10_stops_43 rfl rfl ?_
      refine EV.iconst dX10_stops_44 (by decide) (by decide) ?_
      refine EV.aload_n dX10_stops_45 rfl rfl ?_
      refine FV.getF (v := 26) dX10_stops_46 sm_0 fl_10_93 rfl rfl hvm_0_53 ?_
      refine EV.iload_n dX10_stops_49 rfl rfl ?_
      obtain ⟨g9, hf⟩ := pv_gd hf
      refine FV.iald dX10_stops_50 sm_26 g9.1 g9.2 (j := (Int.toNat (a1))) rfl ?_
      refine EV.isub dX10_stops_51 ?_
      refine EV.iload_n dX10_stops_52 rfl rfl ?_
      refine EV.iload dX10_stops_53 rfl ?_
      refine EV.iconst dX10_stops_55 (by decide) (by decide) ?_
      obtain ⟨h11, hc10, hf⟩ := pv_c1o hf
      refine EV.invV (As := [.inl (a2), .inl (pv_w (1 - (h2 26 (Int.toNat (a1))))), .inl (a3), .inl (r7), .inl (1)]) (st := []) (d1 := d - 1) (sh1 := pv_SM) (h1 := MM h11) (r1 := none) dX10_stops_56 sm_0 (by decide) md_X10_begins ml_X10_335 im_X10_begins se_X10_begins (tX10_begins (by omega)  hc10) (by omega) rfl rfl (Nat.le_of_ble_eq_true rfl) ⟨[], (List.append_nil _).symm⟩ ?_
      refine EV.weak (L2 := [none, none, none, none, none]) trivial ?_
      exact tX10_stops_59 hd    hf
  · have hf := pv_gp hf q4
    exact FV.vret dX10_stops_17 hf

noncomputable def fX10_looks_44 (N : Nat)  (a1 : Int) (a2 : Int) (a3 : Int)  (h : pv_H) : Option (pv_H) :=
  pv_b (pv_up h 0 59 a3) fun h7 => pv_b (pv_up h7 0 60 a2) fun h8 => if 0 ≤ a2 ∧ a2 < 60 then (pv_b (pv_up h8 0 61 (pv_w (a3 - (h8 11 (Int.toNat (a2)))))) fun h10 => some h10) else none

noncomputable def fX10_looks_43 (N : Nat)  (a1 : Int) (a2 : Int) (a3 : Int)  (h : pv_H) : Option (pv_H) :=
  some h

noncomputable def fX10_looks (N : Nat) (a1 : Int) (a2 : Int) (a3 : Int) (h : pv_H) : Option (pv_H) :=
  if 0 ≤ a1 ∧ a1 < 200 then (if (h 29 (Int.toNat (a1))) = 1 then (some h) else (if (h 0 60) = (-1) then (fX10_looks_44 N  a1 a2 a3  h) else (if a3 < (h 0 59) then (fX10_looks_43 N  a1 a2 a3  h) else (if a3 = (h 0 59) then (if a2 ≤ (h 0 60) then (fX10_looks_44 N  a1 a2 a3  h) else (fX10_looks_43 N  a1 a2 a3  h)) else (fX10_looks_44 N  a1 a2 a3  h))))) else none

set_option maxHeartbeats 4000000 in
set_option maxRecDepth 20000 in
theorem tX10_looks_44 {d N : Nat}  {a1 : Int} {a2 : Int} {a3 : Int}  {h h' : pv_H}  (hd : 1 ≤ d)    (hf : fX10_looks_44 N  a1 a2 a3  h = some h') : EV RX10 cX10_looks 4 none false d pv_SM (MM h') none 44 [some (.inr (.inr (0))), none, some (.inl (a2)), some (.inl (a3))] [] pv_SM (MM h) := by
  unfold fX10_looks_44 at hf
  refine EV.aload_n dX10_looks_44 rfl rfl ?_
  refine EV.iload_n dX10_looks_45 rfl rfl ?_
  obtain ⟨h7, eh7, hf⟩ := pv_bo hf
  refine FV.putI dX10_looks_46 sm_0 fl_10_362 rfl rfl eh7 ?_
  refine EV.aload_n dX10_looks_49 rfl rfl ?_
  refine EV.iload_n dX10_looks_50 rfl rfl ?_
  obtain ⟨h8, eh8, hf⟩ := pv_bo hf
  refine FV.putI dX10_looks_51 sm_0 fl_10_359 rfl rfl eh8 ?_
  refine EV.aload_n dX10_looks_54 rfl rfl ?_
  refine EV.iload_n dX10_looks_55 rfl rfl ?_
  refine EV.aload_n dX10_looks_56 rfl rfl ?_
  refine FV.getF (v := 11) dX10_looks_57 sm_0 fl_10_48 rfl rfl hvm_0_26 ?_
  refine EV.iload_n dX10_looks_60 rfl rfl ?_
  obtain ⟨g9, hf⟩ := pv_gd hf
  refine FV.iald dX10_looks_61 sm_11 g9.1 g9.2 (j := (Int.toNat (a2))) rfl ?_
  refine EV.isub dX10_looks_62 ?_
  obtain ⟨h10, eh10, hf⟩ := pv_bo hf
  refine FV.putI dX10_looks_63 sm_0 fl_10_365 rfl rfl eh10 ?_
  exact FV.vret dX10_looks_66 hf

set_option maxHeartbeats 4000000 in
set_option maxRecDepth 20000 in
theorem tX10_looks_43 {d N : Nat}  {a1 : Int} {a2 : Int} {a3 : Int}  {h h' : pv_H}  (hd : 1 ≤ d)    (hf : fX10_looks_43 N  a1 a2 a3  h = some h') : EV RX10 cX10_looks 4 none false d pv_SM (MM h') none 43 [none, none, none, none] [] pv_SM (MM h) := by
  unfold fX10_looks_43 at hf
  exact FV.vret dX10_looks_43 hf

set_option maxHeartbeats 4000000 in
set_option maxRecDepth 20000 in
theorem tX10_looks {d N : Nat} {a1 : Int} {a2 : Int} {a3 : Int} {h h' : pv_H}  (hd : 1 ≤ d)  (hf : fX10_looks N a1 a2 a3 h = some h') : CALL yX10_looks cX10_looks 4 none d pv_SM (MM h) [.inr (.inr (0)), .inl (a1), .inl (a2), .inl (a3)] pv_SM (MM h') none := by
  unfold fX10_looks at hf
  refine EV.call (own := RX10) (ini := false) rfl rfl (fun q => by cases q) ⟨[], (List.append_nil _).symm⟩ (Nat.le_of_ble_eq_true rfl) ?_
  refine EV.eqL (L2 := [some (.inr (.inr (0))), some (.inl (a1)), some (.inl (a2)), some (.inl (a3))]) rfl ?_
  refine EV.aload_n dX10_looks_0 rfl rfl ?_
  refine FV.getF (v := 29) dX10_looks_1 sm_0 fl_10_102 rfl rfl hvm_0_56 ?_
  refine EV.iload_n dX10_looks_4 rfl rfl ?_
  obtain ⟨g1, hf⟩ := pv_gd hf
  refine FV.iald dX10_looks_5 sm_29 g1.1 g1.2 (j := (Int.toNat (a1))) rfl ?_
  refine EV.iconst dX10_looks_6 (by decide) (by decide) ?_
  refine EV.icmp_ne (tgt := 11) dX10_looks_7 (by decide) (fun q2 => ?_) (fun q2 => ?_)
  · have hf := pv_gn hf q2
    refine EV.aload_n dX10_looks_11 rfl rfl ?_
    refine FV.getI dX10_looks_12 sm_0 fl_10_359 rfl ?_
    refine EV.iconst dX10_looks_15 (by decide) (by decide) ?_
    refine EV.icmp_eq (tgt := 44) dX10_looks_16 (by decide) (fun q3 => ?_) (fun q3 => ?_)
    · have hf := pv_gp hf q3
      refine EV.weak (L2 := [some (.inr (.inr (0))), none, some (.inl (a2)), some (.inl (a3))]) (And.intro rfl (And.intro rfl (And.intro rfl trivial))) ?_
      exact tX10_looks_44 hd    hf
    · have hf := pv_gn hf q3
      refine EV.iload_n dX10_looks_19 rfl rfl ?_
      refine EV.aload_n dX10_looks_20 rfl rfl ?_
      refine FV.getI dX10_looks_21 sm_0 fl_10_362 rfl ?_
      refine EV.icmp_lt (tgt := 43) dX10_looks_24 (by decide) (fun q4 => ?_) (fun q4 => ?_)
      · have hf := pv_gp hf q4
        refine EV.weak (L2 := [none, none, none, none]) trivial ?_
        exact tX10_looks_43 hd    hf
      · have hf := pv_gn hf q4
        refine EV.iload_n dX10_looks_27 rfl rfl ?_
        refine EV.aload_n dX10_looks_28 rfl rfl ?_
        refine FV.getI dX10_looks_29 sm_0 fl_10_362 rfl ?_
        refine EV.icmp_ne (tgt := 44) dX10_looks_32 (by decide) (fun q5 => ?_) (fun q5 => ?_)
        · have hf := pv_gn hf q5
          refine EV.weak (L2 := [some (.inr (.inr (0))), none, some (.inl (a2)), some (.inl (a3))]) (And.intro rfl (And.intro rfl (And.intro rfl trivial))) ?_
          exact tX10_looks_44 hd    hf
        · have hf := pv_gp hf q5
          refine EV.iload_n dX10_looks_35 rfl rfl ?_
          refine EV.aload_n dX10_looks_36 rfl rfl ?_
          refine FV.getI dX10_looks_37 sm_0 fl_10_359 rfl ?_
          refine EV.icmp_le (tgt := 44) dX10_looks_40 (by decide) (fun q6 => ?_) (fun q6 => ?_)
          · have hf := pv_gp hf q6
            refine EV.weak (L2 := [some (.inr (.inr (0))), none, some (.inl (a2)), some (.inl (a3))]) (And.intro rfl (And.intro rfl (And.intro rfl trivial))) ?_
            exact tX10_looks_44 hd    hf
          · have hf := pv_gn hf q6
            refine EV.weak (L2 := [none, none, none, none]) trivial ?_
            exact tX10_looks_43 hd    hf
  · have hf := pv_gp hf q2
    exact FV.vret dX10_looks_10 hf

noncomputable def fX10_comes_69 (N : Nat)  (a1 : Int) (a2 : Int) (a3 : Int) (v5 : Int) (h : pv_H) : Option (pv_H) :=
  pv_c1 (fX10_stops N a1 v5 a2 h) fun h19 => some h19

noncomputable def fX10_comes_312 (N : Nat)  (a1 : Int) (a2 : Int) (a3 : Int) (v5 : Int) (s0 : Int) (s1 : Int) (h : pv_H) : Option (pv_H) :=
  pv_b (pv_up h 0 40 (pv_w (s1 + s0))) fun h50 => if 0 ≤ v5 ∧ v5 < 60 then (pv_b (pv_up h50 18 (Int.toNat (v5)) 1) fun h52 => some h52) else none

noncomputable def fX10_comes_228 (N : Nat)  (a1 : Int) (a2 : Int) (a3 : Int) (v5 : Int) (v7 : Int) (s0 : Int) (h : pv_H) : Option (pv_H) :=
  if (h 0 43) = 0 then (if 0 ≤ v5 ∧ v5 < 60 then (if (pv_w (v7 - s0)) ≤ (h 11 (Int.toNat (v5))) then (if 0 ≤ v5 ∧ v5 < 60 then (if v7 ≤ (h 11 (Int.toNat (v5))) then (fX10_comes_312 N  a1 a2 a3 (v5) (0) (h 0 40) h) else (fX10_comes_312 N  a1 a2 a3 (v5) (1) (h 0 40) h)) else none) else (if 0 ≤ a1 ∧ a1 < 200 then (pv_b (pv_up h 19 (Int.toNat (a1)) 0) fun h44 => if 0 ≤ a1 ∧ a1 < 200 then (pv_c1 (fX10_breaks N v5 a2 (pv_w (1 + (h44 29 (Int.toNat (a1))))) (pv_w (v7 - s0)) h44) fun h47 => some h47) else none) else none)) else none) else (pv_c1 (fX10_looks N a1 v5 v7 h) fun h49 => some h49)

noncomputable def fX10_comes_149 (N : Nat)  (a1 : Int) (a2 : Int) (a3 : Int) (v5 : Int) (s0 : Int) (h : pv_H) : Option (pv_H) :=
  if 0 ≤ a1 ∧ a1 < 200 then (pv_b (pv_up h 31 (Int.toNat (a1)) s0) fun h25 => if s0 = 0 then (if 0 ≤ a1 ∧ a1 < 200 then (pv_b (pv_up h25 19 (Int.toNat (a1)) 0) fun h37 => some h37) else none) else (if 0 ≤ a1 ∧ a1 < 200 then (if 0 ≤ a1 ∧ a1 < 200 then (pv_b (pv_up h25 30 (Int.toNat (a1)) (pv_w ((h25 30 (Int.toNat (a1))) + 1))) fun h29 => pv_c1 (fX10_loadOf N v5 h29) fun r31 => pv_b (pv_w (r31 + s0)) fun x32 => if (h29 2 1118) < (h29 2 1119) then (fX10_comes_228 N  a1 a2 a3 (v5) (x32) (0) h29) else (pv_c1 (fX10_part N a3 (h29 2 1120) h29) fun r35 => fX10_comes_228 N  a1 a2 a3 (v5) (x32) (r35) h29)) else none) else none)) else none

noncomputable def fX10_comes_118 (N : Nat)  (a1 : Int) (a2 : Int) (a3 : Int) (v5 : Int) (s0 : Int) (h : pv_H) : Option (pv_H) :=
  if 0 ≤ v5 ∧ v5 < 60 then (if (h 9 (Int.toNat (v5))) = 2 then (pv_c1 (fX10_part N s0 (h 2 1122) h) fun r23 => fX10_comes_149 N  a1 a2 a3 (v5) (r23) h) else (fX10_comes_149 N  a1 a2 a3 (v5) (s0) h)) else none

noncomputable def fX10_comes_42 (N : Nat)  (a1 : Int) (a2 : Int) (a3 : Int) (s0 : Int) (s1 : Int) (h : pv_H) : Option (pv_H) :=
  pv_b (pv_w (s1 + s0)) fun x7 => if x7 < 0 then (fX10_comes_69 N  a1 a2 a3 (x7) h) else (if (h 0 19) ≤ x7 then (fX10_comes_69 N  a1 a2 a3 (x7) h) else (if 0 ≤ x7 ∧ x7 < 60 then (if (h 17 (Int.toNat (x7))) = 0 then (if 0 ≤ x7 ∧ x7 < 60 then (if (h 9 (Int.toNat (x7))) = 1 then (if 0 ≤ a1 ∧ a1 < 200 then (fX10_comes_118 N  a1 a2 a3 (x7) (h 31 (Int.toNat (a1))) h) else none) else (if 0 ≤ a1 ∧ a1 < 200 then (pv_c1 (fX10_part N (h 31 (Int.toNat (a1))) (pv_w (100 - (h 2 1117))) h) fun r16 => fX10_comes_118 N  a1 a2 a3 (x7) (r16) h) else none)) else none) else (fX10_comes_69 N  a1 a2 a3 (x7) h)) else none))

noncomputable def fX10_comes (N : Nat) (a1 : Int) (a2 : Int) (a3 : Int) (h : pv_H) : Option (pv_H) :=
  if 0 ≤ a1 ∧ a1 < 200 then (if ¬ (h 2 1118) = 0 then (pv_b (pv_w (Int.tdiv (pv_w (a2 - (h 27 (Int.toNat (a1))))) (h 2 1118))) fun x3 => if 0 ≤ a1 ∧ a1 < 200 then (if 0 ≤ a1 ∧ a1 < 200 then (if (h 26 (Int.toNat (a1))) = 0 then (fX10_comes_42 N  a1 a2 a3 (pv_w (-x3)) (h 25 (Int.toNat (a1))) h) else (fX10_comes_42 N  a1 a2 a3 (x3) (h 25 (Int.toNat (a1))) h)) else none) else none) else none) else none

set_option maxHeartbeats 4000000 in
set_option maxRecDepth 20000 in
theorem tX10_comes_69 {d N : Nat}  {a1 : Int} {a2 : Int} {a3 : Int} {v5 : Int} {h h' : pv_H}  (hd : 3 ≤ d)    (hf : fX10_comes_69 N  a1 a2 a3 v5 h = some h') : EV RX10 cX10_comes 9 none false d pv_SM (MM h') none 69 [some (.inr (.inr (0))), some (.inl (a1)), some (.inl (a2)), none, none, some (.inl (v5)), none, none, none] [] pv_SM (MM h) := by
  unfold fX10_comes_69 at hf
  refine EV.aload_n dX10_comes_69 rfl rfl ?_
  refine EV.iload_n dX10_comes_70 rfl rfl ?_
  refine EV.iload dX10_comes_71 rfl ?_
  refine EV.iload_n dX10_comes_73 rfl rfl ?_
  obtain ⟨h19, hc18, hf⟩ := pv_c1o hf
  refine EV.invV (As := [.inl (a1), .inl (v5), .inl (a2)]) (st := []) (d1 := d - 1) (sh1 := pv_SM) (h1 := MM h19) (r1 := none) dX10_comes_74 sm_0 (by decide) md_X10_stops ml_X10_339 im_X10_stops se_X10_stops (tX10_stops (by omega)  hc18) (by omega) rfl rfl (Nat.le_of_ble_eq_true rfl) ⟨[], (List.append_nil _).symm⟩ ?_
  exact FV.vret dX10_comes_77 hf

set_option maxHeartbeats 4000000 in
set_option maxRecDepth 20000 in
theorem tX10_comes_312 {d N : Nat}  {a1 : Int} {a2 : Int} {a3 : Int} {v5 : Int} {s0 : Int} {s1 : Int} {h h' : pv_H}  (hd : 3 ≤ d)    (hf : fX10_comes_312 N  a1 a2 a3 v5 s0 s1 h = some h') : EV RX10 cX10_comes 9 none false d pv_SM (MM h') none 312 [some (.inr (.inr (0))), none, none, none, none, some (.inl (v5)), none, none, none] [.inl (s0), .inl (s1), .inr (.inr (0))] pv_SM (MM h) := by
  unfold fX10_comes_312 at hf
  refine EV.iadd dX10_comes_312 ?_
  obtain ⟨h50, eh50, hf⟩ := pv_bo hf
  refine FV.putI dX10_comes_313 sm_0 fl_10_356 rfl rfl eh50 ?_
  refine EV.aload_n dX10_comes_316 rfl rfl ?_
  refine FV.getF (v := 18) dX10_comes_317 sm_0 fl_10_69 rfl rfl hvm_0_45 ?_
  refine EV.iload dX10_comes_320 rfl ?_
  refine EV.iconst dX10_comes_322 (by decide) (by decide) ?_
  obtain ⟨g51, hf⟩ := pv_gd hf
  obtain ⟨h52, eh52, hf⟩ := pv_bo hf
  refine FV.zast dX10_comes_323 sm_18 g51.1 g51.2 (by decide) (j := (Int.toNat (v5))) rfl eh52 ?_
  exact FV.vret dX10_comes_324 hf

set_option maxHeartbeats 4000000 in
set_option maxRecDepth 20000 in
theorem tX10_comes_228 {d N : Nat}  {a1 : Int} {a2 : Int} {a3 : Int} {v5 : Int} {v7 : Int} {s0 : Int} {h h' : pv_H}  (hd : 3 ≤ d)    (hf : fX10_comes_228 N  a1 a2 a3 v5 v7 s0 h = some h') : EV RX10 cX10_comes 9 none false d pv_SM (MM h') none 228 [some (.inr (.inr (0))), some (.inl (a1)), some (.inl (a2)), none, none, some (.inl (v5)), none, some (.inl (v7)), none] [.inl (s0)] pv_SM (MM h) := by
  unfold fX10_comes_228 at hf
  refine FV.stiw (L2 := [some (.inr (.inr (0))), some (.inl (a1)), some (.inl (a2)), none, none, some (.inl (v5)), none, some (.inl (v7)), some (.inl (s0))]) dX10_comes_228 (Nat.le_of_ble_eq_true rfl) rfl rfl ?_
  refine EV.aload_n dX10_comes_230 rfl rfl ?_
  refine FV.getI dX10_comes_231 sm_0 fl_10_346 rfl ?_
  refine EV.if_eq (tgt := 247) dX10_comes_234 (by decide) (fun q38 => ?_) (fun q38 => ?_)
  · have hf := pv_gp hf q38
    refine EV.iload dX10_comes_247 rfl ?_
    refine EV.iload dX10_comes_249 rfl ?_
    refine EV.isub dX10_comes_251 ?_
    refine EV.aload_n dX10_comes_252 rfl rfl ?_
    refine FV.getF (v := 11) dX10_comes_253 sm_0 fl_10_48 rfl rfl hvm_0_26 ?_
    refine EV.iload dX10_comes_256 rfl ?_
    obtain ⟨g39, hf⟩ := pv_gd hf
    refine FV.iald dX10_comes_258 sm_11 g39.1 g39.2 (j := (Int.toNat (v5))) rfl ?_
    refine EV.icmp_le (tgt := 290) dX10_comes_259 (by decide) (fun q40 => ?_) (fun q40 => ?_)
    · have hf := pv_gp hf q40
      refine EV.aload_n dX10_comes_290 rfl rfl ?_
      refine EV.dup dX10_comes_291 rfl ?_
      refine FV.getI dX10_comes_292 sm_0 fl_10_356 rfl ?_
      refine EV.iload dX10_comes_295 rfl ?_
      refine EV.aload_n dX10_comes_297 rfl rfl ?_
      refine FV.getF (v := 11) dX10_comes_298 sm_0 fl_10_48 rfl rfl hvm_0_26 ?_
      refine EV.iload dX10_comes_301 rfl ?_
      obtain ⟨g41, hf⟩ := pv_gd hf
      refine FV.iald dX10_comes_303 sm_11 g41.1 g41.2 (j := (Int.toNat (v5))) rfl ?_
      refine EV.icmp_le (tgt := 311) dX10_comes_304 (by decide) (fun q42 => ?_) (fun q42 => ?_)
      · have hf := pv_gp hf q42
        refine EV.iconst dX10_comes_311 (by decide) (by decide) ?_
        refine EV.weak (L2 := [some (.inr (.inr (0))), none, none, none, none, some (.inl (v5)), none, none, none]) (And.intro rfl (And.intro rfl trivial)) ?_
        exact tX10_comes_312 hd    hf
      · have hf := pv_gn hf q42
        refine EV.iconst dX10_comes_307 (by decide) (by decide) ?_
        refine EV.goto (tgt := 312) dX10_comes_308 (by decide) ?_
        refine EV.weak (L2 := [some (.inr (.inr (0))), none, none, none, none, some (.inl (v5)), none, none, none]) (And.intro rfl (And.intro rfl trivial)) ?_
        exact tX10_comes_312 hd    hf
    · have hf := pv_gn hf q40
      refine EV.aload_n dX10_comes_262 rfl rfl ?_
      refine FV.getF (v := 19) dX10_comes_263 sm_0 fl_10_72 rfl rfl hvm_0_46 ?_
      refine EV.iload_n dX10_comes_266 rfl rfl ?_
      refine EV.iconst dX10_comes_267 (by decide) (by decide) ?_
      obtain ⟨g43, hf⟩ := pv_gd hf
      obtain ⟨h44, eh44, hf⟩ := pv_bo hf
      refine FV.zast dX10_comes_268 sm_19 g43.1 g43.2 (by decide) (j := (Int.toNat (a1))) rfl eh44 ?_
      refine EV.aload_n dX10_comes_269 rfl rfl ?_
      refine EV.iload dX10_comes_270 rfl ?_
      refine EV.iload_n dX10_comes_272 rfl rfl ?_
      refine EV.iconst dX10_comes_273 (by decide) (by decide) ?_
      refine EV.aload_n dX10_comes_274 rfl rfl ?_
      refine FV.getF (v := 29) dX10_comes_275 sm_0 fl_10_102 rfl rfl hvm_0_56 ?_
      refine EV.iload_n dX10_comes_278 rfl rfl ?_
      obtain ⟨g45, hf⟩ := pv_gd hf
      refine FV.iald dX10_comes_279 sm_29 g45.1 g45.2 (j := (Int.toNat (a1))) rfl ?_
      refine EV.iadd dX10_comes_280 ?_
      refine EV.iload dX10_comes_281 rfl ?_
      refine EV.iload dX10_comes_283 rfl ?_
      refine EV.isub dX10_comes_285 ?_
      obtain ⟨h47, hc46, hf⟩ := pv_c1o hf
      refine EV.invV (As := [.inl (v5), .inl (a2), .inl (pv_w (1 + (h44 29 (Int.toNat (a1))))), .inl (pv_w (v7 - s0))]) (st := []) (d1 := d - 1) (sh1 := pv_SM) (h1 := MM h47) (r1 := none) dX10_comes_286 sm_0 (by decide) md_X10_breaks ml_X10_353 im_X10_breaks se_X10_breaks (tX10_breaks (by omega)  hc46) (by omega) rfl rfl (Nat.le_of_ble_eq_true rfl) ⟨[], (List.append_nil _).symm⟩ ?_
      exact FV.vret dX10_comes_289 hf
  · have hf := pv_gn hf q38
    refine EV.aload_n dX10_comes_237 rfl rfl ?_
    refine EV.iload_n dX10_comes_238 rfl rfl ?_
    refine EV.iload dX10_comes_239 rfl ?_
    refine EV.iload dX10_comes_241 rfl ?_
    obtain ⟨h49, hc48, hf⟩ := pv_c1o hf
    refine EV.invV (As := [.inl (a1), .inl (v5), .inl (v7)]) (st := []) (d1 := d - 1) (sh1 := pv_SM) (h1 := MM h49) (r1 := none) dX10_comes_243 sm_0 (by decide) md_X10_looks ml_X10_350 im_X10_looks se_X10_looks (tX10_looks (by omega)  hc48) (by omega) rfl rfl (Nat.le_of_ble_eq_true rfl) ⟨[], (List.append_nil _).symm⟩ ?_
    exact FV.vret dX10_comes_246 hf

set_option maxHeartbeats 4000000 in
set_option maxRecDepth 20000 in
theorem tX10_comes_149 {d N : Nat}  {a1 : Int} {a2 : Int} {a3 : Int} {v5 : Int} {s0 : Int} {h h' : pv_H}  (hd : 3 ≤ d)    (hf : fX10_comes_149 N  a1 a2 a3 v5 s0 h = some h') : EV RX10 cX10_comes 9 none false d pv_SM (MM h') none 149 [some (.inr (.inr (0))), some (.inl (a1)), some (.inl (a2)), some (.inl (a3)), none, some (.inl (v5)), none, none, none] [.inl (s0)] pv_SM (MM h) := by
  unfold fX10_comes_149 at hf
  refine FV.stiw (L2 := [some (.inr (.inr (0))), some (.inl (a1)), some (.inl (a2)), some (.inl (a3)), none, some (.inl (v5)), some (.inl (s0)), none, none]) dX10_comes_149 (Nat.le_of_ble_eq_true rfl) rfl rfl ?_
  refine EV.aload_n dX10_comes_151 rfl rfl ?_
  refine FV.getF (v := 31) dX10_comes_152 sm_0 fl_10_108 rfl rfl hvm_0_58 ?_
  refine EV.iload_n dX10_comes_155 rfl rfl ?_
  refine EV.iload dX10_comes_156 rfl ?_
  obtain ⟨g24, hf⟩ := pv_gd hf
  obtain ⟨h25, eh25, hf⟩ := pv_bo hf
  refine FV.iast dX10_comes_158 sm_31 g24.1 g24.2 (j := (Int.toNat (a1))) rfl eh25 ?_
  refine EV.iload dX10_comes_159 rfl ?_
  refine EV.if_ne (tgt := 172) dX10_comes_161 (by decide) (fun q26 => ?_) (fun q26 => ?_)
  · have hf := pv_gn hf q26
    refine EV.aload_n dX10_comes_172 rfl rfl ?_
    refine FV.getF (v := 30) dX10_comes_173 sm_0 fl_10_105 rfl rfl hvm_0_57 ?_
    refine EV.iload_n dX10_comes_176 rfl rfl ?_
    refine EV.dup2 dX10_comes_177 rfl rfl ?_
    obtain ⟨g27, hf⟩ := pv_gd hf
    refine FV.iald dX10_comes_178 sm_30 g27.1 g27.2 (j := (Int.toNat (a1))) rfl ?_
    refine EV.iconst dX10_comes_179 (by decide) (by decide) ?_
    refine EV.iadd dX10_comes_180 ?_
    obtain ⟨g28, hf⟩ := pv_gd hf
    obtain ⟨h29, eh29, hf⟩ := pv_bo hf
    refine FV.iast dX10_comes_181 sm_30 g28.1 g28.2 (j := (Int.toNat (a1))) rfl eh29 ?_
    refine EV.aload_n dX10_comes_182 rfl rfl ?_
    refine EV.iload dX10_comes_183 rfl ?_
    obtain ⟨r31, hc30, hf⟩ := pv_c1o hf
    refine EV.invV (As := [.inl (v5)]) (st := []) (d1 := d - 1) (sh1 := pv_SM) (h1 := MM h29) (r1 := (some (.inl r31))) dX10_comes_185 sm_0 (by decide) md_X10_loadOf ml_X10_343 im_X10_loadOf se_X10_loadOf (tX10_loadOf (by omega)  hc30) (by omega) rfl rfl (Nat.le_of_ble_eq_true rfl) ⟨[], (List.append_nil _).symm⟩ ?_
    refine EV.eqS (st2 := [.inl (r31)]) rfl ?_
    refine EV.iload dX10_comes_188 rfl ?_
    refine EV.iadd dX10_comes_190 ?_
    obtain ⟨x32, ex32, hf⟩ := pv_bo hf
    refine FV.stiw (L2 := [some (.inr (.inr (0))), some (.inl (a1)), some (.inl (a2)), some (.inl (a3)), none, some (.inl (v5)), some (.inl (s0)), some (.inl (x32)), none]) dX10_comes_191 (Nat.le_of_ble_eq_true rfl) ex32 rfl ?_
    refine EV.aload_n dX10_comes_193 rfl rfl ?_
    refine FV.getF (v := 2) dX10_comes_194 sm_0 fl_10_17 rfl rfl hvm_0_2 ?_
    refine EV.sipush dX10_comes_197 (by decide) (by decide) ?_
    refine FV.iald dX10_comes_200 sm_2 (by decide) (by decide) (j := 1119) rfl ?_
    refine EV.aload_n dX10_comes_201 rfl rfl ?_
    refine FV.getF (v := 2) dX10_comes_202 sm_0 fl_10_17 rfl rfl hvm_0_2 ?_
    refine EV.sipush dX10_comes_205 (by decide) (by decide) ?_
    refine FV.iald dX10_comes_208 sm_2 (by decide) (by decide) (j := 1118) rfl ?_
    refine EV.icmp_gt (tgt := 227) dX10_comes_209 (by decide) (fun q33 => ?_) (fun q33 => ?_)
    · have hf := pv_gp hf q33
      refine EV.iconst dX10_comes_227 (by decide) (by decide) ?_
      refine EV.weak (L2 := [some (.inr (.inr (0))), some (.inl (a1)), some (.inl (a2)), none, none, some (.inl (v5)), none, some (.inl (x32)), none]) (And.intro rfl (And.intro rfl (And.intro rfl (And.intro rfl (And.intro rfl trivial))))) ?_
      exact tX10_comes_228 hd    hf
    · have hf := pv_gn hf q33
      refine EV.iload_n dX10_comes_212 rfl rfl ?_
      refine EV.aload_n dX10_comes_213 rfl rfl ?_
      refine FV.getF (v := 2) dX10_comes_214 sm_0 fl_10_17 rfl rfl hvm_0_2 ?_
      refine EV.sipush dX10_comes_217 (by decide) (by decide) ?_
      refine FV.iald dX10_comes_220 sm_2 (by decide) (by decide) (j := 1120) rfl ?_
      obtain ⟨r35, hc34, hf⟩ := pv_c1o hf
      refine EV.invS (As := [.inl (a3), .inl (h29 2 1120)]) (st := []) (d1 := d - 1) (sh1 := pv_SM) (h1 := MM h29) (r1 := (some (.inl r35))) dX10_comes_221 md_X10_part ml_X10_331 st_X10_part (tX10_part (by omega)  hc34) (by omega) rfl rfl (Nat.le_of_ble_eq_true rfl) ⟨[], (List.append_nil _).symm⟩ ?_
      refine EV.eqS (st2 := [.inl (r35)]) rfl ?_
      refine EV.goto (tgt := 228) dX10_comes_224 (by decide) ?_
      refine EV.weak (L2 := [some (.inr (.inr (0))), some (.inl (a1)), some (.inl (a2)), none, none, some (.inl (v5)), none, some (.inl (x32)), none]) (And.intro rfl (And.intro rfl (And.intro rfl (And.intro rfl (And.intro rfl trivial))))) ?_
      exact tX10_comes_228 hd    hf
  · have hf := pv_gp hf q26
    refine EV.aload_n dX10_comes_164 rfl rfl ?_
    refine FV.getF (v := 19) dX10_comes_165 sm_0 fl_10_72 rfl rfl hvm_0_46 ?_
    refine EV.iload_n dX10_comes_168 rfl rfl ?_
    refine EV.iconst dX10_comes_169 (by decide) (by decide) ?_
    obtain ⟨g36, hf⟩ := pv_gd hf
    obtain ⟨h37, eh37, hf⟩ := pv_bo hf
    refine FV.zast dX10_comes_170 sm_19 g36.1 g36.2 (by decide) (j := (Int.toNat (a1))) rfl eh37 ?_
    exact FV.vret dX10_comes_171 hf

set_option maxHeartbeats 4000000 in
set_option maxRecDepth 20000 in
theorem tX10_comes_118 {d N : Nat}  {a1 : Int} {a2 : Int} {a3 : Int} {v5 : Int} {s0 : Int} {h h' : pv_H}  (hd : 3 ≤ d)    (hf : fX10_comes_118 N  a1 a2 a3 v5 s0 h = some h') : EV RX10 cX10_comes 9 none false d pv_SM (MM h') none 118 [some (.inr (.inr (0))), some (.inl (a1)), some (.inl (a2)), some (.inl (a3)), none, some (.inl (v5)), none, none, none] [.inl (s0)] pv_SM (MM h) := by
  unfold fX10_comes_118 at hf
  refine FV.stiw (L2 := [some (.inr (.inr (0))), some (.inl (a1)), some (.inl (a2)), some (.inl (a3)), none, some (.inl (v5)), some (.inl (s0)), none, none]) dX10_comes_118 (Nat.le_of_ble_eq_true rfl) rfl rfl ?_
  refine EV.aload_n dX10_comes_120 rfl rfl ?_
  refine FV.getF (v := 9) dX10_comes_121 sm_0 fl_10_42 rfl rfl hvm_0_24 ?_
  refine EV.iload dX10_comes_124 rfl ?_
  obtain ⟨g20, hf⟩ := pv_gd hf
  refine FV.iald dX10_comes_126 sm_9 g20.1 g20.2 (j := (Int.toNat (v5))) rfl ?_
  refine EV.iconst dX10_comes_127 (by decide) (by decide) ?_
  refine EV.icmp_ne (tgt := 147) dX10_comes_128 (by decide) (fun q21 => ?_) (fun q21 => ?_)
  · have hf := pv_gn hf q21
    refine EV.iload dX10_comes_147 rfl ?_
    refine EV.weak (L2 := [some (.inr (.inr (0))), some (.inl (a1)), some (.inl (a2)), some (.inl (a3)), none, some (.inl (v5)), none, none, none]) (And.intro rfl (And.intro rfl (And.intro rfl (And.intro rfl (And.intro rfl trivial))))) ?_
    exact tX10_comes_149 hd    hf
  · have hf := pv_gp hf q21
    refine EV.iload dX10_comes_131 rfl ?_
    refine EV.aload_n dX10_comes_133 rfl rfl ?_
    refine FV.getF (v := 2) dX10_comes_134 sm_0 fl_10_17 rfl rfl hvm_0_2 ?_
    refine EV.sipush dX10_comes_137 (by decide) (by decide) ?_
    refine FV.iald dX10_comes_140 sm_2 (by decide) (by decide) (j := 1122) rfl ?_
    obtain ⟨r23, hc22, hf⟩ := pv_c1o hf
    refine EV.invS (As := [.inl (s0), .inl (h 2 1122)]) (st := []) (d1 := d - 1) (sh1 := pv_SM) (h1 := MM h) (r1 := (some (.inl r23))) dX10_comes_141 md_X10_part ml_X10_331 st_X10_part (tX10_part (by omega)  hc22) (by omega) rfl rfl (Nat.le_of_ble_eq_true rfl) ⟨[], (List.append_nil _).symm⟩ ?_
    refine EV.eqS (st2 := [.inl (r23)]) rfl ?_
    refine EV.goto (tgt := 149) dX10_comes_144 (by decide) ?_
    refine EV.weak (L2 := [some (.inr (.inr (0))), some (.inl (a1)), some (.inl (a2)), some (.inl (a3)), none, some (.inl (v5)), none, none, none]) (And.intro rfl (And.intro rfl (And.intro rfl (And.intro rfl (And.intro rfl trivial))))) ?_
    exact tX10_comes_149 hd    hf

set_option maxHeartbeats 4000000 in
set_option maxRecDepth 20000 in
theorem tX10_comes_42 {d N : Nat}  {a1 : Int} {a2 : Int} {a3 : Int} {s0 : Int} {s1 : Int} {h h' : pv_H}  (hd : 3 ≤ d)    (hf : fX10_comes_42 N  a1 a2 a3 s0 s1 h = some h') : EV RX10 cX10_comes 9 none false d pv_SM (MM h') none 42 [some (.inr (.inr (0))), some (.inl (a1)), some (.inl (a2)), some (.inl (a3)), none, none, none, none, none] [.inl (s0), .inl (s1)] pv_SM (MM h) := by
  unfold fX10_comes_42 at hf
  refine EV.iadd dX10_comes_42 ?_
  obtain ⟨x7, ex7, hf⟩ := pv_bo hf
  refine FV.stiw (L2 := [some (.inr (.inr (0))), some (.inl (a1)), some (.inl (a2)), some (.inl (a3)), none, some (.inl (x7)), none, none, none]) dX10_comes_43 (Nat.le_of_ble_eq_true rfl) ex7 rfl ?_
  refine EV.iload dX10_comes_45 rfl ?_
  refine EV.if_lt (tgt := 69) dX10_comes_47 (by decide) (fun q8 => ?_) (fun q8 => ?_)
  · have hf := pv_gp hf q8
    refine EV.weak (L2 := [some (.inr (.inr (0))), some (.inl (a1)), some (.inl (a2)), none, none, some (.inl (x7)), none, none, none]) (And.intro rfl (And.intro rfl (And.intro rfl (And.intro rfl trivial)))) ?_
    exact tX10_comes_69 hd    hf
  · have hf := pv_gn hf q8
    refine EV.iload dX10_comes_50 rfl ?_
    refine EV.aload_n dX10_comes_52 rfl rfl ?_
    refine FV.getI dX10_comes_53 sm_0 fl_10_267 rfl ?_
    refine EV.icmp_ge (tgt := 69) dX10_comes_56 (by decide) (fun q9 => ?_) (fun q9 => ?_)
    · have hf := pv_gp hf q9
      refine EV.weak (L2 := [some (.inr (.inr (0))), some (.inl (a1)), some (.inl (a2)), none, none, some (.inl (x7)), none, none, none]) (And.intro rfl (And.intro rfl (And.intro rfl (And.intro rfl trivial)))) ?_
      exact tX10_comes_69 hd    hf
    · have hf := pv_gn hf q9
      refine EV.aload_n dX10_comes_59 rfl rfl ?_
      refine FV.getF (v := 17) dX10_comes_60 sm_0 fl_10_66 rfl rfl hvm_0_44 ?_
      refine EV.iload dX10_comes_63 rfl ?_
      obtain ⟨g10, hf⟩ := pv_gd hf
      refine FV.zald dX10_comes_65 sm_17 g10.1 g10.2 (j := (Int.toNat (x7))) rfl ?_
      refine EV.if_eq (tgt := 78) dX10_comes_66 (by decide) (fun q11 => ?_) (fun q11 => ?_)
      · have hf := pv_gp hf q11
        refine EV.aload_n dX10_comes_78 rfl rfl ?_
        refine FV.getF (v := 9) dX10_comes_79 sm_0 fl_10_42 rfl rfl hvm_0_24 ?_
        refine EV.iload dX10_comes_82 rfl ?_
        obtain ⟨g12, hf⟩ := pv_gd hf
        refine FV.iald dX10_comes_84 sm_9 g12.1 g12.2 (j := (Int.toNat (x7))) rfl ?_
        refine EV.iconst dX10_comes_85 (by decide) (by decide) ?_
        refine EV.icmp_ne (tgt := 98) dX10_comes_86 (by decide) (fun q13 => ?_) (fun q13 => ?_)
        · have hf := pv_gn hf q13
          refine EV.aload_n dX10_comes_98 rfl rfl ?_
          refine FV.getF (v := 31) dX10_comes_99 sm_0 fl_10_108 rfl rfl hvm_0_58 ?_
          refine EV.iload_n dX10_comes_102 rfl rfl ?_
          obtain ⟨g14, hf⟩ := pv_gd hf
          refine FV.iald dX10_comes_103 sm_31 g14.1 g14.2 (j := (Int.toNat (a1))) rfl ?_
          refine EV.bipush dX10_comes_104 (by decide) (by decide) ?_
          refine EV.aload_n dX10_comes_106 rfl rfl ?_
          refine FV.getF (v := 2) dX10_comes_107 sm_0 fl_10_17 rfl rfl hvm_0_2 ?_
          refine EV.sipush dX10_comes_110 (by decide) (by decide) ?_
          refine FV.iald dX10_comes_113 sm_2 (by decide) (by decide) (j := 1117) rfl ?_
          refine EV.isub dX10_comes_114 ?_
          obtain ⟨r16, hc15, hf⟩ := pv_c1o hf
          refine EV.invS (As := [.inl (h 31 (Int.toNat (a1))), .inl (pv_w (100 - (h 2 1117)))]) (st := []) (d1 := d - 1) (sh1 := pv_SM) (h1 := MM h) (r1 := (some (.inl r16))) dX10_comes_115 md_X10_part ml_X10_331 st_X10_part (tX10_part (by omega)  hc15) (by omega) rfl rfl (Nat.le_of_ble_eq_true rfl) ⟨[], (List.append_nil _).symm⟩ ?_
          refine EV.eqS (st2 := [.inl (r16)]) rfl ?_
          refine EV.weak (L2 := [some (.inr (.inr (0))), some (.inl (a1)), some (.inl (a2)), some (.inl (a3)), none, some (.inl (x7)), none, none, none]) (And.intro rfl (And.intro rfl (And.intro rfl (And.intro rfl (And.intro rfl trivial))))) ?_
          exact tX10_comes_118 hd    hf
        · have hf := pv_gp hf q13
          refine EV.aload_n dX10_comes_89 rfl rfl ?_
          refine FV.getF (v := 31) dX10_comes_90 sm_0 fl_10_108 rfl rfl hvm_0_58 ?_
          refine EV.iload_n dX10_comes_93 rfl rfl ?_
          obtain ⟨g17, hf⟩ := pv_gd hf
          refine FV.iald dX10_comes_94 sm_31 g17.1 g17.2 (j := (Int.toNat (a1))) rfl ?_
          refine EV.goto (tgt := 118) dX10_comes_95 (by decide) ?_
          refine EV.weak (L2 := [some (.inr (.inr (0))), some (.inl (a1)), some (.inl (a2)), some (.inl (a3)), none, some (.inl (x7)), none, none, none]) (And.intro rfl (And.intro rfl (And.intro rfl (And.intro rfl (And.intro rfl trivial))))) ?_
          exact tX10_comes_118 hd    hf
      · have hf := pv_gn hf q11
        refine EV.weak (L2 := [some (.inr (.inr (0))), some (.inl (a1)), some (.inl (a2)), none, none, some (.inl (x7)), none, none, none]) (And.intro rfl (And.intro rfl (And.intro rfl (And.intro rfl trivial)))) ?_
        exact tX10_comes_69 hd    hf

set_option maxHeartbeats 4000000 in
set_option maxRecDepth 20000 in
theorem tX10_comes {d N : Nat} {a1 : Int} {a2 : Int} {a3 : Int} {h h' : pv_H}  (hd : 3 ≤ d)  (hf : fX10_comes N a1 a2 a3 h = some h') : CALL yX10_comes cX10_comes 9 none d pv_SM (MM h) [.inr (.inr (0)), .inl (a1), .inl (a2), .inl (a3)] pv_SM (MM h') none := by
  unfold fX10_comes at hf
  refine EV.call (own := RX10) (ini := false) rfl rfl (fun q => by cases q) ⟨[], (List.append_nil _).symm⟩ (Nat.le_of_ble_eq_true rfl) ?_
  refine EV.eqL (L2 := [some (.inr (.inr (0))), some (.inl (a1)), some (.inl (a2)), some (.inl (a3)), none, none, none, none, none]) rfl ?_
  refine EV.iload_n dX10_comes_0 rfl rfl ?_
  refine EV.aload_n dX10_comes_1 rfl rfl ?_
  refine FV.getF (v := 27) dX10_comes_2 sm_0 fl_10_96 rfl rfl hvm_0_54 ?_
  refine EV.iload_n dX10_comes_5 rfl rfl ?_
  obtain ⟨g1, hf⟩ := pv_gd hf
  refine FV.iald dX10_comes_6 sm_27 g1.1 g1.2 (j := (Int.toNat (a1))) rfl ?_
  refine EV.isub dX10_comes_7 ?_
  refine EV.aload_n dX10_comes_8 rfl rfl ?_
  refine FV.getF (v := 2) dX10_comes_9 sm_0 fl_10_17 rfl rfl hvm_0_2 ?_
  refine EV.sipush dX10_comes_12 (by decide) (by decide) ?_
  refine FV.iald dX10_comes_15 sm_2 (by decide) (by decide) (j := 1118) rfl ?_
  obtain ⟨g2, hf⟩ := pv_gd hf
  refine EV.idiv dX10_comes_16 g2 ?_
  obtain ⟨x3, ex3, hf⟩ := pv_bo hf
  refine FV.stiw (L2 := [some (.inr (.inr (0))), some (.inl (a1)), some (.inl (a2)), some (.inl (a3)), some (.inl (x3)), none, none, none, none]) dX10_comes_17 (Nat.le_of_ble_eq_true rfl) ex3 rfl ?_
  refine EV.aload_n dX10_comes_19 rfl rfl ?_
  refine FV.getF (v := 25) dX10_comes_20 sm_0 fl_10_90 rfl rfl hvm_0_52 ?_
  refine EV.iload_n dX10_comes_23 rfl rfl ?_
  obtain ⟨g4, hf⟩ := pv_gd hf
  refine FV.iald dX10_comes_24 sm_25 g4.1 g4.2 (j := (Int.toNat (a1))) rfl ?_
  refine EV.aload_n dX10_comes_25 rfl rfl ?_
  refine FV.getF (v := 26) dX10_comes_26 sm_0 fl_10_93 rfl rfl hvm_0_53 ?_
  refine EV.iload_n dX10_comes_29 rfl rfl ?_
  obtain ⟨g5, hf⟩ := pv_gd hf
  refine FV.iald dX10_comes_30 sm_26 g5.1 g5.2 (j := (Int.toNat (a1))) rfl ?_
  refine EV.if_ne (tgt := 40) dX10_comes_31 (by decide) (fun q6 => ?_) (fun q6 => ?_)
  · have hf := pv_gn hf q6
    refine EV.iload dX10_comes_40 rfl ?_
    refine EV.weak (L2 := [some (.inr (.inr (0))), some (.inl (a1)), some (.inl (a2)), some (.inl (a3)), none, none, none, none, none]) (And.intro rfl (And.intro rfl (And.intro rfl (And.intro rfl trivial)))) ?_
    exact tX10_comes_42 hd    hf
  · have hf := pv_gp hf q6
    refine EV.iload dX10_comes_34 rfl ?_
    refine EV.ineg dX10_comes_36 ?_
    refine EV.goto (tgt := 42) dX10_comes_37 (by decide) ?_
    refine EV.weak (L2 := [some (.inr (.inr (0))), some (.inl (a1)), some (.inl (a2)), some (.inl (a3)), none, none, none, none, none]) (And.intro rfl (And.intro rfl (And.intro rfl (And.intro rfl trivial)))) ?_
    exact tX10_comes_42 hd    hf

noncomputable def fX10_isGoing_2 (N : Nat)   : Nat → Int → pv_H → Option (Int)
  | 0, _, _ => none
  | n + 1, v1, h => if (h 0 39) ≤ v1 then (some (0)) else (if 0 ≤ v1 ∧ v1 < 200 then (if (h 19 (Int.toNat (v1))) = 0 then (pv_b (pv_w (v1 + 1)) fun x4 => fX10_isGoing_2 N   n (x4) h) else (some (1))) else none)

noncomputable def fX10_isGoing (N : Nat)  (h : pv_H) : Option (Int) :=
  fX10_isGoing_2 N   N (0) h

set_option maxHeartbeats 4000000 in
set_option maxRecDepth 20000 in
theorem tX10_isGoing_2 {d N : Nat}   {h : pv_H} {r : Int} (hd : 1 ≤ d)   : ∀ (n : Nat) (v1 : Int) , fX10_isGoing_2 N   n v1 h = some r → EV RX10 cX10_isGoing 2 (some .boolean) false d pv_SM (MM h) (some (.inl r)) 2 [some (.inr (.inr (0))), some (.inl (v1))] [] pv_SM (MM h) := by
  intro n
  induction n with
  | zero =>
    intro v1   hf
    cases hf
  | succ n ih =>
    intro v1   hf
    rw [fX10_isGoing_2] at hf
    refine EV.iload_n dX10_isGoing_2 rfl rfl ?_
    refine EV.aload_n dX10_isGoing_3 rfl rfl ?_
    refine FV.getI dX10_isGoing_4 sm_0 fl_10_325 rfl ?_
    refine EV.icmp_ge (tgt := 27) dX10_isGoing_7 (by decide) (fun q1 => ?_) (fun q1 => ?_)
    · have hf := pv_gp hf q1
      refine EV.iconst dX10_isGoing_27 (by decide) (by decide) ?_
      exact FV.zretp dX10_isGoing_28 (by decide) hf
    · have hf := pv_gn hf q1
      refine EV.aload_n dX10_isGoing_10 rfl rfl ?_
      refine FV.getF (v := 19) dX10_isGoing_11 sm_0 fl_10_72 rfl rfl hvm_0_46 ?_
      refine EV.iload_n dX10_isGoing_14 rfl rfl ?_
      obtain ⟨g2, hf⟩ := pv_gd hf
      refine FV.zald dX10_isGoing_15 sm_19 g2.1 g2.2 (j := (Int.toNat (v1))) rfl ?_
      refine EV.if_eq (tgt := 21) dX10_isGoing_16 (by decide) (fun q3 => ?_) (fun q3 => ?_)
      · have hf := pv_gp hf q3
        obtain ⟨x4, ex4, hf⟩ := pv_bo hf
        refine FV.inc (L2 := [some (.inr (.inr (0))), some (.inl (x4))]) dX10_isGoing_21 rfl (Nat.le_of_ble_eq_true rfl) ex4 rfl ?_
        refine EV.goto (tgt := 2) dX10_isGoing_24 (by decide) ?_
        refine EV.weak (L2 := [some (.inr (.inr (0))), some (.inl (x4))]) (And.intro rfl (And.intro rfl trivial)) ?_
        exact ih _   hf
      · have hf := pv_gn hf q3
        refine EV.iconst dX10_isGoing_19 (by decide) (by decide) ?_
        exact FV.zretp dX10_isGoing_20 (by decide) hf

set_option maxHeartbeats 4000000 in
set_option maxRecDepth 20000 in
theorem tX10_isGoing {d N : Nat}  {h : pv_H} {r : Int} (hd : 1 ≤ d)  (hf : fX10_isGoing N  h = some r) : CALL yX10_isGoing cX10_isGoing 2 (some .boolean) d pv_SM (MM h) [.inr (.inr (0))] pv_SM (MM h) (some (.inl r)) := by
  unfold fX10_isGoing at hf
  refine EV.call (own := RX10) (ini := false) rfl rfl (fun q => by cases q) ⟨[], (List.append_nil _).symm⟩ (Nat.le_of_ble_eq_true rfl) ?_
  refine EV.eqL (L2 := [some (.inr (.inr (0))), none]) rfl ?_
  refine EV.iconst dX10_isGoing_0 (by decide) (by decide) ?_
  refine FV.sti (L2 := [some (.inr (.inr (0))), some (.inl (0))]) dX10_isGoing_1 rfl (Nat.le_of_ble_eq_true rfl) rfl rfl ?_
  refine EV.weak (L2 := [some (.inr (.inr (0))), some (.inl (0))]) (And.intro rfl (And.intro rfl trivial)) ?_
  exact tX10_isGoing_2 hd   _ _   hf

noncomputable def fX10_weakest_42 (N : Nat) (k6 : Int → Int → Int → pv_H → Option (Int))  (v1 : Int) (v2 : Int) (v3 : Int) (h : pv_H) : Option (Int) :=
  pv_b (pv_w (v3 + 1)) fun x8 => k6 (v1) (v2) (x8) h

noncomputable def fX10_weakest_6 (N : Nat)   : Nat → Int → Int → Int → pv_H → Option (Int)
  | 0, _, _, _, _ => none
  | n + 1, v1, v2, v3, h => if (h 0 19) ≤ v3 then (some (v1)) else (pv_c1 (fX10_loadOf N v3 h) fun r4 => if 0 ≤ v3 ∧ v3 < 60 then (pv_b (pv_w (r4 - (h 11 (Int.toNat (v3))))) fun x6 => if v2 < x6 then (fX10_weakest_42 N (fun v1_ v2_ v3_ hh => fX10_weakest_6 N   n v1_ v2_ v3_ hh)  (v3) (x6) (v3) h) else (fX10_weakest_42 N (fun v1_ v2_ v3_ hh => fX10_weakest_6 N   n v1_ v2_ v3_ hh)  (v1) (v2) (v3) h)) else none)

noncomputable def fX10_weakest (N : Nat)  (h : pv_H) : Option (Int) :=
  pv_b (-1) fun x1 => fX10_weakest_6 N   N (x1) (0) (0) h

set_option maxHeartbeats 4000000 in
set_option maxRecDepth 20000 in
theorem tX10_weakest_42 {d N : Nat} {k6 : Int → Int → Int → pv_H → Option (Int)}  {v1 : Int} {v2 : Int} {v3 : Int} {h : pv_H} {r : Int} (hd : 3 ≤ d) (hk6 : ∀ (v1 : Int) (v2 : Int) (v3 : Int) , k6 v1 v2 v3 h = some r → EV RX10 cX10_weakest 5 (some .int) false d pv_SM (MM h) (some (.inl r)) 6 [some (.inr (.inr (0))), some (.inl (v1)), some (.inl (v2)), some (.inl (v3)), none] [] pv_SM (MM h))   (hf : fX10_weakest_42 N k6  v1 v2 v3 h = some r) : EV RX10 cX10_weakest 5 (some .int) false d pv_SM (MM h) (some (.inl r)) 42 [some (.inr (.inr (0))), some (.inl (v1)), some (.inl (v2)), some (.inl (v3)), none] [] pv_SM (MM h) := by
  unfold fX10_weakest_42 at hf
  obtain ⟨x8, ex8, hf⟩ := pv_bo hf
  refine FV.inc (L2 := [some (.inr (.inr (0))), some (.inl (v1)), some (.inl (v2)), some (.inl (x8)), none]) dX10_weakest_42 rfl (Nat.le_of_ble_eq_true rfl) ex8 rfl ?_
  refine EV.goto (tgt := 6) dX10_weakest_45 (by decide) ?_
  refine EV.weak (L2 := [some (.inr (.inr (0))), some (.inl (v1)), some (.inl (v2)), some (.inl (x8)), none]) (And.intro rfl (And.intro rfl (And.intro rfl (And.intro rfl trivial)))) ?_
  exact hk6 _ _ _   hf

set_option maxHeartbeats 4000000 in
set_option maxRecDepth 20000 in
theorem tX10_weakest_6 {d N : Nat}   {h : pv_H} {r : Int} (hd : 3 ≤ d)   : ∀ (n : Nat) (v1 : Int) (v2 : Int) (v3 : Int) , fX10_weakest_6 N   n v1 v2 v3 h = some r → EV RX10 cX10_weakest 5 (some .int) false d pv_SM (MM h) (some (.inl r)) 6 [some (.inr (.inr (0))), some (.inl (v1)), some (.inl (v2)), some (.inl (v3)), none] [] pv_SM (MM h) := by
  intro n
  induction n with
  | zero =>
    intro v1 v2 v3   hf
    cases hf
  | succ n ih =>
    intro v1 v2 v3   hf
    rw [fX10_weakest_6] at hf
    refine EV.iload_n dX10_weakest_6 rfl rfl ?_
    refine EV.aload_n dX10_weakest_7 rfl rfl ?_
    refine FV.getI dX10_weakest_8 sm_0 fl_10_267 rfl ?_
    refine EV.icmp_ge (tgt := 48) dX10_weakest_11 (by decide) (fun q2 => ?_) (fun q2 => ?_)
    · have hf := pv_gp hf q2
      refine EV.iload_n dX10_weakest_48 rfl rfl ?_
      exact FV.iretp dX10_weakest_49 hf
    · have hf := pv_gn hf q2
      refine EV.aload_n dX10_weakest_14 rfl rfl ?_
      refine EV.iload_n dX10_weakest_15 rfl rfl ?_
      obtain ⟨r4, hc3, hf⟩ := pv_c1o hf
      refine EV.invV (As := [.inl (v3)]) (st := []) (d1 := d - 1) (sh1 := pv_SM) (h1 := MM h) (r1 := (some (.inl r4))) dX10_weakest_16 sm_0 (by decide) md_X10_loadOf ml_X10_343 im_X10_loadOf se_X10_loadOf (tX10_loadOf (by omega)  hc3) (by omega) rfl rfl (Nat.le_of_ble_eq_true rfl) ⟨[], (List.append_nil _).symm⟩ ?_
      refine EV.eqS (st2 := [.inl (r4)]) rfl ?_
      refine EV.aload_n dX10_weakest_19 rfl rfl ?_
      refine FV.getF (v := 11) dX10_weakest_20 sm_0 fl_10_48 rfl rfl hvm_0_26 ?_
      refine EV.iload_n dX10_weakest_23 rfl rfl ?_
      obtain ⟨g5, hf⟩ := pv_gd hf
      refine FV.iald dX10_weakest_24 sm_11 g5.1 g5.2 (j := (Int.toNat (v3))) rfl ?_
      refine EV.isub dX10_weakest_25 ?_
      obtain ⟨x6, ex6, hf⟩ := pv_bo hf
      refine FV.stiw (L2 := [some (.inr (.inr (0))), some (.inl (v1)), some (.inl (v2)), some (.inl (v3)), some (.inl (x6))]) dX10_weakest_26 (Nat.le_of_ble_eq_true rfl) ex6 rfl ?_
      refine EV.iload dX10_weakest_28 rfl ?_
      refine EV.iload_n dX10_weakest_30 rfl rfl ?_
      refine EV.icmp_gt (tgt := 37) dX10_weakest_31 (by decide) (fun q7 => ?_) (fun q7 => ?_)
      · have hf := pv_gp hf q7
        refine EV.iload dX10_weakest_37 rfl ?_
        refine FV.sti (L2 := [some (.inr (.inr (0))), some (.inl (v1)), some (.inl (x6)), some (.inl (v3)), some (.inl (x6))]) dX10_weakest_39 rfl (Nat.le_of_ble_eq_true rfl) rfl rfl ?_
        refine EV.iload_n dX10_weakest_40 rfl rfl ?_
        refine FV.sti (L2 := [some (.inr (.inr (0))), some (.inl (v3)), some (.inl (x6)), some (.inl (v3)), some (.inl (x6))]) dX10_weakest_41 rfl (Nat.le_of_ble_eq_true rfl) rfl rfl ?_
        refine EV.weak (L2 := [some (.inr (.inr (0))), some (.inl (v3)), some (.inl (x6)), some (.inl (v3)), none]) (And.intro rfl (And.intro rfl (And.intro rfl (And.intro rfl trivial)))) ?_
        exact tX10_weakest_42 hd (ih)   hf
      · have hf := pv_gn hf q7
        refine EV.goto (tgt := 42) dX10_weakest_34 (by decide) ?_
        refine EV.weak (L2 := [some (.inr (.inr (0))), some (.inl (v1)), some (.inl (v2)), some (.inl (v3)), none]) (And.intro rfl (And.intro rfl (And.intro rfl (And.intro rfl trivial)))) ?_
        exact tX10_weakest_42 hd (ih)   hf

set_option maxHeartbeats 4000000 in
set_option maxRecDepth 20000 in
theorem tX10_weakest {d N : Nat}  {h : pv_H} {r : Int} (hd : 3 ≤ d)  (hf : fX10_weakest N  h = some r) : CALL yX10_weakest cX10_weakest 5 (some .int) d pv_SM (MM h) [.inr (.inr (0))] pv_SM (MM h) (some (.inl r)) := by
  unfold fX10_weakest at hf
  refine EV.call (own := RX10) (ini := false) rfl rfl (fun q => by cases q) ⟨[], (List.append_nil _).symm⟩ (Nat.le_of_ble_eq_true rfl) ?_
  refine EV.eqL (L2 := [some (.inr (.inr (0))), none, none, none, none]) rfl ?_
  refine EV.iconst dX10_weakest_0 (by decide) (by decide) ?_
  obtain ⟨x1, ex1, hf⟩ := pv_bo hf
  refine FV.sti (L2 := [some (.inr (.inr (0))), some (.inl (x1)), none, none, none]) dX10_weakest_1 rfl (Nat.le_of_ble_eq_true rfl) ex1 rfl ?_
  refine EV.iconst dX10_weakest_2 (by decide) (by decide) ?_
  refine FV.sti (L2 := [some (.inr (.inr (0))), some (.inl (x1)), some (.inl (0)), none, none]) dX10_weakest_3 rfl (Nat.le_of_ble_eq_true rfl) rfl rfl ?_
  refine EV.iconst dX10_weakest_4 (by decide) (by decide) ?_
  refine FV.sti (L2 := [some (.inr (.inr (0))), some (.inl (x1)), some (.inl (0)), some (.inl (0)), none]) dX10_weakest_5 rfl (Nat.le_of_ble_eq_true rfl) rfl rfl ?_
  refine EV.weak (L2 := [some (.inr (.inr (0))), some (.inl (x1)), some (.inl (0)), some (.inl (0)), none]) (And.intro rfl (And.intro rfl (And.intro rfl (And.intro rfl trivial)))) ?_
  exact tX10_weakest_6 hd   _ _ _ _   hf

noncomputable def fX10_bendOf_57 (N : Nat) (k9 : Int → Int → pv_H → Option (Int)) (a1 : Int) (v2 : Int) (v3 : Int) (h : pv_H) : Option (Int) :=
  k9 (v2) (v3) h

noncomputable def fX10_bendOf_54 (N : Nat) (k9 : Int → Int → pv_H → Option (Int)) (a1 : Int) (v2 : Int) (v4 : Int) (h : pv_H) : Option (Int) :=
  fX10_bendOf_57 N (k9) a1 (v2) (v4) h

noncomputable def fX10_bendOf_9 (N : Nat)  (a1 : Int) : Nat → Int → Int → pv_H → Option (Int)
  | 0, _, _, _ => none
  | n + 1, v2, v3, h => if v3 ≤ v2 then (some (v2)) else (pv_b (pv_w (Int.tdiv (pv_w (v2 + v3)) 2)) fun x3 => if (h 0 30) < x3 then (fX10_bendOf_54 N (fun v2_ v3_ hh => fX10_bendOf_9 N  a1 n v2_ v3_ hh) a1 (v2) (x3) h) else (pv_c1 (fX10_loadBy N a1 x3 h) fun r6 => if 0 ≤ a1 ∧ a1 < 60 then (if (h 11 (Int.toNat (a1))) < r6 then (fX10_bendOf_54 N (fun v2_ v3_ hh => fX10_bendOf_9 N  a1 n v2_ v3_ hh) a1 (v2) (x3) h) else (pv_b (pv_w (x3 + 1)) fun x9 => fX10_bendOf_57 N (fun v2_ v3_ hh => fX10_bendOf_9 N  a1 n v2_ v3_ hh) a1 (x9) (v3) h)) else none))

noncomputable def fX10_bendOf (N : Nat) (a1 : Int) (h : pv_H) : Option (Int) :=
  pv_b (pv_w ((h 0 30) + 1)) fun x1 => fX10_bendOf_9 N  a1 N (0) (x1) h

set_option maxHeartbeats 4000000 in
set_option maxRecDepth 20000 in
theorem tX10_bendOf_57 {d N : Nat} {k9 : Int → Int → pv_H → Option (Int)} {a1 : Int} {v2 : Int} {v3 : Int} {h : pv_H} {r : Int} (hd : 2 ≤ d) (hk9 : ∀ (v2 : Int) (v3 : Int) , k9 v2 v3 h = some r → EV RX10 cX10_bendOf 5 (some .int) false d pv_SM (MM h) (some (.inl r)) 9 [some (.inr (.inr (0))), some (.inl (a1)), some (.inl (v2)), some (.inl (v3)), none] [] pv_SM (MM h))   (hf : fX10_bendOf_57 N k9 a1 v2 v3 h = some r) : EV RX10 cX10_bendOf 5 (some .int) false d pv_SM (MM h) (some (.inl r)) 57 [some (.inr (.inr (0))), some (.inl (a1)), some (.inl (v2)), some (.inl (v3)), none] [] pv_SM (MM h) := by
  unfold fX10_bendOf_57 at hf
  refine EV.goto (tgt := 9) dX10_bendOf_57 (by decide) ?_
  refine EV.weak (L2 := [some (.inr (.inr (0))), some (.inl (a1)), some (.inl (v2)), some (.inl (v3)), none]) (And.intro rfl (And.intro rfl (And.intro rfl (And.intro rfl trivial)))) ?_
  exact hk9 _ _   hf

set_option maxHeartbeats 4000000 in
set_option maxRecDepth 20000 in
theorem tX10_bendOf_54 {d N : Nat} {k9 : Int → Int → pv_H → Option (Int)} {a1 : Int} {v2 : Int} {v4 : Int} {h : pv_H} {r : Int} (hd : 2 ≤ d) (hk9 : ∀ (v2 : Int) (v3 : Int) , k9 v2 v3 h = some r → EV RX10 cX10_bendOf 5 (some .int) false d pv_SM (MM h) (some (.inl r)) 9 [some (.inr (.inr (0))), some (.inl (a1)), some (.inl (v2)), some (.inl (v3)), none] [] pv_SM (MM h))   (hf : fX10_bendOf_54 N k9 a1 v2 v4 h = some r) : EV RX10 cX10_bendOf 5 (some .int) false d pv_SM (MM h) (some (.inl r)) 54 [some (.inr (.inr (0))), some (.inl (a1)), some (.inl (v2)), none, some (.inl (v4))] [] pv_SM (MM h) := by
  unfold fX10_bendOf_54 at hf
  refine EV.iload dX10_bendOf_54 rfl ?_
  refine FV.sti (L2 := [some (.inr (.inr (0))), some (.inl (a1)), some (.inl (v2)), some (.inl (v4)), some (.inl (v4))]) dX10_bendOf_56 rfl (Nat.le_of_ble_eq_true rfl) rfl rfl ?_
  refine EV.weak (L2 := [some (.inr (.inr (0))), some (.inl (a1)), some (.inl (v2)), some (.inl (v4)), none]) (And.intro rfl (And.intro rfl (And.intro rfl (And.intro rfl trivial)))) ?_
  exact tX10_bendOf_57 hd (hk9)   hf

set_option maxHeartbeats 4000000 in
set_option maxRecDepth 20000 in
theorem tX10_bendOf_9 {d N : Nat}  {a1 : Int} {h : pv_H} {r : Int} (hd : 2 ≤ d)   : ∀ (n : Nat) (v2 : Int) (v3 : Int) , fX10_bendOf_9 N  a1 n v2 v3 h = some r → EV RX10 cX10_bendOf 5 (some .int) false d pv_SM (MM h) (some (.inl r)) 9 [some (.inr (.inr (0))), some (.inl (a1)), some (.inl (v2)), some (.inl (v3)), none] [] pv_SM (MM h) := by
  intro n
  induction n with
  | zero =>
    intro v2 v3   hf
    cases hf
  | succ n ih =>
    intro v2 v3   hf
    rw [fX10_bendOf_9] at hf
    refine EV.iload_n dX10_bendOf_9 rfl rfl ?_
    refine EV.iload_n dX10_bendOf_10 rfl rfl ?_
    refine EV.icmp_ge (tgt := 60) dX10_bendOf_11 (by decide) (fun q2 => ?_) (fun q2 => ?_)
    · have hf := pv_gp hf q2
      refine EV.iload_n dX10_bendOf_60 rfl rfl ?_
      exact FV.iretp dX10_bendOf_61 hf
    · have hf := pv_gn hf q2
      refine EV.iload_n dX10_bendOf_14 rfl rfl ?_
      refine EV.iload_n dX10_bendOf_15 rfl rfl ?_
      refine EV.iadd dX10_bendOf_16 ?_
      refine EV.iconst dX10_bendOf_17 (by decide) (by decide) ?_
      refine EV.idiv dX10_bendOf_18 (by decide) ?_
      obtain ⟨x3, ex3, hf⟩ := pv_bo hf
      refine FV.stiw (L2 := [some (.inr (.inr (0))), some (.inl (a1)), some (.inl (v2)), some (.inl (v3)), some (.inl (x3))]) dX10_bendOf_19 (Nat.le_of_ble_eq_true rfl) ex3 rfl ?_
      refine EV.iload dX10_bendOf_21 rfl ?_
      refine EV.aload_n dX10_bendOf_23 rfl rfl ?_
      refine FV.getI dX10_bendOf_24 sm_0 fl_10_306 rfl ?_
      refine EV.icmp_gt (tgt := 54) dX10_bendOf_27 (by decide) (fun q4 => ?_) (fun q4 => ?_)
      · have hf := pv_gp hf q4
        refine EV.weak (L2 := [some (.inr (.inr (0))), some (.inl (a1)), some (.inl (v2)), none, some (.inl (x3))]) (And.intro rfl (And.intro rfl (And.intro rfl (And.intro rfl trivial)))) ?_
        exact tX10_bendOf_54 hd (ih)   hf
      · have hf := pv_gn hf q4
        refine EV.aload_n dX10_bendOf_30 rfl rfl ?_
        refine EV.iload_n dX10_bendOf_31 rfl rfl ?_
        refine EV.iload dX10_bendOf_32 rfl ?_
        obtain ⟨r6, hc5, hf⟩ := pv_c1o hf
        refine EV.invV (As := [.inl (a1), .inl (x3)]) (st := []) (d1 := d - 1) (sh1 := pv_SM) (h1 := MM h) (r1 := (some (.inl r6))) dX10_bendOf_34 sm_0 (by decide) md_X10_loadBy ml_X10_320 im_X10_loadBy se_X10_loadBy (tX10_loadBy (by omega)  hc5) (by omega) rfl rfl (Nat.le_of_ble_eq_true rfl) ⟨[], (List.append_nil _).symm⟩ ?_
        refine EV.eqS (st2 := [.inl (r6)]) rfl ?_
        refine EV.aload_n dX10_bendOf_37 rfl rfl ?_
        refine FV.getF (v := 11) dX10_bendOf_38 sm_0 fl_10_48 rfl rfl hvm_0_26 ?_
        refine EV.iload_n dX10_bendOf_41 rfl rfl ?_
        obtain ⟨g7, hf⟩ := pv_gd hf
        refine FV.iald dX10_bendOf_42 sm_11 g7.1 g7.2 (j := (Int.toNat (a1))) rfl ?_
        refine EV.icmp_gt (tgt := 54) dX10_bendOf_43 (by decide) (fun q8 => ?_) (fun q8 => ?_)
        · have hf := pv_gp hf q8
          refine EV.weak (L2 := [some (.inr (.inr (0))), some (.inl (a1)), some (.inl (v2)), none, some (.inl (x3))]) (And.intro rfl (And.intro rfl (And.intro rfl (And.intro rfl trivial)))) ?_
          exact tX10_bendOf_54 hd (ih)   hf
        · have hf := pv_gn hf q8
          refine EV.iload dX10_bendOf_46 rfl ?_
          refine EV.iconst dX10_bendOf_48 (by decide) (by decide) ?_
          refine EV.iadd dX10_bendOf_49 ?_
          obtain ⟨x9, ex9, hf⟩ := pv_bo hf
          refine FV.sti (L2 := [some (.inr (.inr (0))), some (.inl (a1)), some (.inl (x9)), some (.inl (v3)), some (.inl (x3))]) dX10_bendOf_50 rfl (Nat.le_of_ble_eq_true rfl) ex9 rfl ?_
          refine EV.goto (tgt := 57) dX10_bendOf_51 (by decide) ?_
          refine EV.weak (L2 := [some (.inr (.inr (0))), some (.inl (a1)), some (.inl (x9)), some (.inl (v3)), none]) (And.intro rfl (And.intro rfl (And.intro rfl (And.intro rfl trivial)))) ?_
          exact tX10_bendOf_57 hd (ih)   hf

set_option maxHeartbeats 4000000 in
set_option maxRecDepth 20000 in
theorem tX10_bendOf {d N : Nat} {a1 : Int} {h : pv_H} {r : Int} (hd : 2 ≤ d)  (hf : fX10_bendOf N a1 h = some r) : CALL yX10_bendOf cX10_bendOf 5 (some .int) d pv_SM (MM h) [.inr (.inr (0)), .inl (a1)] pv_SM (MM h) (some (.inl r)) := by
  unfold fX10_bendOf at hf
  refine EV.call (own := RX10) (ini := false) rfl rfl (fun q => by cases q) ⟨[], (List.append_nil _).symm⟩ (Nat.le_of_ble_eq_true rfl) ?_
  refine EV.eqL (L2 := [some (.inr (.inr (0))), some (.inl (a1)), none, none, none]) rfl ?_
  refine EV.iconst dX10_bendOf_0 (by decide) (by decide) ?_
  refine FV.sti (L2 := [some (.inr (.inr (0))), some (.inl (a1)), some (.inl (0)), none, none]) dX10_bendOf_1 rfl (Nat.le_of_ble_eq_true rfl) rfl rfl ?_
  refine EV.aload_n dX10_bendOf_2 rfl rfl ?_
  refine FV.getI dX10_bendOf_3 sm_0 fl_10_306 rfl ?_
  refine EV.iconst dX10_bendOf_6 (by decide) (by decide) ?_
  refine EV.iadd dX10_bendOf_7 ?_
  obtain ⟨x1, ex1, hf⟩ := pv_bo hf
  refine FV.sti (L2 := [some (.inr (.inr (0))), some (.inl (a1)), some (.inl (0)), some (.inl (x1)), none]) dX10_bendOf_8 rfl (Nat.le_of_ble_eq_true rfl) ex1 rfl ?_
  refine EV.weak (L2 := [some (.inr (.inr (0))), some (.inl (a1)), some (.inl (0)), some (.inl (x1)), none]) (And.intro rfl (And.intro rfl (And.intro rfl (And.intro rfl trivial)))) ?_
  exact tX10_bendOf_9 hd   _ _ _   hf

noncomputable def fX10_firstTick_66 (N : Nat)   (v2 : Int) (h : pv_H) : Option (Int) :=
  some (v2)

noncomputable def fX10_firstTick_42 (N : Nat)   : Nat → Int → Int → pv_H → Option (Int)
  | 0, _, _, _ => none
  | n + 1, v1, v2, h => if (h 0 29) ≤ v2 then (fX10_firstTick_66 N   (v2) h) else (if 0 ≤ v2 ∧ v2 < 4000 then (if v1 ≤ (h 12 (Int.toNat (v2))) then (fX10_firstTick_66 N   (v2) h) else (pv_b (pv_w (v2 + 1)) fun x9 => fX10_firstTick_42 N   n (v1) (x9) h)) else none)

noncomputable def fX10_firstTick_33 (N : Nat) (k9 : Int → Int → pv_H → Option (Int))  (v2 : Int) (s0 : Int) (h : pv_H) : Option (Int) :=
  pv_b (pv_w (v2 + 1)) fun x10 => k9 (s0) (x10) h

noncomputable def fX10_firstTick_9 (N : Nat)   : Nat → Int → Int → pv_H → Option (Int)
  | 0, _, _, _ => none
  | n + 1, v1, v2, h => if (h 0 19) ≤ v2 then (fX10_firstTick_42 N   N (v1) (0) h) else (pv_c1 (fX10_bendOf N v2 h) fun r4 => if v1 ≤ r4 then (fX10_firstTick_33 N (fun v1_ v2_ hh => fX10_firstTick_9 N   n v1_ v2_ hh)  (v2) (v1) h) else (fX10_firstTick_33 N (fun v1_ v2_ hh => fX10_firstTick_9 N   n v1_ v2_ hh)  (v2) (r4) h))

noncomputable def fX10_firstTick (N : Nat)  (h : pv_H) : Option (Int) :=
  pv_b (pv_w ((h 0 30) + 1)) fun x1 => fX10_firstTick_9 N   N (x1) (0) h

set_option maxHeartbeats 4000000 in
set_option maxRecDepth 20000 in
theorem tX10_firstTick_66 {d N : Nat}   {v2 : Int} {h : pv_H} {r : Int} (hd : 3 ≤ d)    (hf : fX10_firstTick_66 N   v2 h = some r) : EV RX10 cX10_firstTick 4 (some .int) false d pv_SM (MM h) (some (.inl r)) 66 [none, none, some (.inl (v2)), none] [] pv_SM (MM h) := by
  unfold fX10_firstTick_66 at hf
  refine EV.iload_n dX10_firstTick_66 rfl rfl ?_
  exact FV.iretp dX10_firstTick_67 hf

set_option maxHeartbeats 4000000 in
set_option maxRecDepth 20000 in
theorem tX10_firstTick_42 {d N : Nat}   {h : pv_H} {r : Int} (hd : 3 ≤ d)   : ∀ (n : Nat) (v1 : Int) (v2 : Int) , fX10_firstTick_42 N   n v1 v2 h = some r → EV RX10 cX10_firstTick 4 (some .int) false d pv_SM (MM h) (some (.inl r)) 42 [some (.inr (.inr (0))), some (.inl (v1)), some (.inl (v2)), none] [] pv_SM (MM h) := by
  intro n
  induction n with
  | zero =>
    intro v1 v2   hf
    cases hf
  | succ n ih =>
    intro v1 v2   hf
    rw [fX10_firstTick_42] at hf
    refine EV.iload_n dX10_firstTick_42 rfl rfl ?_
    refine EV.aload_n dX10_firstTick_43 rfl rfl ?_
    refine FV.getI dX10_firstTick_44 sm_0 fl_10_303 rfl ?_
    refine EV.icmp_ge (tgt := 66) dX10_firstTick_47 (by decide) (fun q6 => ?_) (fun q6 => ?_)
    · have hf := pv_gp hf q6
      refine EV.weak (L2 := [none, none, some (.inl (v2)), none]) (And.intro rfl trivial) ?_
      exact tX10_firstTick_66 hd    hf
    · have hf := pv_gn hf q6
      refine EV.aload_n dX10_firstTick_50 rfl rfl ?_
      refine FV.getF (v := 12) dX10_firstTick_51 sm_0 fl_10_51 rfl rfl hvm_0_31 ?_
      refine EV.iload_n dX10_firstTick_54 rfl rfl ?_
      obtain ⟨g7, hf⟩ := pv_gd hf
      refine FV.iald dX10_firstTick_55 sm_12 g7.1 g7.2 (j := (Int.toNat (v2))) rfl ?_
      refine EV.iload_n dX10_firstTick_56 rfl rfl ?_
      refine EV.icmp_ge (tgt := 66) dX10_firstTick_57 (by decide) (fun q8 => ?_) (fun q8 => ?_)
      · have hf := pv_gp hf q8
        refine EV.weak (L2 := [none, none, some (.inl (v2)), none]) (And.intro rfl trivial) ?_
        exact tX10_firstTick_66 hd    hf
      · have hf := pv_gn hf q8
        obtain ⟨x9, ex9, hf⟩ := pv_bo hf
        refine FV.inc (L2 := [some (.inr (.inr (0))), some (.inl (v1)), some (.inl (x9)), none]) dX10_firstTick_60 rfl (Nat.le_of_ble_eq_true rfl) ex9 rfl ?_
        refine EV.goto (tgt := 42) dX10_firstTick_63 (by decide) ?_
        refine EV.weak (L2 := [some (.inr (.inr (0))), some (.inl (v1)), some (.inl (x9)), none]) (And.intro rfl (And.intro rfl (And.intro rfl trivial))) ?_
        exact ih _ _   hf

set_option maxHeartbeats 4000000 in
set_option maxRecDepth 20000 in
theorem tX10_firstTick_33 {d N : Nat} {k9 : Int → Int → pv_H → Option (Int)}  {v2 : Int} {s0 : Int} {h : pv_H} {r : Int} (hd : 3 ≤ d) (hk9 : ∀ (v1 : Int) (v2 : Int) , k9 v1 v2 h = some r → EV RX10 cX10_firstTick 4 (some .int) false d pv_SM (MM h) (some (.inl r)) 9 [some (.inr (.inr (0))), some (.inl (v1)), some (.inl (v2)), none] [] pv_SM (MM h))   (hf : fX10_firstTick_33 N k9  v2 s0 h = some r) : EV RX10 cX10_firstTick 4 (some .int) false d pv_SM (MM h) (some (.inl r)) 33 [some (.inr (.inr (0))), none, some (.inl (v2)), none] [.inl (s0)] pv_SM (MM h) := by
  unfold fX10_firstTick_33 at hf
  refine FV.sti (L2 := [some (.inr (.inr (0))), some (.inl (s0)), some (.inl (v2)), none]) dX10_firstTick_33 rfl (Nat.le_of_ble_eq_true rfl) rfl rfl ?_
  obtain ⟨x10, ex10, hf⟩ := pv_bo hf
  refine FV.inc (L2 := [some (.inr (.inr (0))), some (.inl (s0)), some (.inl (x10)), none]) dX10_firstTick_34 rfl (Nat.le_of_ble_eq_true rfl) ex10 rfl ?_
  refine EV.goto (tgt := 9) dX10_firstTick_37 (by decide) ?_
  refine EV.weak (L2 := [some (.inr (.inr (0))), some (.inl (s0)), some (.inl (x10)), none]) (And.intro rfl (And.intro rfl (And.intro rfl trivial))) ?_
  exact hk9 _ _   hf

set_option maxHeartbeats 4000000 in
set_option maxRecDepth 20000 in
theorem tX10_firstTick_9 {d N : Nat}   {h : pv_H} {r : Int} (hd : 3 ≤ d)   : ∀ (n : Nat) (v1 : Int) (v2 : Int) , fX10_firstTick_9 N   n v1 v2 h = some r → EV RX10 cX10_firstTick 4 (some .int) false d pv_SM (MM h) (some (.inl r)) 9 [some (.inr (.inr (0))), some (.inl (v1)), some (.inl (v2)), none] [] pv_SM (MM h) := by
  intro n
  induction n with
  | zero =>
    intro v1 v2   hf
    cases hf
  | succ n ih =>
    intro v1 v2   hf
    rw [fX10_firstTick_9] at hf
    refine EV.iload_n dX10_firstTick_9 rfl rfl ?_
    refine EV.aload_n dX10_firstTick_10 rfl rfl ?_
    refine FV.getI dX10_firstTick_11 sm_0 fl_10_267 rfl ?_
    refine EV.icmp_ge (tgt := 40) dX10_firstTick_14 (by decide) (fun q2 => ?_) (fun q2 => ?_)
    · have hf := pv_gp hf q2
      refine EV.iconst dX10_firstTick_40 (by decide) (by decide) ?_
      refine FV.sti (L2 := [some (.inr (.inr (0))), some (.inl (v1)), some (.inl (0)), none]) dX10_firstTick_41 rfl (Nat.le_of_ble_eq_true rfl) rfl rfl ?_
      refine EV.weak (L2 := [some (.inr (.inr (0))), some (.inl (v1)), some (.inl (0)), none]) (And.intro rfl (And.intro rfl (And.intro rfl trivial))) ?_
      exact tX10_firstTick_42 hd   _ _ _   hf
    · have hf := pv_gn hf q2
      refine EV.aload_n dX10_firstTick_17 rfl rfl ?_
      refine EV.iload_n dX10_firstTick_18 rfl rfl ?_
      obtain ⟨r4, hc3, hf⟩ := pv_c1o hf
      refine EV.invV (As := [.inl (v2)]) (st := []) (d1 := d - 1) (sh1 := pv_SM) (h1 := MM h) (r1 := (some (.inl r4))) dX10_firstTick_19 sm_0 (by decide) md_X10_bendOf ml_X10_387 im_X10_bendOf se_X10_bendOf (tX10_bendOf (by omega)  hc3) (by omega) rfl rfl (Nat.le_of_ble_eq_true rfl) ⟨[], (List.append_nil _).symm⟩ ?_
      refine EV.eqS (st2 := [.inl (r4)]) rfl ?_
      refine FV.sti (L2 := [some (.inr (.inr (0))), some (.inl (v1)), some (.inl (v2)), some (.inl (r4))]) dX10_firstTick_22 rfl (Nat.le_of_ble_eq_true rfl) rfl rfl ?_
      refine EV.iload_n dX10_firstTick_23 rfl rfl ?_
      refine EV.iload_n dX10_firstTick_24 rfl rfl ?_
      refine EV.icmp_ge (tgt := 32) dX10_firstTick_25 (by decide) (fun q5 => ?_) (fun q5 => ?_)
      · have hf := pv_gp hf q5
        refine EV.iload_n dX10_firstTick_32 rfl rfl ?_
        refine EV.weak (L2 := [some (.inr (.inr (0))), none, some (.inl (v2)), none]) (And.intro rfl (And.intro rfl trivial)) ?_
        exact tX10_firstTick_33 hd (ih)   hf
      · have hf := pv_gn hf q5
        refine EV.iload_n dX10_firstTick_28 rfl rfl ?_
        refine EV.goto (tgt := 33) dX10_firstTick_29 (by decide) ?_
        refine EV.weak (L2 := [some (.inr (.inr (0))), none, some (.inl (v2)), none]) (And.intro rfl (And.intro rfl trivial)) ?_
        exact tX10_firstTick_33 hd (ih)   hf

set_option maxHeartbeats 4000000 in
set_option maxRecDepth 20000 in
theorem tX10_firstTick {d N : Nat}  {h : pv_H} {r : Int} (hd : 3 ≤ d)  (hf : fX10_firstTick N  h = some r) : CALL yX10_firstTick cX10_firstTick 4 (some .int) d pv_SM (MM h) [.inr (.inr (0))] pv_SM (MM h) (some (.inl r)) := by
  unfold fX10_firstTick at hf
  refine EV.call (own := RX10) (ini := false) rfl rfl (fun q => by cases q) ⟨[], (List.append_nil _).symm⟩ (Nat.le_of_ble_eq_true rfl) ?_
  refine EV.eqL (L2 := [some (.inr (.inr (0))), none, none, none]) rfl ?_
  refine EV.aload_n dX10_firstTick_0 rfl rfl ?_
  refine FV.getI dX10_firstTick_1 sm_0 fl_10_306 rfl ?_
  refine EV.iconst dX10_firstTick_4 (by decide) (by decide) ?_
  refine EV.iadd dX10_firstTick_5 ?_
  obtain ⟨x1, ex1, hf⟩ := pv_bo hf
  refine FV.sti (L2 := [some (.inr (.inr (0))), some (.inl (x1)), none, none]) dX10_firstTick_6 rfl (Nat.le_of_ble_eq_true rfl) ex1 rfl ?_
  refine EV.iconst dX10_firstTick_7 (by decide) (by decide) ?_
  refine FV.sti (L2 := [some (.inr (.inr (0))), some (.inl (x1)), some (.inl (0)), none]) dX10_firstTick_8 rfl (Nat.le_of_ble_eq_true rfl) rfl rfl ?_
  refine EV.weak (L2 := [some (.inr (.inr (0))), some (.inl (x1)), some (.inl (0)), none]) (And.intro rfl (And.intro rfl (And.intro rfl trivial))) ?_
  exact tX10_firstTick_9 hd   _ _ _   hf

noncomputable def fX10_cuts_67 (N : Nat) (k9 : Int → Int → pv_H → Option (pv_H))  (v1 : Int) (v2 : Int) (h : pv_H) : Option (pv_H) :=
  pv_b (pv_w (v2 + 1)) fun x10 => k9 (v1) (x10) h

noncomputable def fX10_cuts_39 (N : Nat) (k9 : Int → Int → pv_H → Option (pv_H))  (v1 : Int) (v2 : Int) (h : pv_H) : Option (pv_H) :=
  if 0 ≤ h 0 42 ∧ h 0 42 < 61 then (pv_b (pv_up h 24 (Int.toNat (h 0 42)) (pv_w ((pv_w (v2 + 1)) - v1))) fun h7 => pv_b (pv_up h7 0 42 (pv_w ((h7 0 42) + 1))) fun h8 => pv_b (pv_w (v2 + 1)) fun x9 => fX10_cuts_67 N (k9)  (x9) (v2) h8) else none

noncomputable def fX10_cuts_9 (N : Nat)   : Nat → Int → Int → pv_H → Option (pv_H)
  | 0, _, _, _ => none
  | n + 1, v1, v2, h => if (h 0 19) ≤ v2 then (some h) else (if 0 ≤ v2 ∧ v2 < 60 then (if (h 17 (Int.toNat (v2))) = 0 then (if (pv_w ((h 0 19) - 1)) ≤ v2 then (fX10_cuts_39 N (fun v1_ v2_ hh => fX10_cuts_9 N   n v1_ v2_ hh)  (v1) (v2) h) else (fX10_cuts_67 N (fun v1_ v2_ hh => fX10_cuts_9 N   n v1_ v2_ hh)  (v1) (v2) h)) else (fX10_cuts_39 N (fun v1_ v2_ hh => fX10_cuts_9 N   n v1_ v2_ hh)  (v1) (v2) h)) else none)

noncomputable def fX10_cuts (N : Nat)  (h : pv_H) : Option (pv_H) :=
  pv_b (pv_up h 0 42 0) fun h1 => fX10_cuts_9 N   N (0) (0) h1

set_option maxHeartbeats 4000000 in
set_option maxRecDepth 20000 in
theorem tX10_cuts_67 {d N : Nat} {k9 : Int → Int → pv_H → Option (pv_H)}  {v1 : Int} {v2 : Int} {h h' : pv_H}  (hd : 1 ≤ d) (hk9 : ∀ (v1 : Int) (v2 : Int)  (hh : pv_H), k9 v1 v2 hh = some h' → EV RX10 cX10_cuts 3 none false d pv_SM (MM h') none 9 [some (.inr (.inr (0))), some (.inl (v1)), some (.inl (v2))] [] pv_SM (MM hh))   (hf : fX10_cuts_67 N k9  v1 v2 h = some h') : EV RX10 cX10_cuts 3 none false d pv_SM (MM h') none 67 [some (.inr (.inr (0))), some (.inl (v1)), some (.inl (v2))] [] pv_SM (MM h) := by
  unfold fX10_cuts_67 at hf
  obtain ⟨x10, ex10, hf⟩ := pv_bo hf
  refine FV.inc (L2 := [some (.inr (.inr (0))), some (.inl (v1)), some (.inl (x10))]) dX10_cuts_67 rfl (Nat.le_of_ble_eq_true rfl) ex10 rfl ?_
  refine EV.goto (tgt := 9) dX10_cuts_70 (by decide) ?_
  refine EV.weak (L2 := [some (.inr (.inr (0))), some (.inl (v1)), some (.inl (x10))]) (And.intro rfl (And.intro rfl (And.intro rfl trivial))) ?_
  exact hk9 _ _  _ hf

set_option maxHeartbeats 4000000 in
set_option maxRecDepth 20000 in
theorem tX10_cuts_39 {d N : Nat} {k9 : Int → Int → pv_H → Option (pv_H)}  {v1 : Int} {v2 : Int} {h h' : pv_H}  (hd : 1 ≤ d) (hk9 : ∀ (v1 : Int) (v2 : Int)  (hh : pv_H), k9 v1 v2 hh = some h' → EV RX10 cX10_cuts 3 none false d pv_SM (MM h') none 9 [some (.inr (.inr (0))), some (.inl (v1)), some (.inl (v2))] [] pv_SM (MM hh))   (hf : fX10_cuts_39 N k9  v1 v2 h = some h') : EV RX10 cX10_cuts 3 none false d pv_SM (MM h') none 39 [some (.inr (.inr (0))), some (.inl (v1)), some (.inl (v2))] [] pv_SM (MM h) := by
  unfold fX10_cuts_39 at hf
  refine EV.aload_n dX10_cuts_39 rfl rfl ?_
  refine FV.getF (v := 24) dX10_cuts_40 sm_0 fl_10_87 rfl rfl hvm_0_51 ?_
  refine EV.aload_n dX10_cuts_43 rfl rfl ?_
  refine FV.getI dX10_cuts_44 sm_0 fl_10_390 rfl ?_
  refine EV.iload_n dX10_cuts_47 rfl rfl ?_
  refine EV.iconst dX10_cuts_48 (by decide) (by decide) ?_
  refine EV.iadd dX10_cuts_49 ?_
  refine EV.iload_n dX10_cuts_50 rfl rfl ?_
  refine EV.isub dX10_cuts_51 ?_
  obtain ⟨g6, hf⟩ := pv_gd hf
  obtain ⟨h7, eh7, hf⟩ := pv_bo hf
  refine FV.iast dX10_cuts_52 sm_24 g6.1 g6.2 (j := (Int.toNat (h 0 42))) rfl eh7 ?_
  refine EV.aload_n dX10_cuts_53 rfl rfl ?_
  refine EV.dup dX10_cuts_54 rfl ?_
  refine FV.getI dX10_cuts_55 sm_0 fl_10_390 rfl ?_
  refine EV.iconst dX10_cuts_58 (by decide) (by decide) ?_
  refine EV.iadd dX10_cuts_59 ?_
  obtain ⟨h8, eh8, hf⟩ := pv_bo hf
  refine FV.putI dX10_cuts_60 sm_0 fl_10_390 rfl rfl eh8 ?_
  refine EV.iload_n dX10_cuts_63 rfl rfl ?_
  refine EV.iconst dX10_cuts_64 (by decide) (by decide) ?_
  refine EV.iadd dX10_cuts_65 ?_
  obtain ⟨x9, ex9, hf⟩ := pv_bo hf
  refine FV.sti (L2 := [some (.inr (.inr (0))), some (.inl (x9)), some (.inl (v2))]) dX10_cuts_66 rfl (Nat.le_of_ble_eq_true rfl) ex9 rfl ?_
  refine EV.weak (L2 := [some (.inr (.inr (0))), some (.inl (x9)), some (.inl (v2))]) (And.intro rfl (And.intro rfl (And.intro rfl trivial))) ?_
  exact tX10_cuts_67 hd (hk9)   hf

set_option maxHeartbeats 4000000 in
set_option maxRecDepth 20000 in
theorem tX10_cuts_9 {d N : Nat}   {h' : pv_H}  (hd : 1 ≤ d)   : ∀ (n : Nat) (v1 : Int) (v2 : Int)  (h : pv_H), fX10_cuts_9 N   n v1 v2 h = some h' → EV RX10 cX10_cuts 3 none false d pv_SM (MM h') none 9 [some (.inr (.inr (0))), some (.inl (v1)), some (.inl (v2))] [] pv_SM (MM h) := by
  intro n
  induction n with
  | zero =>
    intro v1 v2  h hf
    cases hf
  | succ n ih =>
    intro v1 v2  h hf
    rw [fX10_cuts_9] at hf
    refine EV.iload_n dX10_cuts_9 rfl rfl ?_
    refine EV.aload_n dX10_cuts_10 rfl rfl ?_
    refine FV.getI dX10_cuts_11 sm_0 fl_10_267 rfl ?_
    refine EV.icmp_ge (tgt := 73) dX10_cuts_14 (by decide) (fun q2 => ?_) (fun q2 => ?_)
    · have hf := pv_gp hf q2
      exact FV.vret dX10_cuts_73 hf
    · have hf := pv_gn hf q2
      refine EV.aload_n dX10_cuts_17 rfl rfl ?_
      refine FV.getF (v := 17) dX10_cuts_18 sm_0 fl_10_66 rfl rfl hvm_0_44 ?_
      refine EV.iload_n dX10_cuts_21 rfl rfl ?_
      obtain ⟨g3, hf⟩ := pv_gd hf
      refine FV.zald dX10_cuts_22 sm_17 g3.1 g3.2 (j := (Int.toNat (v2))) rfl ?_
      refine EV.if_ne (tgt := 39) dX10_cuts_23 (by decide) (fun q4 => ?_) (fun q4 => ?_)
      · have hf := pv_gn hf q4
        refine EV.weak (L2 := [some (.inr (.inr (0))), some (.inl (v1)), some (.inl (v2))]) (And.intro rfl (And.intro rfl (And.intro rfl trivial))) ?_
        exact tX10_cuts_39 hd (ih)   hf
      · have hf := pv_gp hf q4
        refine EV.iload_n dX10_cuts_26 rfl rfl ?_
        refine EV.aload_n dX10_cuts_27 rfl rfl ?_
        refine FV.getI dX10_cuts_28 sm_0 fl_10_267 rfl ?_
        refine EV.iconst dX10_cuts_31 (by decide) (by decide) ?_
        refine EV.isub dX10_cuts_32 ?_
        refine EV.icmp_ge (tgt := 39) dX10_cuts_33 (by decide) (fun q5 => ?_) (fun q5 => ?_)
        · have hf := pv_gp hf q5
          refine EV.weak (L2 := [some (.inr (.inr (0))), some (.inl (v1)), some (.inl (v2))]) (And.intro rfl (And.intro rfl (And.intro rfl trivial))) ?_
          exact tX10_cuts_39 hd (ih)   hf
        · have hf := pv_gn hf q5
          refine EV.goto (tgt := 67) dX10_cuts_36 (by decide) ?_
          refine EV.weak (L2 := [some (.inr (.inr (0))), some (.inl (v1)), some (.inl (v2))]) (And.intro rfl (And.intro rfl (And.intro rfl trivial))) ?_
          exact tX10_cuts_67 hd (ih)   hf

set_option maxHeartbeats 4000000 in
set_option maxRecDepth 20000 in
theorem tX10_cuts {d N : Nat}  {h h' : pv_H}  (hd : 1 ≤ d)  (hf : fX10_cuts N  h = some h') : CALL yX10_cuts cX10_cuts 3 none d pv_SM (MM h) [.inr (.inr (0))] pv_SM (MM h') none := by
  unfold fX10_cuts at hf
  refine EV.call (own := RX10) (ini := false) rfl rfl (fun q => by cases q) ⟨[], (List.append_nil _).symm⟩ (Nat.le_of_ble_eq_true rfl) ?_
  refine EV.eqL (L2 := [some (.inr (.inr (0))), none, none]) rfl ?_
  refine EV.aload_n dX10_cuts_0 rfl rfl ?_
  refine EV.iconst dX10_cuts_1 (by decide) (by decide) ?_
  obtain ⟨h1, eh1, hf⟩ := pv_bo hf
  refine FV.putI dX10_cuts_2 sm_0 fl_10_390 rfl rfl eh1 ?_
  refine EV.iconst dX10_cuts_5 (by decide) (by decide) ?_
  refine FV.sti (L2 := [some (.inr (.inr (0))), some (.inl (0)), none]) dX10_cuts_6 rfl (Nat.le_of_ble_eq_true rfl) rfl rfl ?_
  refine EV.iconst dX10_cuts_7 (by decide) (by decide) ?_
  refine FV.sti (L2 := [some (.inr (.inr (0))), some (.inl (0)), some (.inl (0))]) dX10_cuts_8 rfl (Nat.le_of_ble_eq_true rfl) rfl rfl ?_
  refine EV.weak (L2 := [some (.inr (.inr (0))), some (.inl (0)), some (.inl (0))]) (And.intro rfl (And.intro rfl (And.intro rfl trivial))) ?_
  exact tX10_cuts_9 hd   _ _ _  _ hf

noncomputable def fX10_runs_338 (N : Nat)  (a1 : Int)  (h : pv_H) : Option (pv_H) :=
  pv_c1 (fX10_cuts N  h) fun h42 => some h42

noncomputable def fX10_runs_319 (N : Nat) (k216 : pv_H → Option (pv_H)) (k247 : Int → Int → pv_H → Option (pv_H)) (a1 : Int) (v2 : Int) (v3 : Int) (h : pv_H) : Option (pv_H) :=
  pv_b (pv_w (v3 + 1)) fun x53 => k247 (v2) (x53) h

noncomputable def fX10_runs_316 (N : Nat) (k216 : pv_H → Option (pv_H)) (k247 : Int → Int → pv_H → Option (pv_H)) (a1 : Int) (v2 : Int) (v3 : Int) (s0 : Int) (s1 : Int) (s2 : Int) (h : pv_H) : Option (pv_H) :=
  pv_c1 (fX10_comes N s2 s1 s0 h) fun h55 => fX10_runs_319 N (k216) (k247) a1 (v2) (v3) h55

noncomputable def fX10_runs_247 (N : Nat) (k216 : pv_H → Option (pv_H)) (a1 : Int) : Nat → Int → Int → pv_H → Option (pv_H)
  | 0, _, _, _ => none
  | n + 1, v2, v3, h => if v2 ≤ v3 then (pv_b (pv_up h 0 41 (pv_w ((h 0 41) + 1))) fun h44 => k216  h44) else (if 0 ≤ v3 ∧ v3 < 200 then (if (h 19 (Int.toNat (v3))) = 0 then (fX10_runs_319 N (k216) (fun v2_ v3_ hh => fX10_runs_247 N k216 a1 n v2_ v3_ hh) a1 (v2) (v3) h) else (if 0 ≤ v3 ∧ v3 < 200 then (if (h 0 41) ≤ (h 27 (Int.toNat (v3))) then (fX10_runs_319 N (k216) (fun v2_ v3_ hh => fX10_runs_247 N k216 a1 n v2_ v3_ hh) a1 (v2) (v3) h) else (if 0 ≤ v3 ∧ v3 < 200 then (if ¬ (h 2 1118) = 0 then (if (pv_w (Int.tmod (pv_w ((h 0 41) - (h 27 (Int.toNat (v3))))) (h 2 1118))) = 0 then (if a1 = (-1) then (fX10_runs_316 N (k216) (fun v2_ v3_ hh => fX10_runs_247 N k216 a1 n v2_ v3_ hh) a1 (v2) (v3) (h 0 37) (h 0 41) (v3) h) else (fX10_runs_316 N (k216) (fun v2_ v3_ hh => fX10_runs_247 N k216 a1 n v2_ v3_ hh) a1 (v2) (v3) (a1) (h 0 41) (v3) h)) else (fX10_runs_319 N (k216) (fun v2_ v3_ hh => fX10_runs_247 N k216 a1 n v2_ v3_ hh) a1 (v2) (v3) h)) else none) else none)) else none)) else none)

noncomputable def fX10_runs_216 (N : Nat)  (a1 : Int) : Nat → pv_H → Option (pv_H)
  | 0, _ => none
  | n + 1, h => if 4000 ≤ (h 0 41) then (fX10_runs_338 N  a1  h) else (if (h 0 38) ≤ 0 then (fX10_runs_338 N  a1  h) else (pv_c1 (fX10_isGoing N  h) fun r38 => if r38 = 0 then (fX10_runs_338 N  a1  h) else (pv_b (h 0 39) fun x40 => fX10_runs_247 N (fun  hh => fX10_runs_216 N  a1 n  hh) a1 N (x40) (0) h)))

noncomputable def fX10_runs_172 (N : Nat)  (a1 : Int) (s0 : Int) (h : pv_H) : Option (pv_H) :=
  pv_b (pv_up h 0 37 s0) fun h25 => if (h25 0 29) ≤ (h25 0 41) then (fX10_runs_216 N  a1 N  h25) else (pv_c1 (fX10_weakest N  h25) fun r28 => pv_c1 (fX10_loadOf N r28 h25) fun r30 => pv_c1 (fX10_breaks N r28 (h25 0 41) 0 r30 h25) fun h32 => pv_b (pv_up h32 0 41 (pv_w ((h32 0 41) + 1))) fun h33 => fX10_runs_216 N  a1 N  h33)

noncomputable def fX10_runs_171 (N : Nat)  (a1 : Int) (s0 : Int) (h : pv_H) : Option (pv_H) :=
  if 0 ≤ s0 ∧ s0 < 4000 then (fX10_runs_172 N  a1 (h 13 (Int.toNat (s0))) h) else none

noncomputable def fX10_runs_143 (N : Nat)  (a1 : Int)  (h : pv_H) : Option (pv_H) :=
  if (h 0 29) ≤ (h 0 41) then (fX10_runs_171 N  a1 (pv_w ((h 0 29) - 1)) h) else (fX10_runs_171 N  a1 (h 0 41) h)

noncomputable def fX10_runs_121 (N : Nat)  (a1 : Int) (s0 : Int) (h : pv_H) : Option (pv_H) :=
  pv_b (pv_up h 0 36 s0) fun h20 => if (h20 0 41) = 0 then (if (h20 0 29) = 0 then (fX10_runs_172 N  a1 (0) h20) else (fX10_runs_143 N  a1  h20)) else (fX10_runs_143 N  a1  h20)

noncomputable def fX10_runs_120 (N : Nat)  (a1 : Int) (s0 : Int) (h : pv_H) : Option (pv_H) :=
  if 0 ≤ s0 ∧ s0 < 4000 then (fX10_runs_121 N  a1 (h 12 (Int.toNat (s0))) h) else none

noncomputable def fX10_runs_92 (N : Nat)  (a1 : Int)  (h : pv_H) : Option (pv_H) :=
  if (h 0 29) ≤ (h 0 41) then (fX10_runs_120 N  a1 (pv_w ((h 0 29) - 1)) h) else (fX10_runs_120 N  a1 (h 0 41) h)

noncomputable def fX10_runs_37 (N : Nat)  (a1 : Int) : Nat → Int → pv_H → Option (pv_H)
  | 0, _, _ => none
  | n + 1, v2, h => if (h 0 19) ≤ v2 then (pv_c1 (fX10_firstTick N  h) fun r10 => pv_b (pv_up h 0 41 r10) fun h11 => if (h11 0 41) = 0 then (if (h11 0 29) = 0 then (fX10_runs_121 N  a1 (0) h11) else (fX10_runs_92 N  a1  h11)) else (fX10_runs_92 N  a1  h11)) else (if 0 ≤ v2 ∧ v2 < 60 then (pv_b (pv_up h 17 (Int.toNat (v2)) 0) fun h15 => if 0 ≤ v2 ∧ v2 < 60 then (pv_b (pv_up h15 18 (Int.toNat (v2)) 0) fun h17 => pv_b (pv_w (v2 + 1)) fun x18 => fX10_runs_37 N  a1 n (x18) h17) else none) else none)

noncomputable def fX10_runs (N : Nat) (a1 : Int) (h : pv_H) : Option (pv_H) :=
  pv_b (pv_up h 0 38 0) fun h1 => pv_b (pv_up h1 0 39 0) fun h2 => pv_b (pv_up h2 0 40 0) fun h3 => pv_b (pv_up h3 0 36 0) fun h4 => pv_b (pv_up h4 0 37 0) fun h5 => pv_b (pv_up h5 0 41 0) fun h6 => pv_b (pv_up h6 0 60 (-1)) fun h7 => fX10_runs_37 N  a1 N (0) h7

set_option maxHeartbeats 4000000 in
set_option maxRecDepth 20000 in
theorem tX10_runs_338 {d N : Nat}  {a1 : Int}  {h h' : pv_H}  (hd : 4 ≤ d)    (hf : fX10_runs_338 N  a1  h = some h') : EV RX10 cX10_runs 4 none false d pv_SM (MM h') none 338 [some (.inr (.inr (0))), none, none, none] [] pv_SM (MM h) := by
  unfold fX10_runs_338 at hf
  refine EV.aload_n dX10_runs_338 rfl rfl ?_
  obtain ⟨h42, hc41, hf⟩ := pv_c1o hf
  refine EV.invV (As := []) (st := []) (d1 := d - 1) (sh1 := pv_SM) (h1 := MM h42) (r1 := none) dX10_runs_339 sm_0 (by decide) md_X10_cuts ml_X10_384 im_X10_cuts se_X10_cuts (tX10_cuts (by omega)  hc41) (by omega) rfl rfl (Nat.le_of_ble_eq_true rfl) ⟨[], (List.append_nil _).symm⟩ ?_
  exact FV.vret dX10_runs_342 hf

set_option maxHeartbeats 4000000 in
set_option maxRecDepth 20000 in
theorem tX10_runs_319 {d N : Nat} {k216 : pv_H → Option (pv_H)} {k247 : Int → Int → pv_H → Option (pv_H)} {a1 : Int} {v2 : Int} {v3 : Int} {h h' : pv_H}  (hd : 4 ≤ d) (hk216 : ∀   (hh : pv_H), k216  hh = some h' → EV RX10 cX10_runs 4 none false d pv_SM (MM h') none 216 [some (.inr (.inr (0))), some (.inl (a1)), none, none] [] pv_SM (MM hh)) (hk247 : ∀ (v2 : Int) (v3 : Int)  (hh : pv_H), k247 v2 v3 hh = some h' → EV RX10 cX10_runs 4 none false d pv_SM (MM h') none 247 [some (.inr (.inr (0))), some (.inl (a1)), some (.inl (v2)), some (.inl (v3))] [] pv_SM (MM hh))   (hf : fX10_runs_319 N k216 k247 a1 v2 v3 h = some h') : EV RX10 cX10_runs 4 none false d pv_SM (MM h') none 319 [some (.inr (.inr (0))), some (.inl (a1)), some (.inl (v2)), some (.inl (v3))] [] pv_SM (MM h) := by
  unfold fX10_runs_319 at hf
  obtain ⟨x53, ex53, hf⟩ := pv_bo hf
  refine FV.inc (L2 := [some (.inr (.inr (0))), some (.inl (a1)), some (.inl (v2)), some (.inl (x53))]) dX10_runs_319 rfl (Nat.le_of_ble_eq_true rfl) ex53 rfl ?_
  refine EV.goto (tgt := 247) dX10_runs_322 (by decide) ?_
  refine EV.weak (L2 := [some (.inr (.inr (0))), some (.inl (a1)), some (.inl (v2)), some (.inl (x53))]) (And.intro rfl (And.intro rfl (And.intro rfl (And.intro rfl trivial)))) ?_
  exact hk247 _ _  _ hf

set_option maxHeartbeats 4000000 in
set_option maxRecDepth 20000 in
theorem tX10_runs_316 {d N : Nat} {k216 : pv_H → Option (pv_H)} {k247 : Int → Int → pv_H → Option (pv_H)} {a1 : Int} {v2 : Int} {v3 : Int} {s0 : Int} {s1 : Int} {s2 : Int} {h h' : pv_H}  (hd : 4 ≤ d) (hk216 : ∀   (hh : pv_H), k216  hh = some h' → EV RX10 cX10_runs 4 none false d pv_SM (MM h') none 216 [some (.inr (.inr (0))), some (.inl (a1)), none, none] [] pv_SM (MM hh)) (hk247 : ∀ (v2 : Int) (v3 : Int)  (hh : pv_H), k247 v2 v3 hh = some h' → EV RX10 cX10_runs 4 none false d pv_SM (MM h') none 247 [some (.inr (.inr (0))), some (.inl (a1)), some (.inl (v2)), some (.inl (v3))] [] pv_SM (MM hh))   (hf : fX10_runs_316 N k216 k247 a1 v2 v3 s0 s1 s2 h = some h') : EV RX10 cX10_runs 4 none false d pv_SM (MM h') none 316 [some (.inr (.inr (0))), some (.inl (a1)), some (.inl (v2)), some (.inl (v3))] [.inl (s0), .inl (s1), .inl (s2), .inr (.inr (0))] pv_SM (MM h) := by
  unfold fX10_runs_316 at hf
  obtain ⟨h55, hc54, hf⟩ := pv_c1o hf
  refine EV.invV (As := [.inl (s2), .inl (s1), .inl (s0)]) (st := []) (d1 := d - 1) (sh1 := pv_SM) (h1 := MM h55) (r1 := none) dX10_runs_316 sm_0 (by decide) md_X10_comes ml_X10_381 im_X10_comes se_X10_comes (tX10_comes (by omega)  hc54) (by omega) rfl rfl (Nat.le_of_ble_eq_true rfl) ⟨[], (List.append_nil _).symm⟩ ?_
  refine EV.weak (L2 := [some (.inr (.inr (0))), some (.inl (a1)), some (.inl (v2)), some (.inl (v3))]) (And.intro rfl (And.intro rfl (And.intro rfl (And.intro rfl trivial)))) ?_
  exact tX10_runs_319 hd (hk216) (hk247)   hf

set_option maxHeartbeats 4000000 in
set_option maxRecDepth 20000 in
theorem tX10_runs_247 {d N : Nat} {k216 : pv_H → Option (pv_H)} {a1 : Int} {h' : pv_H}  (hd : 4 ≤ d) (hk216 : ∀   (hh : pv_H), k216  hh = some h' → EV RX10 cX10_runs 4 none false d pv_SM (MM h') none 216 [some (.inr (.inr (0))), some (.inl (a1)), none, none] [] pv_SM (MM hh))  : ∀ (n : Nat) (v2 : Int) (v3 : Int)  (h : pv_H), fX10_runs_247 N k216 a1 n v2 v3 h = some h' → EV RX10 cX10_runs 4 none false d pv_SM (MM h') none 247 [some (.inr (.inr (0))), some (.inl (a1)), some (.inl (v2)), some (.inl (v3))] [] pv_SM (MM h) := by
  intro n
  induction n with
  | zero =>
    intro v2 v3  h hf
    cases hf
  | succ n ih =>
    intro v2 v3  h hf
    rw [fX10_runs_247] at hf
    refine EV.iload_n dX10_runs_247 rfl rfl ?_
    refine EV.iload_n dX10_runs_248 rfl rfl ?_
    refine EV.icmp_ge (tgt := 325) dX10_runs_249 (by decide) (fun q43 => ?_) (fun q43 => ?_)
    · have hf := pv_gp hf q43
      refine EV.aload_n dX10_runs_325 rfl rfl ?_
      refine EV.dup dX10_runs_326 rfl ?_
      refine FV.getI dX10_runs_327 sm_0 fl_10_368 rfl ?_
      refine EV.iconst dX10_runs_330 (by decide) (by decide) ?_
      refine EV.iadd dX10_runs_331 ?_
      obtain ⟨h44, eh44, hf⟩ := pv_bo hf
      refine FV.putI dX10_runs_332 sm_0 fl_10_368 rfl rfl eh44 ?_
      refine EV.goto (tgt := 216) dX10_runs_335 (by decide) ?_
      refine EV.weak (L2 := [some (.inr (.inr (0))), some (.inl (a1)), none, none]) (And.intro rfl (And.intro rfl trivial)) ?_
      exact hk216   _ hf
    · have hf := pv_gn hf q43
      refine EV.aload_n dX10_runs_252 rfl rfl ?_
      refine FV.getF (v := 19) dX10_runs_253 sm_0 fl_10_72 rfl rfl hvm_0_46 ?_
      refine EV.iload_n dX10_runs_256 rfl rfl ?_
      obtain ⟨g45, hf⟩ := pv_gd hf
      refine FV.zald dX10_runs_257 sm_19 g45.1 g45.2 (j := (Int.toNat (v3))) rfl ?_
      refine EV.if_eq (tgt := 319) dX10_runs_258 (by decide) (fun q46 => ?_) (fun q46 => ?_)
      · have hf := pv_gp hf q46
        refine EV.weak (L2 := [some (.inr (.inr (0))), some (.inl (a1)), some (.inl (v2)), some (.inl (v3))]) (And.intro rfl (And.intro rfl (And.intro rfl (And.intro rfl trivial)))) ?_
        exact tX10_runs_319 hd (hk216) (ih)   hf
      · have hf := pv_gn hf q46
        refine EV.aload_n dX10_runs_261 rfl rfl ?_
        refine FV.getI dX10_runs_262 sm_0 fl_10_368 rfl ?_
        refine EV.aload_n dX10_runs_265 rfl rfl ?_
        refine FV.getF (v := 27) dX10_runs_266 sm_0 fl_10_96 rfl rfl hvm_0_54 ?_
        refine EV.iload_n dX10_runs_269 rfl rfl ?_
        obtain ⟨g47, hf⟩ := pv_gd hf
        refine FV.iald dX10_runs_270 sm_27 g47.1 g47.2 (j := (Int.toNat (v3))) rfl ?_
        refine EV.icmp_le (tgt := 319) dX10_runs_271 (by decide) (fun q48 => ?_) (fun q48 => ?_)
        · have hf := pv_gp hf q48
          refine EV.weak (L2 := [some (.inr (.inr (0))), some (.inl (a1)), some (.inl (v2)), some (.inl (v3))]) (And.intro rfl (And.intro rfl (And.intro rfl (And.intro rfl trivial)))) ?_
          exact tX10_runs_319 hd (hk216) (ih)   hf
        · have hf := pv_gn hf q48
          refine EV.aload_n dX10_runs_274 rfl rfl ?_
          refine FV.getI dX10_runs_275 sm_0 fl_10_368 rfl ?_
          refine EV.aload_n dX10_runs_278 rfl rfl ?_
          refine FV.getF (v := 27) dX10_runs_279 sm_0 fl_10_96 rfl rfl hvm_0_54 ?_
          refine EV.iload_n dX10_runs_282 rfl rfl ?_
          obtain ⟨g49, hf⟩ := pv_gd hf
          refine FV.iald dX10_runs_283 sm_27 g49.1 g49.2 (j := (Int.toNat (v3))) rfl ?_
          refine EV.isub dX10_runs_284 ?_
          refine EV.aload_n dX10_runs_285 rfl rfl ?_
          refine FV.getF (v := 2) dX10_runs_286 sm_0 fl_10_17 rfl rfl hvm_0_2 ?_
          refine EV.sipush dX10_runs_289 (by decide) (by decide) ?_
          refine FV.iald dX10_runs_292 sm_2 (by decide) (by decide) (j := 1118) rfl ?_
          obtain ⟨g50, hf⟩ := pv_gd hf
          refine EV.irem dX10_runs_293 g50 ?_
          refine EV.if_ne (tgt := 319) dX10_runs_294 (by decide) (fun q51 => ?_) (fun q51 => ?_)
          · have hf := pv_gn hf q51
            refine EV.weak (L2 := [some (.inr (.inr (0))), some (.inl (a1)), some (.inl (v2)), some (.inl (v3))]) (And.intro rfl (And.intro rfl (And.intro rfl (And.intro rfl trivial)))) ?_
            exact tX10_runs_319 hd (hk216) (ih)   hf
          · have hf := pv_gp hf q51
            refine EV.aload_n dX10_runs_297 rfl rfl ?_
            refine EV.iload_n dX10_runs_298 rfl rfl ?_
            refine EV.aload_n dX10_runs_299 rfl rfl ?_
            refine FV.getI dX10_runs_300 sm_0 fl_10_368 rfl ?_
            refine EV.iload_n dX10_runs_303 rfl rfl ?_
            refine EV.iconst dX10_runs_304 (by decide) (by decide) ?_
            refine EV.icmp_ne (tgt := 315) dX10_runs_305 (by decide) (fun q52 => ?_) (fun q52 => ?_)
            · have hf := pv_gn hf q52
              refine EV.iload_n dX10_runs_315 rfl rfl ?_
              refine EV.weak (L2 := [some (.inr (.inr (0))), some (.inl (a1)), some (.inl (v2)), some (.inl (v3))]) (And.intro rfl (And.intro rfl (And.intro rfl (And.intro rfl trivial)))) ?_
              exact tX10_runs_316 hd (hk216) (ih)   hf
            · have hf := pv_gp hf q52
              refine EV.aload_n dX10_runs_308 rfl rfl ?_
              refine FV.getI dX10_runs_309 sm_0 fl_10_300 rfl ?_
              refine EV.goto (tgt := 316) dX10_runs_312 (by decide) ?_
              refine EV.weak (L2 := [some (.inr (.inr (0))), some (.inl (a1)), some (.inl (v2)), some (.inl (v3))]) (And.intro rfl (And.intro rfl (And.intro rfl (And.intro rfl trivial)))) ?_
              exact tX10_runs_316 hd (hk216) (ih)   hf

set_option maxHeartbeats 4000000 in
set_option maxRecDepth 20000 in
theorem tX10_runs_216 {d N : Nat}  {a1 : Int} {h' : pv_H}  (hd : 4 ≤ d)   : ∀ (n : Nat)   (h : pv_H), fX10_runs_216 N  a1 n  h = some h' → EV RX10 cX10_runs 4 none false d pv_SM (MM h') none 216 [some (.inr (.inr (0))), some (.inl (a1)), none, none] [] pv_SM (MM h) := by
  intro n
  induction n with
  | zero =>
    intro   h hf
    cases hf
  | succ n ih =>
    intro   h hf
    rw [fX10_runs_216] at hf
    refine EV.aload_n dX10_runs_216 rfl rfl ?_
    refine FV.getI dX10_runs_217 sm_0 fl_10_368 rfl ?_
    refine EV.sipush dX10_runs_220 (by decide) (by decide) ?_
    refine EV.icmp_ge (tgt := 338) dX10_runs_223 (by decide) (fun q35 => ?_) (fun q35 => ?_)
    · have hf := pv_gp hf q35
      refine EV.weak (L2 := [some (.inr (.inr (0))), none, none, none]) (And.intro rfl trivial) ?_
      exact tX10_runs_338 hd    hf
    · have hf := pv_gn hf q35
      refine EV.aload_n dX10_runs_226 rfl rfl ?_
      refine FV.getI dX10_runs_227 sm_0 fl_10_328 rfl ?_
      refine EV.if_le (tgt := 338) dX10_runs_230 (by decide) (fun q36 => ?_) (fun q36 => ?_)
      · have hf := pv_gp hf q36
        refine EV.weak (L2 := [some (.inr (.inr (0))), none, none, none]) (And.intro rfl trivial) ?_
        exact tX10_runs_338 hd    hf
      · have hf := pv_gn hf q36
        refine EV.aload_n dX10_runs_233 rfl rfl ?_
        obtain ⟨r38, hc37, hf⟩ := pv_c1o hf
        refine EV.invV (As := []) (st := []) (d1 := d - 1) (sh1 := pv_SM) (h1 := MM h) (r1 := (some (.inl r38))) dX10_runs_234 sm_0 (by decide) md_X10_isGoing ml_X10_377 im_X10_isGoing se_X10_isGoing (tX10_isGoing (by omega)  hc37) (by omega) rfl rfl (Nat.le_of_ble_eq_true rfl) ⟨[], (List.append_nil _).symm⟩ ?_
        refine EV.eqS (st2 := [.inl (r38)]) rfl ?_
        refine EV.if_eq (tgt := 338) dX10_runs_237 (by decide) (fun q39 => ?_) (fun q39 => ?_)
        · have hf := pv_gp hf q39
          refine EV.weak (L2 := [some (.inr (.inr (0))), none, none, none]) (And.intro rfl trivial) ?_
          exact tX10_runs_338 hd    hf
        · have hf := pv_gn hf q39
          refine EV.aload_n dX10_runs_240 rfl rfl ?_
          refine FV.getI dX10_runs_241 sm_0 fl_10_325 rfl ?_
          obtain ⟨x40, ex40, hf⟩ := pv_bo hf
          refine FV.sti (L2 := [some (.inr (.inr (0))), some (.inl (a1)), some (.inl (x40)), none]) dX10_runs_244 rfl (Nat.le_of_ble_eq_true rfl) ex40 rfl ?_
          refine EV.iconst dX10_runs_245 (by decide) (by decide) ?_
          refine FV.sti (L2 := [some (.inr (.inr (0))), some (.inl (a1)), some (.inl (x40)), some (.inl (0))]) dX10_runs_246 rfl (Nat.le_of_ble_eq_true rfl) rfl rfl ?_
          refine EV.weak (L2 := [some (.inr (.inr (0))), some (.inl (a1)), some (.inl (x40)), some (.inl (0))]) (And.intro rfl (And.intro rfl (And.intro rfl (And.intro rfl trivial)))) ?_
          exact tX10_runs_247 hd (ih)  _ _ _  _ hf

set_option maxHeartbeats 4000000 in
set_option maxRecDepth 20000 in
theorem tX10_runs_172 {d N : Nat}  {a1 : Int} {s0 : Int} {h h' : pv_H}  (hd : 4 ≤ d)    (hf : fX10_runs_172 N  a1 s0 h = some h') : EV RX10 cX10_runs 4 none false d pv_SM (MM h') none 172 [some (.inr (.inr (0))), some (.inl (a1)), none, none] [.inl (s0), .inr (.inr (0))] pv_SM (MM h) := by
  unfold fX10_runs_172 at hf
  obtain ⟨h25, eh25, hf⟩ := pv_bo hf
  refine FV.putI dX10_runs_172 sm_0 fl_10_300 rfl rfl eh25 ?_
  refine EV.aload_n dX10_runs_175 rfl rfl ?_
  refine FV.getI dX10_runs_176 sm_0 fl_10_368 rfl ?_
  refine EV.aload_n dX10_runs_179 rfl rfl ?_
  refine FV.getI dX10_runs_180 sm_0 fl_10_303 rfl ?_
  refine EV.icmp_ge (tgt := 216) dX10_runs_183 (by decide) (fun q26 => ?_) (fun q26 => ?_)
  · have hf := pv_gp hf q26
    refine EV.weak (L2 := [some (.inr (.inr (0))), some (.inl (a1)), none, none]) (And.intro rfl (And.intro rfl trivial)) ?_
    exact tX10_runs_216 hd   _   _ hf
  · have hf := pv_gn hf q26
    refine EV.aload_n dX10_runs_186 rfl rfl ?_
    obtain ⟨r28, hc27, hf⟩ := pv_c1o hf
    refine EV.invV (As := []) (st := []) (d1 := d - 1) (sh1 := pv_SM) (h1 := MM h25) (r1 := (some (.inl r28))) dX10_runs_187 sm_0 (by decide) md_X10_weakest ml_X10_374 im_X10_weakest se_X10_weakest (tX10_weakest (by omega)  hc27) (by omega) rfl rfl (Nat.le_of_ble_eq_true rfl) ⟨[], (List.append_nil _).symm⟩ ?_
    refine EV.eqS (st2 := [.inl (r28)]) rfl ?_
    refine FV.sti (L2 := [some (.inr (.inr (0))), some (.inl (a1)), some (.inl (r28)), none]) dX10_runs_190 rfl (Nat.le_of_ble_eq_true rfl) rfl rfl ?_
    refine EV.aload_n dX10_runs_191 rfl rfl ?_
    refine EV.iload_n dX10_runs_192 rfl rfl ?_
    refine EV.aload_n dX10_runs_193 rfl rfl ?_
    refine FV.getI dX10_runs_194 sm_0 fl_10_368 rfl ?_
    refine EV.iconst dX10_runs_197 (by decide) (by decide) ?_
    refine EV.aload_n dX10_runs_198 rfl rfl ?_
    refine EV.iload_n dX10_runs_199 rfl rfl ?_
    obtain ⟨r30, hc29, hf⟩ := pv_c1o hf
    refine EV.invV (As := [.inl (r28)]) (st := [.inl (0), .inl (h25 0 41), .inl (r28), .inr (.inr (0))]) (d1 := d - 1) (sh1 := pv_SM) (h1 := MM h25) (r1 := (some (.inl r30))) dX10_runs_200 sm_0 (by decide) md_X10_loadOf ml_X10_343 im_X10_loadOf se_X10_loadOf (tX10_loadOf (by omega)  hc29) (by omega) rfl rfl (Nat.le_of_ble_eq_true rfl) ⟨[], (List.append_nil _).symm⟩ ?_
    refine EV.eqS (st2 := [.inl (r30), .inl (0), .inl (h25 0 41), .inl (r28), .inr (.inr (0))]) rfl ?_
    obtain ⟨h32, hc31, hf⟩ := pv_c1o hf
    refine EV.invV (As := [.inl (r28), .inl (h25 0 41), .inl (0), .inl (r30)]) (st := []) (d1 := d - 1) (sh1 := pv_SM) (h1 := MM h32) (r1 := none) dX10_runs_203 sm_0 (by decide) md_X10_breaks ml_X10_353 im_X10_breaks se_X10_breaks (tX10_breaks (by omega)  hc31) (by omega) rfl rfl (Nat.le_of_ble_eq_true rfl) ⟨[], (List.append_nil _).symm⟩ ?_
    refine EV.aload_n dX10_runs_206 rfl rfl ?_
    refine EV.dup dX10_runs_207 rfl ?_
    refine FV.getI dX10_runs_208 sm_0 fl_10_368 rfl ?_
    refine EV.iconst dX10_runs_211 (by decide) (by decide) ?_
    refine EV.iadd dX10_runs_212 ?_
    obtain ⟨h33, eh33, hf⟩ := pv_bo hf
    refine FV.putI dX10_runs_213 sm_0 fl_10_368 rfl rfl eh33 ?_
    refine EV.weak (L2 := [some (.inr (.inr (0))), some (.inl (a1)), none, none]) (And.intro rfl (And.intro rfl trivial)) ?_
    exact tX10_runs_216 hd   _   _ hf

set_option maxHeartbeats 4000000 in
set_option maxRecDepth 20000 in
theorem tX10_runs_171 {d N : Nat}  {a1 : Int} {s0 : Int} {h h' : pv_H}  (hd : 4 ≤ d)    (hf : fX10_runs_171 N  a1 s0 h = some h') : EV RX10 cX10_runs 4 none false d pv_SM (MM h') none 171 [some (.inr (.inr (0))), some (.inl (a1)), none, none] [.inl (s0), .inr (.inr (13)), .inr (.inr (0))] pv_SM (MM h) := by
  unfold fX10_runs_171 at hf
  obtain ⟨g34, hf⟩ := pv_gd hf
  refine FV.iald dX10_runs_171 sm_13 g34.1 g34.2 (j := (Int.toNat (s0))) rfl ?_
  refine EV.weak (L2 := [some (.inr (.inr (0))), some (.inl (a1)), none, none]) (And.intro rfl (And.intro rfl trivial)) ?_
  exact tX10_runs_172 hd    hf

set_option maxHeartbeats 4000000 in
set_option maxRecDepth 20000 in
theorem tX10_runs_143 {d N : Nat}  {a1 : Int}  {h h' : pv_H}  (hd : 4 ≤ d)    (hf : fX10_runs_143 N  a1  h = some h') : EV RX10 cX10_runs 4 none false d pv_SM (MM h') none 143 [some (.inr (.inr (0))), some (.inl (a1)), none, none] [.inr (.inr (0))] pv_SM (MM h) := by
  unfold fX10_runs_143 at hf
  refine EV.aload_n dX10_runs_143 rfl rfl ?_
  refine FV.getF (v := 13) dX10_runs_144 sm_0 fl_10_54 rfl rfl hvm_0_32 ?_
  refine EV.aload_n dX10_runs_147 rfl rfl ?_
  refine FV.getI dX10_runs_148 sm_0 fl_10_368 rfl ?_
  refine EV.aload_n dX10_runs_151 rfl rfl ?_
  refine FV.getI dX10_runs_152 sm_0 fl_10_303 rfl ?_
  refine EV.icmp_ge (tgt := 165) dX10_runs_155 (by decide) (fun q24 => ?_) (fun q24 => ?_)
  · have hf := pv_gp hf q24
    refine EV.aload_n dX10_runs_165 rfl rfl ?_
    refine FV.getI dX10_runs_166 sm_0 fl_10_303 rfl ?_
    refine EV.iconst dX10_runs_169 (by decide) (by decide) ?_
    refine EV.isub dX10_runs_170 ?_
    refine EV.weak (L2 := [some (.inr (.inr (0))), some (.inl (a1)), none, none]) (And.intro rfl (And.intro rfl trivial)) ?_
    exact tX10_runs_171 hd    hf
  · have hf := pv_gn hf q24
    refine EV.aload_n dX10_runs_158 rfl rfl ?_
    refine FV.getI dX10_runs_159 sm_0 fl_10_368 rfl ?_
    refine EV.goto (tgt := 171) dX10_runs_162 (by decide) ?_
    refine EV.weak (L2 := [some (.inr (.inr (0))), some (.inl (a1)), none, none]) (And.intro rfl (And.intro rfl trivial)) ?_
    exact tX10_runs_171 hd    hf

set_option maxHeartbeats 4000000 in
set_option maxRecDepth 20000 in
theorem tX10_runs_121 {d N : Nat}  {a1 : Int} {s0 : Int} {h h' : pv_H}  (hd : 4 ≤ d)    (hf : fX10_runs_121 N  a1 s0 h = some h') : EV RX10 cX10_runs 4 none false d pv_SM (MM h') none 121 [some (.inr (.inr (0))), some (.inl (a1)), none, none] [.inl (s0), .inr (.inr (0))] pv_SM (MM h) := by
  unfold fX10_runs_121 at hf
  obtain ⟨h20, eh20, hf⟩ := pv_bo hf
  refine FV.putI dX10_runs_121 sm_0 fl_10_297 rfl rfl eh20 ?_
  refine EV.aload_n dX10_runs_124 rfl rfl ?_
  refine EV.aload_n dX10_runs_125 rfl rfl ?_
  refine FV.getI dX10_runs_126 sm_0 fl_10_368 rfl ?_
  refine EV.if_ne (tgt := 143) dX10_runs_129 (by decide) (fun q21 => ?_) (fun q21 => ?_)
  · have hf := pv_gn hf q21
    refine EV.weak (L2 := [some (.inr (.inr (0))), some (.inl (a1)), none, none]) (And.intro rfl (And.intro rfl trivial)) ?_
    exact tX10_runs_143 hd    hf
  · have hf := pv_gp hf q21
    refine EV.aload_n dX10_runs_132 rfl rfl ?_
    refine FV.getI dX10_runs_133 sm_0 fl_10_303 rfl ?_
    refine EV.if_ne (tgt := 143) dX10_runs_136 (by decide) (fun q22 => ?_) (fun q22 => ?_)
    · have hf := pv_gn hf q22
      refine EV.weak (L2 := [some (.inr (.inr (0))), some (.inl (a1)), none, none]) (And.intro rfl (And.intro rfl trivial)) ?_
      exact tX10_runs_143 hd    hf
    · have hf := pv_gp hf q22
      refine EV.iconst dX10_runs_139 (by decide) (by decide) ?_
      refine EV.goto (tgt := 172) dX10_runs_140 (by decide) ?_
      refine EV.weak (L2 := [some (.inr (.inr (0))), some (.inl (a1)), none, none]) (And.intro rfl (And.intro rfl trivial)) ?_
      exact tX10_runs_172 hd    hf

set_option maxHeartbeats 4000000 in
set_option maxRecDepth 20000 in
theorem tX10_runs_120 {d N : Nat}  {a1 : Int} {s0 : Int} {h h' : pv_H}  (hd : 4 ≤ d)    (hf : fX10_runs_120 N  a1 s0 h = some h') : EV RX10 cX10_runs 4 none false d pv_SM (MM h') none 120 [some (.inr (.inr (0))), some (.inl (a1)), none, none] [.inl (s0), .inr (.inr (12)), .inr (.inr (0))] pv_SM (MM h) := by
  unfold fX10_runs_120 at hf
  obtain ⟨g23, hf⟩ := pv_gd hf
  refine FV.iald dX10_runs_120 sm_12 g23.1 g23.2 (j := (Int.toNat (s0))) rfl ?_
  refine EV.weak (L2 := [some (.inr (.inr (0))), some (.inl (a1)), none, none]) (And.intro rfl (And.intro rfl trivial)) ?_
  exact tX10_runs_121 hd    hf

set_option maxHeartbeats 4000000 in
set_option maxRecDepth 20000 in
theorem tX10_runs_92 {d N : Nat}  {a1 : Int}  {h h' : pv_H}  (hd : 4 ≤ d)    (hf : fX10_runs_92 N  a1  h = some h') : EV RX10 cX10_runs 4 none false d pv_SM (MM h') none 92 [some (.inr (.inr (0))), some (.inl (a1)), none, none] [.inr (.inr (0))] pv_SM (MM h) := by
  unfold fX10_runs_92 at hf
  refine EV.aload_n dX10_runs_92 rfl rfl ?_
  refine FV.getF (v := 12) dX10_runs_93 sm_0 fl_10_51 rfl rfl hvm_0_31 ?_
  refine EV.aload_n dX10_runs_96 rfl rfl ?_
  refine FV.getI dX10_runs_97 sm_0 fl_10_368 rfl ?_
  refine EV.aload_n dX10_runs_100 rfl rfl ?_
  refine FV.getI dX10_runs_101 sm_0 fl_10_303 rfl ?_
  refine EV.icmp_ge (tgt := 114) dX10_runs_104 (by decide) (fun q19 => ?_) (fun q19 => ?_)
  · have hf := pv_gp hf q19
    refine EV.aload_n dX10_runs_114 rfl rfl ?_
    refine FV.getI dX10_runs_115 sm_0 fl_10_303 rfl ?_
    refine EV.iconst dX10_runs_118 (by decide) (by decide) ?_
    refine EV.isub dX10_runs_119 ?_
    refine EV.weak (L2 := [some (.inr (.inr (0))), some (.inl (a1)), none, none]) (And.intro rfl (And.intro rfl trivial)) ?_
    exact tX10_runs_120 hd    hf
  · have hf := pv_gn hf q19
    refine EV.aload_n dX10_runs_107 rfl rfl ?_
    refine FV.getI dX10_runs_108 sm_0 fl_10_368 rfl ?_
    refine EV.goto (tgt := 120) dX10_runs_111 (by decide) ?_
    refine EV.weak (L2 := [some (.inr (.inr (0))), some (.inl (a1)), none, none]) (And.intro rfl (And.intro rfl trivial)) ?_
    exact tX10_runs_120 hd    hf

set_option maxHeartbeats 4000000 in
set_option maxRecDepth 20000 in
theorem tX10_runs_37 {d N : Nat}  {a1 : Int} {h' : pv_H}  (hd : 4 ≤ d)   : ∀ (n : Nat) (v2 : Int)  (h : pv_H), fX10_runs_37 N  a1 n v2 h = some h' → EV RX10 cX10_runs 4 none false d pv_SM (MM h') none 37 [some (.inr (.inr (0))), some (.inl (a1)), some (.inl (v2)), none] [] pv_SM (MM h) := by
  intro n
  induction n with
  | zero =>
    intro v2  h hf
    cases hf
  | succ n ih =>
    intro v2  h hf
    rw [fX10_runs_37] at hf
    refine EV.iload_n dX10_runs_37 rfl rfl ?_
    refine EV.aload_n dX10_runs_38 rfl rfl ?_
    refine FV.getI dX10_runs_39 sm_0 fl_10_267 rfl ?_
    refine EV.icmp_ge (tgt := 65) dX10_runs_42 (by decide) (fun q8 => ?_) (fun q8 => ?_)
    · have hf := pv_gp hf q8
      refine EV.aload_n dX10_runs_65 rfl rfl ?_
      refine EV.aload_n dX10_runs_66 rfl rfl ?_
      obtain ⟨r10, hc9, hf⟩ := pv_c1o hf
      refine EV.invV (As := []) (st := [.inr (.inr (0))]) (d1 := d - 1) (sh1 := pv_SM) (h1 := MM h) (r1 := (some (.inl r10))) dX10_runs_67 sm_0 (by decide) md_X10_firstTick ml_X10_371 im_X10_firstTick se_X10_firstTick (tX10_firstTick (by omega)  hc9) (by omega) rfl rfl (Nat.le_of_ble_eq_true rfl) ⟨[], (List.append_nil _).symm⟩ ?_
      refine EV.eqS (st2 := [.inl (r10), .inr (.inr (0))]) rfl ?_
      obtain ⟨h11, eh11, hf⟩ := pv_bo hf
      refine FV.putI dX10_runs_70 sm_0 fl_10_368 rfl rfl eh11 ?_
      refine EV.aload_n dX10_runs_73 rfl rfl ?_
      refine EV.aload_n dX10_runs_74 rfl rfl ?_
      refine FV.getI dX10_runs_75 sm_0 fl_10_368 rfl ?_
      refine EV.if_ne (tgt := 92) dX10_runs_78 (by decide) (fun q12 => ?_) (fun q12 => ?_)
      · have hf := pv_gn hf q12
        refine EV.weak (L2 := [some (.inr (.inr (0))), some (.inl (a1)), none, none]) (And.intro rfl (And.intro rfl trivial)) ?_
        exact tX10_runs_92 hd    hf
      · have hf := pv_gp hf q12
        refine EV.aload_n dX10_runs_81 rfl rfl ?_
        refine FV.getI dX10_runs_82 sm_0 fl_10_303 rfl ?_
        refine EV.if_ne (tgt := 92) dX10_runs_85 (by decide) (fun q13 => ?_) (fun q13 => ?_)
        · have hf := pv_gn hf q13
          refine EV.weak (L2 := [some (.inr (.inr (0))), some (.inl (a1)), none, none]) (And.intro rfl (And.intro rfl trivial)) ?_
          exact tX10_runs_92 hd    hf
        · have hf := pv_gp hf q13
          refine EV.iconst dX10_runs_88 (by decide) (by decide) ?_
          refine EV.goto (tgt := 121) dX10_runs_89 (by decide) ?_
          refine EV.weak (L2 := [some (.inr (.inr (0))), some (.inl (a1)), none, none]) (And.intro rfl (And.intro rfl trivial)) ?_
          exact tX10_runs_121 hd    hf
    · have hf := pv_gn hf q8
      refine EV.aload_n dX10_runs_45 rfl rfl ?_
      refine FV.getF (v := 17) dX10_runs_46 sm_0 fl_10_66 rfl rfl hvm_0_44 ?_
      refine EV.iload_n dX10_runs_49 rfl rfl ?_
      refine EV.iconst dX10_runs_50 (by decide) (by decide) ?_
      obtain ⟨g14, hf⟩ := pv_gd hf
      obtain ⟨h15, eh15, hf⟩ := pv_bo hf
      refine FV.zast dX10_runs_51 sm_17 g14.1 g14.2 (by decide) (j := (Int.toNat (v2))) rfl eh15 ?_
      refine EV.aload_n dX10_runs_52 rfl rfl ?_
      refine FV.getF (v := 18) dX10_runs_53 sm_0 fl_10_69 rfl rfl hvm_0_45 ?_
      refine EV.iload_n dX10_runs_56 rfl rfl ?_
      refine EV.iconst dX10_runs_57 (by decide) (by decide) ?_
      obtain ⟨g16, hf⟩ := pv_gd hf
      obtain ⟨h17, eh17, hf⟩ := pv_bo hf
      refine FV.zast dX10_runs_58 sm_18 g16.1 g16.2 (by decide) (j := (Int.toNat (v2))) rfl eh17 ?_
      obtain ⟨x18, ex18, hf⟩ := pv_bo hf
      refine FV.inc (L2 := [some (.inr (.inr (0))), some (.inl (a1)), some (.inl (x18)), none]) dX10_runs_59 rfl (Nat.le_of_ble_eq_true rfl) ex18 rfl ?_
      refine EV.goto (tgt := 37) dX10_runs_62 (by decide) ?_
      refine EV.weak (L2 := [some (.inr (.inr (0))), some (.inl (a1)), some (.inl (x18)), none]) (And.intro rfl (And.intro rfl (And.intro rfl trivial))) ?_
      exact ih _  _ hf

set_option maxHeartbeats 4000000 in
set_option maxRecDepth 20000 in
theorem tX10_runs {d N : Nat} {a1 : Int} {h h' : pv_H}  (hd : 4 ≤ d)  (hf : fX10_runs N a1 h = some h') : CALL yX10_runs cX10_runs 4 none d pv_SM (MM h) [.inr (.inr (0)), .inl (a1)] pv_SM (MM h') none := by
  unfold fX10_runs at hf
  refine EV.call (own := RX10) (ini := false) rfl rfl (fun q => by cases q) ⟨[], (List.append_nil _).symm⟩ (Nat.le_of_ble_eq_true rfl) ?_
  refine EV.eqL (L2 := [some (.inr (.inr (0))), some (.inl (a1)), none, none]) rfl ?_
  refine EV.aload_n dX10_runs_0 rfl rfl ?_
  refine EV.iconst dX10_runs_1 (by decide) (by decide) ?_
  obtain ⟨h1, eh1, hf⟩ := pv_bo hf
  refine FV.putI dX10_runs_2 sm_0 fl_10_328 rfl rfl eh1 ?_
  refine EV.aload_n dX10_runs_5 rfl rfl ?_
  refine EV.iconst dX10_runs_6 (by decide) (by decide) ?_
  obtain ⟨h2, eh2, hf⟩ := pv_bo hf
  refine FV.putI dX10_runs_7 sm_0 fl_10_325 rfl rfl eh2 ?_
  refine EV.aload_n dX10_runs_10 rfl rfl ?_
  refine EV.iconst dX10_runs_11 (by decide) (by decide) ?_
  obtain ⟨h3, eh3, hf⟩ := pv_bo hf
  refine FV.putI dX10_runs_12 sm_0 fl_10_356 rfl rfl eh3 ?_
  refine EV.aload_n dX10_runs_15 rfl rfl ?_
  refine EV.iconst dX10_runs_16 (by decide) (by decide) ?_
  obtain ⟨h4, eh4, hf⟩ := pv_bo hf
  refine FV.putI dX10_runs_17 sm_0 fl_10_297 rfl rfl eh4 ?_
  refine EV.aload_n dX10_runs_20 rfl rfl ?_
  refine EV.iconst dX10_runs_21 (by decide) (by decide) ?_
  obtain ⟨h5, eh5, hf⟩ := pv_bo hf
  refine FV.putI dX10_runs_22 sm_0 fl_10_300 rfl rfl eh5 ?_
  refine EV.aload_n dX10_runs_25 rfl rfl ?_
  refine EV.iconst dX10_runs_26 (by decide) (by decide) ?_
  obtain ⟨h6, eh6, hf⟩ := pv_bo hf
  refine FV.putI dX10_runs_27 sm_0 fl_10_368 rfl rfl eh6 ?_
  refine EV.aload_n dX10_runs_30 rfl rfl ?_
  refine EV.iconst dX10_runs_31 (by decide) (by decide) ?_
  obtain ⟨h7, eh7, hf⟩ := pv_bo hf
  refine FV.putI dX10_runs_32 sm_0 fl_10_359 rfl rfl eh7 ?_
  refine EV.iconst dX10_runs_35 (by decide) (by decide) ?_
  refine FV.sti (L2 := [some (.inr (.inr (0))), some (.inl (a1)), some (.inl (0)), none]) dX10_runs_36 rfl (Nat.le_of_ble_eq_true rfl) rfl rfl ?_
  refine EV.weak (L2 := [some (.inr (.inr (0))), some (.inl (a1)), some (.inl (0)), none]) (And.intro rfl (And.intro rfl (And.intro rfl trivial))) ?_
  exact tX10_runs_37 hd   _ _  _ hf

noncomputable def fX10_piecesOf (N : Nat) (a1 : Int) (a2 : Int) (a3 : Int) (a4 : Int) (a5 : Int) (h : pv_H) : Option (pv_H × Int) :=
  pv_c1 (fX10_takes N a1 h) fun h2 => pv_c1 (fX10_does N a2 a4 h2) fun h4 => pv_c1 (fX10_draws N a3 h4) fun h6 => pv_c1 (fX10_runs N a5 h6) fun h8 => some (h8, h8 0 42)

set_option maxHeartbeats 4000000 in
set_option maxRecDepth 20000 in
theorem tX10_piecesOf {d N : Nat} {a1 : Int} {a2 : Int} {a3 : Int} {a4 : Int} {a5 : Int} {h h' : pv_H} {r : Int} (hd : 5 ≤ d)  (hf : fX10_piecesOf N a1 a2 a3 a4 a5 h = some (h', r)) : CALL yX10_piecesOf cX10_piecesOf 6 (some .int) d pv_SM (MM h) [.inr (.inr (0)), .inl (a1), .inl (a2), .inl (a3), .inl (a4), .inl (a5)] pv_SM (MM h') (some (.inl r)) := by
  unfold fX10_piecesOf at hf
  refine EV.call (own := RX10) (ini := false) rfl rfl (fun q => by cases q) ⟨[], (List.append_nil _).symm⟩ (Nat.le_of_ble_eq_true rfl) ?_
  refine EV.eqL (L2 := [some (.inr (.inr (0))), some (.inl (a1)), some (.inl (a2)), some (.inl (a3)), some (.inl (a4)), some (.inl (a5))]) rfl ?_
  refine EV.aload_n dX10_piecesOf_0 rfl rfl ?_
  refine EV.iload_n dX10_piecesOf_1 rfl rfl ?_
  obtain ⟨h2, hc1, hf⟩ := pv_c1o hf
  refine EV.invV (As := [.inl (a1)]) (st := []) (d1 := d - 1) (sh1 := pv_SM) (h1 := MM h2) (r1 := none) dX10_piecesOf_2 sm_0 (by decide) md_X10_takes ml_X10_282 im_X10_takes se_X10_takes (tX10_takes (by omega)  hc1) (by omega) rfl rfl (Nat.le_of_ble_eq_true rfl) ⟨[], (List.append_nil _).symm⟩ ?_
  refine EV.aload_n dX10_piecesOf_5 rfl rfl ?_
  refine EV.iload_n dX10_piecesOf_6 rfl rfl ?_
  refine EV.iload dX10_piecesOf_7 rfl ?_
  obtain ⟨h4, hc3, hf⟩ := pv_c1o hf
  refine EV.invV (As := [.inl (a2), .inl (a4)]) (st := []) (d1 := d - 1) (sh1 := pv_SM) (h1 := MM h4) (r1 := none) dX10_piecesOf_9 sm_0 (by decide) md_X10_does ml_X10_317 im_X10_does se_X10_does (tX10_does (by omega)  hc3) (by omega) rfl rfl (Nat.le_of_ble_eq_true rfl) ⟨[], (List.append_nil _).symm⟩ ?_
  refine EV.aload_n dX10_piecesOf_12 rfl rfl ?_
  refine EV.iload_n dX10_piecesOf_13 rfl rfl ?_
  obtain ⟨h6, hc5, hf⟩ := pv_c1o hf
  refine EV.invV (As := [.inl (a3)]) (st := []) (d1 := d - 1) (sh1 := pv_SM) (h1 := MM h6) (r1 := none) dX10_piecesOf_14 sm_0 (by decide) md_X10_draws ml_X10_285 im_X10_draws se_X10_draws (tX10_draws (by omega)  hc5) (by omega) rfl rfl (Nat.le_of_ble_eq_true rfl) ⟨[], (List.append_nil _).symm⟩ ?_
  refine EV.aload_n dX10_piecesOf_17 rfl rfl ?_
  refine EV.iload dX10_piecesOf_18 rfl ?_
  obtain ⟨h8, hc7, hf⟩ := pv_c1o hf
  refine EV.invV (As := [.inl (a5)]) (st := []) (d1 := d - 1) (sh1 := pv_SM) (h1 := MM h8) (r1 := none) dX10_piecesOf_20 sm_0 (by decide) md_X10_runs ml_X10_393 im_X10_runs se_X10_runs (tX10_runs (by omega)  hc7) (by omega) rfl rfl (Nat.le_of_ble_eq_true rfl) ⟨[], (List.append_nil _).symm⟩ ?_
  refine EV.aload_n dX10_piecesOf_23 rfl rfl ?_
  refine FV.getI dX10_piecesOf_24 sm_0 fl_10_390 rfl ?_
  exact FV.iret dX10_piecesOf_27 hf

noncomputable def fX10_isBoth_20 (N : Nat)  (a1 : Int) (a2 : Int) (s0 : Int) (h : pv_H) : Option (Int) :=
  if s0 = 0 ∨ s0 = 1 then (some (s0)) else none

noncomputable def fX10_isBoth_19 (N : Nat)  (a1 : Int) (a2 : Int)  (h : pv_H) : Option (Int) :=
  fX10_isBoth_20 N  a1 a2 (0) h

noncomputable def fX10_isBoth (N : Nat) (a1 : Int) (a2 : Int) (h : pv_H) : Option (Int) :=
  pv_c1 (fX10_isRod N a1 h) fun r2 => if r2 = 0 then (fX10_isBoth_19 N  a1 a2  h) else (pv_c1 (fX10_isDoing N a2 h) fun r5 => if r5 = 0 then (fX10_isBoth_19 N  a1 a2  h) else (fX10_isBoth_20 N  a1 a2 (1) h))

set_option maxHeartbeats 4000000 in
set_option maxRecDepth 20000 in
theorem tX10_isBoth_20 {d N : Nat}  {a1 : Int} {a2 : Int} {s0 : Int} {h : pv_H} {r : Int} (hd : 3 ≤ d)    (hf : fX10_isBoth_20 N  a1 a2 s0 h = some r) : EV RX10 cX10_isBoth 3 (some .boolean) false d pv_SM (MM h) (some (.inl r)) 20 [none, none, none] [.inl (s0)] pv_SM (MM h) := by
  unfold fX10_isBoth_20 at hf
  obtain ⟨g7, hf⟩ := pv_gd hf
  exact FV.zretp dX10_isBoth_20 g7 hf

set_option maxHeartbeats 4000000 in
set_option maxRecDepth 20000 in
theorem tX10_isBoth_19 {d N : Nat}  {a1 : Int} {a2 : Int}  {h : pv_H} {r : Int} (hd : 3 ≤ d)    (hf : fX10_isBoth_19 N  a1 a2  h = some r) : EV RX10 cX10_isBoth 3 (some .boolean) false d pv_SM (MM h) (some (.inl r)) 19 [none, none, none] [] pv_SM (MM h) := by
  unfold fX10_isBoth_19 at hf
  refine EV.iconst dX10_isBoth_19 (by decide) (by decide) ?_
  refine EV.weak (L2 := [none, none, none]) trivial ?_
  exact tX10_isBoth_20 hd    hf

set_option maxHeartbeats 4000000 in
set_option maxRecDepth 20000 in
theorem tX10_isBoth {d N : Nat} {a1 : Int} {a2 : Int} {h : pv_H} {r : Int} (hd : 3 ≤ d)  (hf : fX10_isBoth N a1 a2 h = some r) : CALL yX10_isBoth cX10_isBoth 3 (some .boolean) d pv_SM (MM h) [.inr (.inr (0)), .inl (a1), .inl (a2)] pv_SM (MM h) (some (.inl r)) := by
  unfold fX10_isBoth at hf
  refine EV.call (own := RX10) (ini := false) rfl rfl (fun q => by cases q) ⟨[], (List.append_nil _).symm⟩ (Nat.le_of_ble_eq_true rfl) ?_
  refine EV.eqL (L2 := [some (.inr (.inr (0))), some (.inl (a1)), some (.inl (a2))]) rfl ?_
  refine EV.aload_n dX10_isBoth_0 rfl rfl ?_
  refine EV.iload_n dX10_isBoth_1 rfl rfl ?_
  obtain ⟨r2, hc1, hf⟩ := pv_c1o hf
  refine EV.invV (As := [.inl (a1)]) (st := []) (d1 := d - 1) (sh1 := pv_SM) (h1 := MM h) (r1 := (some (.inl r2))) dX10_isBoth_2 sm_0 (by decide) md_X10_isRod ml_X10_277 im_X10_isRod se_X10_isRod (tX10_isRod (by omega)  hc1) (by omega) rfl rfl (Nat.le_of_ble_eq_true rfl) ⟨[], (List.append_nil _).symm⟩ ?_
  refine EV.eqS (st2 := [.inl (r2)]) rfl ?_
  refine EV.if_eq (tgt := 19) dX10_isBoth_5 (by decide) (fun q3 => ?_) (fun q3 => ?_)
  · have hf := pv_gp hf q3
    refine EV.weak (L2 := [none, none, none]) trivial ?_
    exact tX10_isBoth_19 hd    hf
  · have hf := pv_gn hf q3
    refine EV.iload_n dX10_isBoth_8 rfl rfl ?_
    obtain ⟨r5, hc4, hf⟩ := pv_c1o hf
    refine EV.invS (As := [.inl (a2)]) (st := []) (d1 := d - 1) (sh1 := pv_SM) (h1 := MM h) (r1 := (some (.inl r5))) dX10_isBoth_9 md_X10_isDoing ml_X10_312 st_X10_isDoing (tX10_isDoing (by omega)  hc4) (by omega) rfl rfl (Nat.le_of_ble_eq_true rfl) ⟨[], (List.append_nil _).symm⟩ ?_
    refine EV.eqS (st2 := [.inl (r5)]) rfl ?_
    refine EV.if_eq (tgt := 19) dX10_isBoth_12 (by decide) (fun q6 => ?_) (fun q6 => ?_)
    · have hf := pv_gp hf q6
      refine EV.weak (L2 := [none, none, none]) trivial ?_
      exact tX10_isBoth_19 hd    hf
    · have hf := pv_gn hf q6
      refine EV.iconst dX10_isBoth_15 (by decide) (by decide) ?_
      refine EV.goto (tgt := 20) dX10_isBoth_16 (by decide) ?_
      refine EV.weak (L2 := [none, none, none]) trivial ?_
      exact tX10_isBoth_20 hd    hf
