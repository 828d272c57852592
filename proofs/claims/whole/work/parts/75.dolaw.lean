/-! DOINGS and THE LAW as texts, both -/
theorem FTz.up5 {hc hm : pv_H} {k : Nat} {x : Int} (F : FTz hc hm) : FTz hc (pv_up hm 5 k x) := F.frm (fun _ _ _ => rfl) (fun x y u => pv_up_ne (by omega))
theorem FTz.up14 {hc hm : pv_H} {x : Int} (F : FTz hc hm) : FTz hc (pv_up hm 0 14 x) := F.frm (fun _ _ _ => rfl) (fun x y u => pv_up_ne (by omega))
theorem TYz.up5 {L s p : Nat} {hc hm : pv_H} {k : Nat} {x : Int} (T : TYz L s p hc hm) : TYz L s p hc (pv_up hm 5 k x) := T.frm (fun _ _ _ => rfl) (fun x y u => pv_up_ne (by omega))
theorem TYz.up14 {L s p : Nat} {hc hm : pv_H} {x : Int} (T : TYz L s p hc hm) : TYz L s p hc (pv_up hm 0 14 x) := T.frm (fun _ _ _ => rfl) (fun x y u => pv_up_ne (by omega))
theorem TFm.up5 {hm0 hm : pv_H} {k : Nat} {x : Int} (F : TFm hm0 hm) : TFm hm0 (pv_up hm 5 k x) := F.tr (fun x y np => pv_up_ne (by unfold TMf at np; omega))
theorem TFg.up14 {hm0 hm : pv_H} {x : Int} (F : TFg hm0 hm) : TFg hm0 (pv_up hm 0 14 x) := F.tr (fun x y np => pv_up_ne (by unfold TMg at np; omega))
def DLz (v : Nat) (hc hm : pv_H) : Prop := v ≤ 12 ∧ hc 8 0 = (v : Int) ∧ ∀ i, i < v → hc 9 i = hm 5 (1 + i) + 9 ∧ 0 ≤ hm 5 (1 + i) ∧ hm 5 (1 + i) ≤ 3 ∧ hc 10 i = hm 5 (13 + i) ∧ 0 ≤ hm 5 (13 + i) ∧ hm 5 (13 + i) ≤ 99 ∧ hc 11 i = hm 5 (25 + i) ∧ 1 ≤ hm 5 (25 + i) ∧ hm 5 (25 + i) ≤ 200
theorem DLz.frm {v : Nat} {hc hm hc' hm' : pv_H} (D : DLz v hc hm) (f : ∀ x y, 8 ≤ x ∧ x ≤ 11 → hc' x y = hc x y) (g : ∀ y, hm' 5 y = hm 5 y) : DLz v hc' hm' := by
  obtain ⟨d1, d2, d3⟩ := D
  refine ⟨d1, by rw [f _ _ (by omega)]; exact d2, fun i hi => ?_⟩
  rw [f 9 i (by omega), f 10 i (by omega), f 11 i (by omega), g, g, g]
  exact d3 i hi
section DOTEXT
variable {N L s p : Nat} {hc hm : pv_H}
/-- a STEP behind its number, both -/
theorem for_2 {v : Nat} {k b a1 : Int} {hc0 hm0 : pv_H} (hN : 1000 ≤ N) (v12 : v < 12) (k0 : 9 ≤ k) (k1 : k ≤ 12) (b0 : 0 ≤ b) (b1 : b ≤ 99) (T : TYz L s p hc hm) (D : DLz v hc hm0) (F : TFc hc0 hc) (G : TFm hm0 hm) (e5 : ∀ y, y ≠ 1 + v → hm 5 y = hm0 5 y) (e1 : hm 5 (1 + v) = k - 9) (e14 : hm 0 14 = (v : Int)) : (∃ hc' hm1 hm', fX4_readStep_63 N a1 k b hc = some (hc', 1) ∧ fX10_readStep_108 N b ((13 + v : Nat) : Int) hm = some hm1 ∧ fX10_needs N 39 hm1 = some hm' ∧ ∃ s' p', TYz L s' p' hc' hm' ∧ DLz (v + 1) hc' hm' ∧ TFc hc0 hc' ∧ TFm hm0 hm') ∨ (∃ hc' hm1 hm', fX4_readStep_63 N a1 k b hc = some (hc', 0) ∧ fX10_readStep_108 N b ((13 + v : Nat) : Int) hm = some hm1 ∧ fX10_needs N 39 hm1 = some hm' ∧ NOr hc0 hm0 hc' hm') := by
  have t13 : tkz 13 = 13 := rfl
  have t39 : tkz 39 = 42 := rfl
  have tg1 : pv_t1.getD (Int.toNat 13) 0 = 1 := rfl
  have tg2 : pv_t2.getD (Int.toNat 13) 0 = 200 := rfl
  have x25 : pv_w (25 + (v : Int)) = ((25 + v : Nat) : Int) := by rw [pv_w_id (by omega) (by omega)]; omega
  unfold fX4_readStep_63 fX4_readStep_78 fX4_readStep_113 fX10_readStep_108
  rw [if_neg (show ¬ b = -1 by omega), if_pos (show 0 ≤ ((13 + v : Nat) : Int) ∧ ((13 + v : Nat) : Int) < 417 by omega), tnc, bbs, tg1, tg2, ← t13, ← t39]
  have T1 := T.up5 (k := 13 + v) (x := b)
  have G1 := G.up5 (k := 13 + v) (x := b)
  rcases expect_2 (N := N) (k := 13) hN T1 (by omega) with ⟨_, hc2, hm2, x1, x2, s2, p2, T2, q2, F2, G2⟩ | ⟨_, hc2, hm2, x1, x2, FT, F2, G2⟩
  · have F02 := F.tr (TFc.of F2)
    have G02 := G1.tr (TFm.of G2)
    have m14 : hm2 0 14 = (v : Int) := by rw [G2 _ _ (by unfold RMf; omega), pv_up_ne (by omega)]; exact e14
    rw [t13] at x1
    rw [t13, x1, c2s, if_neg n10]
    have x2' : fX10_needs N 13 (pv_up hm 5 (13 + v) b) = some hm2 := x2
    rw [x2', c1s, m14, x25]
    rcases number_2 (N := N) (lo := 1) (hi := 200) hN T2 with ⟨hc3, hm3, r, y1, y2, r0, r1, _, _, lt3, s3, p3, T3, q3, F3, G3⟩ | ⟨hc3, hm3, r, y1, y2, FT, F3, G3⟩
    · rw [y1, y2, c2s, c2s, if_neg (show ¬ r = -1 by omega), if_pos (show 0 ≤ ((25 + v : Nat) : Int) ∧ ((25 + v : Nat) : Int) < 417 by omega), tnc, bbs]
      have T4 := T3.up5 (k := 25 + v) (x := r)
      have F03 := F02.tr (TFc.of F3)
      have G03 := (G02.tr (TFm.of G3)).up5 (k := 25 + v) (x := r)
      rcases expect_2 (N := N) (k := 39) hN T4 (by omega) with ⟨_, hc5, hm5, z1, z2, s5, p5, T5, q5, F5, G5⟩ | ⟨_, hc5, hm5, z1, z2, FT, F5, G5⟩
      · rw [z1, c2s, if_neg n10]
        have F05 := F03.tr (TFc.of F5)
        have G05 := G03.tr (TFm.of G5)
        obtain ⟨d1, d2, d3⟩ := D
        have fC : ∀ x y, 8 ≤ x → x ≤ 11 → hc5 x y = hc x y := fun x y a1 a2 => by rw [F5 x y (by unfold RCf; omega), F3 x y (by unfold RCf; omega), F2 x y (by unfold RCf; omega)]
        have e8 : hc5 8 0 = (v : Int) := by rw [fC _ _ (by omega) (by omega)]; exact d2
        obtain ⟨hc6, h6⟩ : ∃ hc6, hc6 = pv_up (pv_up (pv_up (pv_up hc5 9 v k) 10 v b) 11 v r) 8 0 ((v + 1 : Nat) : Int) := ⟨_, rfl⟩
        have et : fX0_tell N 8 k b r hc5 = some hc6 := by
          unfold fX0_tell fX0_tell_49
          simp (disch := omega) only [e8, if_neg, if_pos, tnc, bbs, pu_ne, pws]
          rw [h6]
        have f6 : ∀ x y, ¬ (x = 8 ∧ y = 0 ∨ 9 ≤ x ∧ x ≤ 11 ∧ y = v) → hc6 x y = hc5 x y := fun x y np => by rw [h6, pv_up_ne (by omega), pv_up_ne (by omega), pv_up_ne (by omega), pv_up_ne (by omega)]
        have g5 : ∀ y, y ≠ 13 + v → y ≠ 25 + v → hm5 5 y = hm 5 y := fun y n1 n2 => by rw [G5 _ _ (by unfold RMf; omega), pv_up_ne (by omega), G3 _ _ (by unfold RMf; omega), G2 _ _ (by unfold RMf; omega), pv_up_ne (by omega)]
        rw [et, c1s]
        refine Or.inl ⟨hc6, _, hm5, rfl, rfl, z2, s5, p5, T5.frm (fun x y u => f6 x y (by omega)) (fun _ _ _ => rfl), ⟨by omega, by rw [h6, pv_up_self], fun i hi => ?_⟩, F05.tr (fun x y np => f6 x y (by unfold TCf at np; omega)), G05⟩
        by_cases ei : i = v
        · subst ei
          have a9 : hc6 9 i = k := by rw [h6, pv_up_ne (by omega), pv_up_ne (by omega), pv_up_ne (by omega), pv_up_self]
          have a10 : hc6 10 i = b := by rw [h6, pv_up_ne (by omega), pv_up_ne (by omega), pv_up_self]
          have a11 : hc6 11 i = r := by rw [h6, pv_up_ne (by omega), pv_up_self]
          have b1' : hm5 5 (1 + i) = k - 9 := by rw [g5 _ (by omega) (by omega)]; exact e1
          have b13 : hm5 5 (13 + i) = b := by rw [G5 _ _ (by unfold RMf; omega), pv_up_ne (by omega), G3 _ _ (by unfold RMf; omega), G2 _ _ (by unfold RMf; omega), pv_up_self]
          have b25 : hm5 5 (25 + i) = r := by rw [G5 _ _ (by unfold RMf; omega), pv_up_self]
          rw [a9, a10, a11, b1', b13, b25]
          omega
        · have := d3 i (by omega)
          rw [f6 9 i (by omega), f6 10 i (by omega), f6 11 i (by omega), fC 9 i (by omega) (by omega), fC 10 i (by omega) (by omega), fC 11 i (by omega) (by omega), g5 (1 + i) (by omega) (by omega), g5 (13 + i) (by omega) (by omega), g5 (25 + i) (by omega) (by omega), e5 (1 + i) (by omega), e5 (13 + i) (by omega), e5 (25 + i) (by omega)]
          exact this
      · rw [z1, c2s, if_pos rfl]
        exact Or.inr ⟨hc5, _, hm5, rfl, rfl, z2, FT, F03.tr (TFc.of F5), G03.tr (TFm.of G5)⟩
    · rw [y1, y2, c2s, c2s, if_pos rfl, if_pos (show 0 ≤ ((25 + v : Nat) : Int) ∧ ((25 + v : Nat) : Int) < 417 by omega), tnc, bbs]
      exact Or.inr ⟨hc3, _, _, rfl, rfl, needs_F FT.up5.ne, FT.up5, F02.tr (TFc.of F3), (G02.tr (TFm.of G3)).up5⟩
  · have m14 : hm2 0 14 = (v : Int) := by rw [G2 _ _ (by unfold RMf; omega), pv_up_ne (by omega)]; exact e14
    rw [t13] at x1
    have x2' : fX10_needs N 13 (pv_up hm 5 (13 + v) b) = some hm2 := x2
    rw [t13, x1, c2s, if_pos rfl, x2', c1s, reads_F FT.ne, c2s, m14, x25, if_pos (show 0 ≤ ((25 + v : Nat) : Int) ∧ ((25 + v : Nat) : Int) < 417 by omega), tnc, bbs]
    exact Or.inr ⟨hc2, _, _, rfl, rfl, needs_F FT.up5.ne, FT.up5, F.tr (TFc.of F2), (G1.tr (TFm.of G2)).up5⟩
theorem step_2 {v : Nat} (hN : 1000 ≤ N) (T : TYz L s p hc hm) (D : DLz v hc hm) (e14 : hm 0 14 = (v : Int)) : (∃ hc' hm1 hm', fX4_readStep N (v : Int) hc = some (hc', 1) ∧ fX10_readStep N hm = some hm1 ∧ fX10_needs N 39 hm1 = some hm' ∧ v < 12 ∧ ∃ s' p', TYz L s' p' hc' hm' ∧ DLz (v + 1) hc' hm' ∧ TFc hc hc' ∧ TFm hm hm') ∨ (∃ hc' hm1 hm', fX4_readStep N (v : Int) hc = some (hc', 0) ∧ fX10_readStep N hm = some hm1 ∧ fX10_needs N 39 hm1 = some hm' ∧ NOr hc hm hc' hm') := by
  have kb := T.kb
  have tk := tk_c (hm 0 10)
  have v12 := D.1
  unfold fX4_readStep fX10_readStep
  rw [bbs, T.tok, if_pos T.z12]
  unfold fX10_readStep_16
  by_cases wk : 9 ≤ hm 0 10 ∧ hm 0 10 ≤ 12
  · rw [if_neg (show ¬ tkz (hm 0 10) < 9 by omega), if_pos (show tkz (hm 0 10) ≤ 12 by omega), wn_1 wk, c1s, if_neg n10, e14]
    by_cases e24 : (v : Int) = 12
    · obtain ⟨hc1, hm1, x1, x2, FT, F1, G1⟩ := fail_2 (N := N) (k := 4) T (by omega) (by omega)
      rw [if_pos e24, if_pos e24, x1, c2s, if_pos (Or.inl rfl), x2, c1s]
      unfold fX10_readStep_53
      rw [if_neg FT.ne]
      exact Or.inr ⟨hc1, hm1, hm1, rfl, rfl, needs_F FT.ne, FT, TFc.of F1, TFm.of G1⟩
    · rw [if_neg e24, if_neg e24]
      unfold fX10_readStep_53
      obtain ⟨hc1, hm1, x1, x2, s1, p1, T1, q1, F1, G1⟩ := nx_2 (N := N) hN T (by omega)
      have ek : tkz (hm 0 10) = hm 0 10 := by omega
      have m14 : hm1 0 14 = (v : Int) := by rw [G1 _ _ (by unfold RMf; omega)]; exact e14
      have x1' : pv_w (1 + (v : Int)) = ((1 + v : Nat) : Int) := by rw [pv_w_id (by omega) (by omega)]; omega
      have x13 : pv_w (13 + (v : Int)) = ((13 + v : Nat) : Int) := by rw [pv_w_id (by omega) (by omega)]; omega
      obtain ⟨k, hk⟩ : ∃ k, k = hm 0 10 := ⟨_, rfl⟩
      rw [if_pos T.z12, x1, x2, c1s, c1s, ek, ← hk, m14, x1', if_pos (show 0 ≤ ((1 + v : Nat) : Int) ∧ ((1 + v : Nat) : Int) < 417 by omega), tnc, pv_w_id (x := k - 9) (by omega) (by omega), bbs, pv_up_ne (show (0 : Nat) ≠ 5 ∨ _ by omega), m14, x13]
      have T2 := T1.up5 (k := 1 + v) (x := k - 9)
      have G2 := (TFm.of G1).up5 (k := 1 + v) (x := k - 9)
      have FF := TFc.of F1
      have D1 : DLz v hc1 hm := D.frm (fun x y u => F1 x y (by unfold RCf; omega)) (fun _ => rfl)
      by_cases z12 : k = 12
      · rw [if_pos z12, if_pos z12]
        rcases for_2 (N := N) (a1 := (v : Int)) (k := k) (b := 0) hN (by omega) (by omega) (by omega) (by omega) (by omega) T2 D1 FF G2 (fun y ny => by rw [pv_up_ne (by omega), G1 _ _ (by unfold RMf; omega)]) (pv_up_self _ _ _ _) (by rw [pv_up_ne (by omega)]; exact m14) with ⟨hc', hm2, hm', y1, y2, y3, y4⟩ | ⟨hc', hm2, hm', y1, y2, y3, y4⟩
        · exact Or.inl ⟨hc', hm2, hm', y1, y2, y3, by omega, y4⟩
        · exact Or.inr ⟨hc', hm2, hm', y1, y2, y3, y4⟩
      · have tg1 : pv_t1.getD (Int.toNat k) 0 = 0 ∧ pv_t2.getD (Int.toNat k) 0 = 99 := by
          rcases (show k = 9 ∨ k = 10 ∨ k = 11 by omega) with u | u | u
          · rw [u]; exact ⟨rfl, rfl⟩
          · rw [u]; exact ⟨rfl, rfl⟩
          · rw [u]; exact ⟨rfl, rfl⟩
        rw [if_neg z12, if_neg z12, if_pos (by omega), if_pos (by omega), tg1.1, tg1.2]
        rcases number_2 (N := N) (lo := 0) (hi := 99) hN T2 with ⟨hc3, hm3, b, y1, y2, r0, r1, _, _, lt3, s3, p3, T3, q3, F3, G3⟩ | ⟨hc3, hm3, r, y1, y2, FT, F3, G3⟩
        · rw [y1, y2, c2s, c2s]
          rcases for_2 (N := N) (a1 := (v : Int)) (k := k) (b := b) hN (by omega) (by omega) (by omega) (by omega) (by omega) T3 (D1.frm (fun x y u => F3 x y (by unfold RCf; omega)) (fun _ => rfl)) (FF.tr (TFc.of F3)) (G2.tr (TFm.of G3)) (fun y ny => by rw [G3 _ _ (by unfold RMf; omega), pv_up_ne (by omega), G1 _ _ (by unfold RMf; omega)]) (by rw [G3 _ _ (by unfold RMf; omega), pv_up_self]) (by rw [G3 _ _ (by unfold RMf; omega), pv_up_ne (by omega)]; exact m14) with ⟨hc', hm2, hm', y1, y2, y3, y4⟩ | ⟨hc', hm2, hm', y1, y2, y3, y4⟩
          · exact Or.inl ⟨hc', hm2, hm', y1, y2, y3, by omega, y4⟩
          · exact Or.inr ⟨hc', hm2, hm', y1, y2, y3, y4⟩
        · have m314 : hm3 0 14 = (v : Int) := by rw [G3 _ _ (by unfold RMf; omega), pv_up_ne (by omega)]; exact m14
          have x25 : pv_w (25 + (v : Int)) = ((25 + v : Nat) : Int) := by rw [pv_w_id (by omega) (by omega)]; omega
          have FTa := FT.up5 (k := 13 + v) (x := r)
          rw [y1, y2, c2s, c2s]
          unfold fX4_readStep_63 fX4_readStep_78 fX10_readStep_108
          rw [if_pos rfl, if_pos (show 0 ≤ ((13 + v : Nat) : Int) ∧ ((13 + v : Nat) : Int) < 417 by omega), tnc, bbs, needs_F FTa.ne, c1s, reads_F FTa.ne, c2s, pv_up_ne (show (0 : Nat) ≠ 5 ∨ (14 : Nat) ≠ 13 + v by omega), m314, x25, if_pos (show 0 ≤ ((25 + v : Nat) : Int) ∧ ((25 + v : Nat) : Int) < 417 by omega), tnc, bbs]
          exact Or.inr ⟨hc3, _, _, rfl, rfl, needs_F FTa.up5.ne, FTa.up5, FF.tr (TFc.of F3), ((G2.tr (TFm.of G3)).up5).up5⟩
  · obtain ⟨hc1, hm1, x1, x2, FT, F1, G1⟩ := fail_2 (N := N) (k := 2) T (by omega) (by omega)
    have e16 : fX4_readStep_17 N (v : Int) hc = some (hc1, 0) := by
      unfold fX4_readStep_17
      rw [x1, c2s, if_pos (Or.inl rfl)]
    rw [wn_0 wk, c1s, if_pos rfl, x2, c1s]
    unfold fX10_readStep_53
    rw [if_neg FT.ne]
    refine Or.inr ⟨hc1, hm1, hm1, ?_, rfl, needs_F FT.ne, FT, TFc.of F1, TFm.of G1⟩
    by_cases q : tkz (hm 0 10) < 9
    · rw [if_pos q, e16]
    · rw [if_neg q, if_neg (by omega), e16]
theorem steps_l {a2 a3 : Int} (hN : 1000 ≤ N) : ∀ (d v f f' s p : Nat) (hc hm : pv_H), v + d = 12 → d < f → d + 1 < f' → TYz L s p hc hm → DLz v hc hm → hm 0 14 = (v : Int) → (∃ (hc' hm' : pv_H) (u : Nat), fX4_readDoings_10 N f (v : Int) hc = some (hc', (u : Int)) ∧ fX10_text_140 N 1 a2 a3 f' hm = fX10_text_225 N 1 a2 a3 hm' ∧ DLz u hc' hm' ∧ OKe hc hm hc' hm' u) ∨ (∃ hc' hm', fX4_readDoings_10 N f (v : Int) hc = some (hc', 0) ∧ fX10_text_140 N 1 a2 a3 f' hm = fX10_text_225 N 1 a2 a3 hm' ∧ NOe hc hm hc' hm') := by
  have t45 : tkz 42 = 45 := rfl
  intro d
  induction d with
  | zero =>
    intro v f f' s p hc hm h1 h2 h3 T R e14
    obtain ⟨f, rfl⟩ : ∃ g, f = g + 1 := ⟨f - 1, by omega⟩
    obtain ⟨f', rfl⟩ : ∃ g, f' = g + 1 := ⟨f' - 1, by omega⟩
    rw [fX4_readDoings_10, fX10_text_140, if_neg (by omega), T.tok, ← t45, if_pos T.z12]
    by_cases z : hm 0 10 = 42
    · rw [if_pos (tk_inj.mpr z), if_pos z, if_neg (by omega)]
      have u := T.2.2.2.2.2.2.2.2.2.2.2.2.2.2.1 (by omega)
      exact Or.inl ⟨hc, hm, v, rfl, rfl, R, T.z12, e14, u.1, u.2, TFc.rf, TFg.rf⟩
    · rw [if_neg (fun u => z (tk_inj.mp u)), if_neg z]
      unfold fX10_text_167 fX10_text_206
      rw [if_neg (by omega), if_pos rfl]
      rcases step_2 (N := N) hN T R e14 with ⟨hc1, hm1, hm2, x1, x2, x3, lt, _⟩ | ⟨hc1, hm1, hm2, x1, x2, x3, FT, F1, G1⟩
      · omega
      · rw [x1, x2, c2s, c1s, if_pos rfl, x3, c1s, bbs]
        exact Or.inr ⟨hc1, _, rfl, t140_F FT.up14.ne (by omega), FT.up14, F1, G1.g.up14⟩
  | succ d ih =>
    intro v f f' s p hc hm h1 h2 h3 T R e14
    obtain ⟨f, rfl⟩ : ∃ g, f = g + 1 := ⟨f - 1, by omega⟩
    obtain ⟨f', rfl⟩ : ∃ g, f' = g + 1 := ⟨f' - 1, by omega⟩
    rw [fX4_readDoings_10, fX10_text_140, if_neg (by omega), T.tok, ← t45, if_pos T.z12]
    by_cases z : hm 0 10 = 42
    · rw [if_pos (tk_inj.mpr z), if_pos z, if_neg (by omega)]
      have u := T.2.2.2.2.2.2.2.2.2.2.2.2.2.2.1 (by omega)
      exact Or.inl ⟨hc, hm, v, rfl, rfl, R, T.z12, e14, u.1, u.2, TFc.rf, TFg.rf⟩
    · rw [if_neg (fun u => z (tk_inj.mp u)), if_neg z]
      unfold fX10_text_167 fX10_text_206
      rw [if_neg (by omega), if_pos rfl]
      rcases step_2 (N := N) hN T R e14 with ⟨hc1, hm1, hm2, x1, x2, x3, lt, s2, p2, T2, R2, F2, G2⟩ | ⟨hc1, hm1, hm2, x1, x2, x3, FT, F1, G1⟩
      · have e14' : hm2 0 14 = (v : Int) := by rw [G2 _ _ (by unfold TMf RMf; omega)]; exact e14
        rw [x1, x2, c2s, c1s, if_neg n10, x3, c1s, bbs, bbs, e14', pws (by omega)]
        have R3 : DLz (v + 1) hc1 (pv_up hm2 0 14 ((v + 1 : Nat) : Int)) := R2.frm (fun _ _ _ => rfl) (fun y => pv_up_ne (by omega))
        have G3 := G2.g.up14 (x := ((v + 1 : Nat) : Int))
        rcases ih (v + 1) f f' s2 p2 hc1 _ (by omega) (by omega) (by omega) T2.up14 R3 (pv_up_self _ _ _ _) with ⟨hc', hm', u, y1, y2, y5, y6, y7, y8, y9, y10, y11⟩ | ⟨hc', hm', y1, y2, y3, y4, y5⟩
        · exact Or.inl ⟨hc', hm', u, y1, y2, y5, y6, y7, y8, y9, F2.tr y10, G3.tr y11⟩
        · exact Or.inr ⟨hc', hm', y1, y2, y3, F2.tr y4, G3.tr y5⟩
      · rw [x1, x2, c2s, c1s, if_pos rfl, x3, c1s, bbs]
        exact Or.inr ⟨hc1, _, rfl, t140_F FT.up14.ne (by omega), FT.up14, F1, G1.g.up14⟩
theorem doings_2 {a2 a3 : Int} (hN : 1000 ≤ N) (T : TYz L s p hc hm) (e14 : hm 0 14 = 0) : (∃ (hc' hm' : pv_H) (u : Nat), fX4_readDoings N hc = some (hc', (u : Int)) ∧ fX10_text_140 N 1 a2 a3 N hm = fX10_text_225 N 1 a2 a3 hm' ∧ DLz u hc' hm' ∧ OKe hc hm hc' hm' u) ∨ (∃ hc' hm', fX4_readDoings N hc = some (hc', 0) ∧ fX10_text_140 N 1 a2 a3 N hm = fX10_text_225 N 1 a2 a3 hm' ∧ NOe hc hm hc' hm') := by
  have T1 : TYz L s p (pv_up hc 8 0 0) hm := T.frm (fun x y u => pv_up_ne (by omega)) (fun _ _ _ => rfl)
  have F1 : TFc hc (pv_up hc 8 0 0) := fun x y np => pv_up_ne (by unfold TCf at np; omega)
  have D : DLz 0 (pv_up hc 8 0 0) hm := ⟨by omega, pv_up_self _ _ _ _, fun i hi => by omega⟩
  unfold fX4_readDoings
  rw [bbs]
  rcases steps_l (N := N) (a2 := a2) (a3 := a3) hN 12 0 N N s p _ hm (by omega) (by omega) (by omega) T1 D e14 with ⟨hc', hm', u, y1, y2, y5, y6, y7, y8, y9, y10, y11⟩ | ⟨hc', hm', y1, y2, y3, y4, y5⟩
  · exact Or.inl ⟨hc', hm', u, y1, y2, y5, y6, y7, y8, y9, F1.tr y10, y11⟩
  · exact Or.inr ⟨hc', hm', y1, y2, y3, F1.tr y4, y5⟩
end DOTEXT
/-! THE LAW -/
def llo (j : Nat) : Int := if j = 2 ∨ j = 3 then 1 else 0
def lhi (j : Nat) : Int := if j = 0 then 200 else if j = 1 then 99 else if j = 2 ∨ j = 3 then 9 else 100
def LLz (hc hm : pv_H) : Prop := ∀ j, j < 8 → hc 13 j = hm 5 j ∧ llo j ≤ hm 5 j ∧ hm 5 j ≤ lhi j
theorem LLz.frm {hc hm hc' hm' : pv_H} (D : LLz hc hm) (f : ∀ y, hc' 13 y = hc 13 y) (g : ∀ y, hm' 5 y = hm 5 y) : LLz hc' hm' := by
  intro j hj
  rw [f, g]
  exact D j hj
section LAWTEXT
variable {N L s p : Nat} {hc hm : pv_H}
theorem lline_2 {v : Nat} (hN : 1000 ≤ N) (v24 : v ≤ 24) (T : TYz L s p hc hm) (D : LLz hc hm) (e14 : hm 0 14 = (v : Int)) : (∃ hc' hm1 hm', fX4_readLawLine N (v : Int) hc = some (hc', 1) ∧ fX10_readLaw N hm = some hm1 ∧ fX10_needs N 39 hm1 = some hm' ∧ v < 24 ∧ ∃ s' p', TYz L s' p' hc' hm' ∧ LLz hc' hm' ∧ TFc hc hc' ∧ TFm hm hm') ∨ (∃ hc' hm1 hm', fX4_readLawLine N (v : Int) hc = some (hc', 0) ∧ fX10_readLaw N hm = some hm1 ∧ fX10_needs N 39 hm1 = some hm' ∧ NOr hc hm hc' hm') := by
  have kb := T.kb
  have tk := tk_c (hm 0 10)
  have t39 : tkz 39 = 42 := rfl
  unfold fX4_readLawLine fX10_readLaw
  rw [bbs, T.tok, if_pos T.z12]
  unfold fX10_readLaw_16
  by_cases wk : 14 ≤ hm 0 10 ∧ hm 0 10 ≤ 21
  · rw [if_neg (show ¬ tkz (hm 0 10) < 14 by omega), if_pos (show tkz (hm 0 10) ≤ 21 by omega), wn_1 wk, c1s, if_neg n10, e14]
    by_cases e24 : (v : Int) = 24
    · obtain ⟨hc1, hm1, x1, x2, FT, F1, G1⟩ := fail_2 (N := N) (k := 4) T (by omega) (by omega)
      rw [if_pos e24, if_pos e24, x1, c2s, if_pos (Or.inl rfl), x2, c1s]
      unfold fX10_readLaw_53
      rw [if_neg FT.ne]
      exact Or.inr ⟨hc1, hm1, hm1, rfl, rfl, needs_F FT.ne, FT, TFc.of F1, TFm.of G1⟩
    · rw [if_neg e24, if_neg e24]
      unfold fX10_readLaw_53
      obtain ⟨hc1, hm1, x1, x2, s1, p1, T1, q1, F1, G1⟩ := nx_2 (N := N) hN T (by omega)
      have ek : tkz (hm 0 10) = hm 0 10 := by omega
      obtain ⟨j, hj⟩ : ∃ j : Nat, hm 0 10 = ((14 + j : Nat) : Int) := ⟨(hm 0 10 - 14).toNat, by omega⟩
      have j8 : j < 8 := by omega
      have xj : pv_w (((14 + j : Nat) : Int) - 14) = (j : Int) := by rw [pv_w_id (by omega) (by omega)]; omega
      rw [if_pos T.z12, x1, x2, c1s, c1s, ek, hj, if_pos (by omega), if_pos (by omega), tnc, xj, tnc]
      have tg : pv_t1.getD (14 + j) 0 = llo j ∧ pv_t2.getD (14 + j) 0 = lhi j := by
        rcases (show j = 0 ∨ j = 1 ∨ j = 2 ∨ j = 3 ∨ j = 4 ∨ j = 5 ∨ j = 6 ∨ j = 7 by omega) with u | u | u | u | u | u | u | u <;> rw [u] <;> exact ⟨rfl, rfl⟩
      have eM : (if ((14 + j : Nat) : Int) = 16 then fX10_readLaw_77 N ((14 + j : Nat) : Int) hm1 else if ((14 + j : Nat) : Int) = 17 then fX10_readLaw_77 N ((14 + j : Nat) : Int) hm1 else fX10_readLaw_82 N ((14 + j : Nat) : Int) 0 hm1) = fX10_readLaw_118 N ((14 + j : Nat) : Int) (llo j) (lhi j) hm1 := by
        unfold fX10_readLaw_77 fX10_readLaw_82
        rcases (show j = 0 ∨ j = 1 ∨ j = 2 ∨ j = 3 ∨ j = 4 ∨ j = 5 ∨ j = 6 ∨ j = 7 by omega) with u | u | u | u | u | u | u | u <;> rw [u] <;> rfl
      have lo0 : 0 ≤ llo j := by
        unfold llo
        by_cases u : j = 2 ∨ j = 3
        · rw [if_pos u]; omega
        · rw [if_neg u]; omega
      rw [eM, tg.1, tg.2]
      unfold fX10_readLaw_118
      rw [xj]
      rcases number_2 (N := N) (lo := llo j) (hi := lhi j) hN T1 with ⟨hc3, hm3, b, y1, y2, r0, r1, b0, _, lt3, s3, p3, T3, q3, F3, G3⟩ | ⟨hc3, hm3, r, y1, y2, FT, F3, G3⟩
      · rw [y1, y2, c2s, c2s, if_neg (show ¬ b = -1 by omega), if_pos (show 0 ≤ (j : Int) ∧ (j : Int) < 8 by omega), bbs, if_pos (show 0 ≤ (j : Int) ∧ (j : Int) < 417 by omega), bbs, tnc, ← t39]
        have T4 : TYz L s3 p3 (pv_up hc3 13 j b) (pv_up hm3 5 j b) := (T3.up5).frm (fun x y u => pv_up_ne (by omega)) (fun _ _ _ => rfl)
        have D4 : LLz (pv_up hc3 13 j b) (pv_up hm3 5 j b) := by
          intro i hi
          by_cases ei : i = j
          · subst ei
            rw [pv_up_self, pv_up_self]
            exact ⟨rfl, r0, r1⟩
          · rw [pv_up_ne (by omega), pv_up_ne (by omega), F3 _ _ (by unfold RCf; omega), F1 _ _ (by unfold RCf; omega), G3 _ _ (by unfold RMf; omega), G1 _ _ (by unfold RMf; omega)]
            exact D i hi
        have F4 : TFc hc (pv_up hc3 13 j b) := ((TFc.of F1).tr (TFc.of F3)).tr (fun x y np => pv_up_ne (by unfold TCf at np; omega))
        have G4 := ((TFm.of G1).tr (TFm.of G3)).up5 (k := j) (x := b)
        rcases expect_2 (N := N) (k := 39) hN T4 (by omega) with ⟨_, hc5, hm5, z1, z2, s5, p5, T5, q5, F5, G5⟩ | ⟨_, hc5, hm5, z1, z2, FT, F5, G5⟩
        · rw [z1, c2s, if_pos (Or.inr rfl)]
          exact Or.inl ⟨hc5, _, hm5, rfl, rfl, z2, by omega, s5, p5, T5, D4.frm (fun y => F5 _ _ (by unfold RCf; omega)) (fun y => G5 _ _ (by unfold RMf; omega)), F4.tr (TFc.of F5), G4.tr (TFm.of G5)⟩
        · rw [z1, c2s, if_pos (Or.inl rfl)]
          exact Or.inr ⟨hc5, _, hm5, rfl, rfl, z2, FT, F4.tr (TFc.of F5), G4.tr (TFm.of G5)⟩
      · rw [y1, y2, c2s, c2s, if_pos rfl, if_pos (show 0 ≤ (j : Int) ∧ (j : Int) < 417 by omega), bbs]
        exact Or.inr ⟨hc3, _, _, rfl, rfl, needs_F FT.up5.ne, FT.up5, (TFc.of F1).tr (TFc.of F3), ((TFm.of G1).tr (TFm.of G3)).up5⟩
  · obtain ⟨hc1, hm1, x1, x2, FT, F1, G1⟩ := fail_2 (N := N) (k := 2) T (by omega) (by omega)
    have e16 : fX4_readLawLine_17 N (v : Int) hc = some (hc1, 0) := by
      unfold fX4_readLawLine_17
      rw [x1, c2s, if_pos (Or.inl rfl)]
    rw [wn_0 wk, c1s, if_pos rfl, x2, c1s]
    unfold fX10_readLaw_53
    rw [if_neg FT.ne]
    refine Or.inr ⟨hc1, hm1, hm1, ?_, rfl, needs_F FT.ne, FT, TFc.of F1, TFm.of G1⟩
    by_cases q : tkz (hm 0 10) < 14
    · rw [if_pos q, e16]
    · rw [if_neg q, if_neg (by omega), e16]
theorem llines_l {a2 a3 : Int} (hN : 1000 ≤ N) : ∀ (d v f f' s p : Nat) (hc hm : pv_H), v + d = 24 → d < f → d + 1 < f' → TYz L s p hc hm → LLz hc hm → hm 0 14 = (v : Int) → (∃ (hc' hm' : pv_H) (u : Nat), fX4_readLaw_9 N f (v : Int) hc = some (hc', (u : Int)) ∧ fX10_text_140 N 2 a2 a3 f' hm = fX10_text_225 N 2 a2 a3 hm' ∧ LLz hc' hm' ∧ hc' 12 0 = (u : Int) ∧ OKe hc hm hc' hm' u) ∨ (∃ hc' hm', fX4_readLaw_9 N f (v : Int) hc = some (hc', 0) ∧ fX10_text_140 N 2 a2 a3 f' hm = fX10_text_225 N 2 a2 a3 hm' ∧ NOe hc hm hc' hm') := by
  have t45 : tkz 42 = 45 := rfl
  have fin : ∀ (v s p : Nat) (hc hm : pv_H), TYz L s p hc hm → LLz hc hm → hm 0 14 = (v : Int) → hm 0 10 = 42 → LLz (pv_up hc 12 0 (v : Int)) hm ∧ pv_up hc 12 0 (v : Int) 12 0 = (v : Int) ∧ OKe hc hm (pv_up hc 12 0 (v : Int)) hm v := by
    intro v s p hc hm T D e14 z
    have u := T.2.2.2.2.2.2.2.2.2.2.2.2.2.2.1 (by omega)
    exact ⟨D.frm (fun y => pv_up_ne (by omega)) (fun _ => rfl), pv_up_self _ _ _ _, T.z12, e14, by rw [pv_up_ne (by omega)]; exact u.1, by rw [pv_up_ne (by omega)]; exact u.2, fun x y np => pv_up_ne (by unfold TCf at np; omega), TFg.rf⟩
  intro d
  induction d with
  | zero =>
    intro v f f' s p hc hm h1 h2 h3 T R e14
    obtain ⟨f, rfl⟩ : ∃ g, f = g + 1 := ⟨f - 1, by omega⟩
    obtain ⟨f', rfl⟩ : ∃ g, f' = g + 1 := ⟨f' - 1, by omega⟩
    rw [fX4_readLaw_9, fX10_text_140, if_neg (by omega), T.tok, ← t45, if_pos T.z12]
    by_cases z : hm 0 10 = 42
    · rw [if_pos (tk_inj.mpr z), if_pos z, if_neg (by omega), bbs]
      exact Or.inl ⟨_, hm, v, rfl, rfl, fin v s p hc hm T R e14 z⟩
    · rw [if_neg (fun u => z (tk_inj.mp u)), if_neg z]
      unfold fX10_text_167 fX10_text_206
      rw [if_neg (by omega), if_neg (by omega), if_pos rfl]
      rcases lline_2 (N := N) hN (by omega) T R e14 with ⟨hc1, hm1, hm2, x1, x2, x3, lt, _⟩ | ⟨hc1, hm1, hm2, x1, x2, x3, FT, F1, G1⟩
      · omega
      · rw [x1, x2, c2s, c1s, if_pos rfl, x3, c1s, bbs]
        exact Or.inr ⟨hc1, _, rfl, t140_F FT.up14.ne (by omega), FT.up14, F1, G1.g.up14⟩
  | succ d ih =>
    intro v f f' s p hc hm h1 h2 h3 T R e14
    obtain ⟨f, rfl⟩ : ∃ g, f = g + 1 := ⟨f - 1, by omega⟩
    obtain ⟨f', rfl⟩ : ∃ g, f' = g + 1 := ⟨f' - 1, by omega⟩
    rw [fX4_readLaw_9, fX10_text_140, if_neg (by omega), T.tok, ← t45, if_pos T.z12]
    by_cases z : hm 0 10 = 42
    · rw [if_pos (tk_inj.mpr z), if_pos z, if_neg (by omega), bbs]
      exact Or.inl ⟨_, hm, v, rfl, rfl, fin v s p hc hm T R e14 z⟩
    · rw [if_neg (fun u => z (tk_inj.mp u)), if_neg z]
      unfold fX10_text_167 fX10_text_206
      rw [if_neg (by omega), if_neg (by omega), if_pos rfl]
      rcases lline_2 (N := N) hN (by omega) T R e14 with ⟨hc1, hm1, hm2, x1, x2, x3, lt, s2, p2, T2, R2, F2, G2⟩ | ⟨hc1, hm1, hm2, x1, x2, x3, FT, F1, G1⟩
      · have e14' : hm2 0 14 = (v : Int) := by rw [G2 _ _ (by unfold TMf RMf; omega)]; exact e14
        rw [x1, x2, c2s, c1s, if_neg n10, x3, c1s, bbs, bbs, e14', pws (by omega)]
        have R3 : LLz hc1 (pv_up hm2 0 14 ((v + 1 : Nat) : Int)) := R2.frm (fun _ => rfl) (fun y => pv_up_ne (by omega))
        have G3 := G2.g.up14 (x := ((v + 1 : Nat) : Int))
        rcases ih (v + 1) f f' s2 p2 hc1 _ (by omega) (by omega) (by omega) T2.up14 R3 (pv_up_self _ _ _ _) with ⟨hc', hm', u, y1, y2, y5, y55, y6, y7, y8, y9, y10, y11⟩ | ⟨hc', hm', y1, y2, y3, y4, y5⟩
        · exact Or.inl ⟨hc', hm', u, y1, y2, y5, y55, y6, y7, y8, y9, F2.tr y10, G3.tr y11⟩
        · exact Or.inr ⟨hc', hm', y1, y2, y3, F2.tr y4, G3.tr y5⟩
      · rw [x1, x2, c2s, c1s, if_pos rfl, x3, c1s, bbs]
        exact Or.inr ⟨hc1, _, rfl, t140_F FT.up14.ne (by omega), FT.up14, F1, G1.g.up14⟩
theorem law_2 {a2 a3 : Int} (hN : 1000 ≤ N) (T : TYz L s p hc hm) (e14 : hm 0 14 = 0) (pl : ∀ j, j < 8 → hm 5 j = pv_t0.getD j 0) : (∃ (hc' hm' : pv_H) (u : Nat), fX4_readLaw N hc = some (hc', (u : Int)) ∧ fX10_text_140 N 2 a2 a3 N hm = fX10_text_225 N 2 a2 a3 hm' ∧ LLz hc' hm' ∧ hc' 12 0 = (u : Int) ∧ OKe hc hm hc' hm' u) ∨ (∃ hc' hm', fX4_readLaw N hc = some (hc', 0) ∧ fX10_text_140 N 2 a2 a3 N hm = fX10_text_225 N 2 a2 a3 hm' ∧ NOe hc hm hc' hm') := by
  have eb : ∃ hc1, fX2_begin N 12 hc = some hc1 ∧ (∀ x y, ¬ (x = 12 ∨ x = 13) → hc1 x y = hc x y) ∧ ∀ j, j < 8 → hc1 13 j = pv_t0.getD j 0 := by
    unfold fX2_begin
    rw [bbs, bbs]
    refine ⟨_, rfl, fun x y np => ?_, fun j hj => ?_⟩
    · rw [pr_ne (by omega), pv_up_ne (by omega)]
    · rw [pr_if, if_pos rfl]
      exact cp_lt hj
  obtain ⟨hc1, x1, f1, v1⟩ := eb
  have T1 : TYz L s p hc1 hm := T.frm (fun x y u => f1 x y (by omega)) (fun _ _ _ => rfl)
  have F1 : TFc hc hc1 := fun x y np => f1 x y (by unfold TCf at np; omega)
  have D : LLz hc1 hm := by
    intro j hj
    rw [v1 j hj, pl j hj]
    rcases (show j = 0 ∨ j = 1 ∨ j = 2 ∨ j = 3 ∨ j = 4 ∨ j = 5 ∨ j = 6 ∨ j = 7 by omega) with u | u | u | u | u | u | u | u <;> rw [u] <;> decide
  unfold fX4_readLaw
  rw [x1, c1s]
  rcases llines_l (N := N) (a2 := a2) (a3 := a3) hN 24 0 N N s p hc1 hm (by omega) (by omega) (by omega) T1 D e14 with ⟨hc', hm', u, y1, y2, y5, y55, y6, y7, y8, y9, y10, y11⟩ | ⟨hc', hm', y1, y2, y3, y4, y5⟩
  · exact Or.inl ⟨hc', hm', u, y1, y2, y5, y55, y6, y7, y8, y9, F1.tr y10, y11⟩
  · exact Or.inr ⟨hc', hm', y1, y2, y3, F1.tr y4, y5⟩
end LAWTEXT
