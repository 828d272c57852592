/-! calls that run: turned, paced, odds, ends, never -/
theorem n10 : ¬ (1 : Int) = 0 := by decide
theorem brk_R {hc hm : pv_H} (S : SSz hc hm) {a b : Nat} {seed : Int} (hr : rodOk hm (a : Int)) (hb : b < 4) : ∃ (hc' hm' : pv_H) (np n : Nat), fX1_breakRod pv_NN (35 + 6 * a) (59 + 4 * b) 23 seed hc = some (hc', (np : Int)) ∧ fX10_piecesOf pv_NN (a : Int) (b : Int) seed 1 (-1) hm = some (hm', (np : Int)) ∧ SSz hc' hm' ∧ rodOk hm' (a : Int) ∧ RESz n np hc' hm' ∧ 3 ≤ n ∧ n ≤ 60 ∧ hm 2 (242 * a) = (n : Int) ∧ hm' 2 (242 * a) = (n : Int) ∧ frz PCz hc hc' ∧ frz PMz hm hm' := by
  obtain ⟨h1, h2, hc', hm', np, n, e1, e2, e3, e4, s, R, en, n3, n60, _, _, _, en', F, G⟩ := pcs_2 S (seed := seed) (p := 1) (t := -1) hr hb (by omega) (by omega) (Or.inl rfl)
  refine ⟨hc', hm', np, n, ?_, e4, s, ⟨hr.1, hr.2.1, ?_⟩, R, n3, n60, en, en', F, G⟩
  · unfold fX1_breakRod
    rw [e1, c1s, e2, c1s, e3, c2s]
  · rw [tnc, en']; omega
theorem RESz.np60 {n np : Nat} {hc hm : pv_H} (R : RESz n np hc hm) (h : n ≤ 60) : 1 ≤ np ∧ np ≤ 60 := by
  obtain ⟨_, _, _, _, _, a, b, _⟩ := R
  omega
theorem s_paced : sm_paced SSz := by
  intro hc hm S a1 a2 a3 a4 _ _ _ _
  refine two_th S fun hm S => ?_
  unfold fX9_paced
  by_cases hr : rodOk hm a1
  · obtain ⟨a, rfl⟩ := Int.eq_ofNat_of_zero_le hr.1
    have ha := hr.2.1
    have hA : 0 ≤ (a : Int) ∧ (a : Int) < 4 := ⟨by omega, ha⟩
    rw [hasRod_1 S hr, c1s, if_neg n10]
    by_cases hd : 0 ≤ a2 ∧ a2 < 4
    · obtain ⟨b, rfl⟩ := Int.eq_ofNat_of_zero_le hd.1
      rw [hasDo_1 hd, c1s, if_neg n10, isBoth_1 hr hd, c1s, if_neg n10]
      by_cases hp : 1 ≤ a4 ∧ a4 ≤ 9
      · obtain ⟨h1, h2, hc', hm', np, n, e1, e2, e3, e4, s, R, _⟩ := pcs_2 S (seed := a3) (p := a4) (t := -1) hr (show b < 4 by omega) hp.1 hp.2 (Or.inl rfl)
        rw [pace_1 hp, c1s, if_neg n10, wn_1 hp, c1s, if_neg n10, if_pos hA, tnc, bbs, e1, c1s, if_pos hd, tnc, bbs, e2, c1s, e3, c2s, e4, c2s]
        exact wend rfl s
      · rw [pace_0 hp, c1s, if_pos rfl, wn_0 hp, c1s, if_pos rfl]
        exact no3 S
    · unfold fX9_paced_15
      rw [hasDo_0 hd, c1s, if_pos rfl, isBoth_0 (fun z => hd z.2), c1s, if_pos rfl]
      exact no2 S
  · unfold fX9_paced_15
    rw [hasRod_0 S hr, c1s, if_pos rfl, isBoth_0 (fun z => hr z.1), c1s, if_pos rfl]
    exact no2 S
theorem s_turned : sm_turned SSz := by
  intro hc hm S a1 a2 a3 a4 _ _ _ _
  refine two_th S fun hm S => ?_
  unfold fX9_turned
  by_cases hr : rodOk hm a1
  · obtain ⟨a, rfl⟩ := Int.eq_ofNat_of_zero_le hr.1
    have ha := hr.2.1
    have hA : 0 ≤ (a : Int) ∧ (a : Int) < 4 := ⟨by omega, ha⟩
    rw [hasRod_1 S hr, c1s, if_neg n10]
    by_cases hd : 0 ≤ a2 ∧ a2 < 4
    · obtain ⟨b, rfl⟩ := Int.eq_ofNat_of_zero_le hd.1
      rw [hasDo_1 hd, c1s, if_neg n10, isBoth_1 hr hd, c1s, if_neg n10]
      unfold fX9_turned_35
      by_cases hp : 0 ≤ a4 ∧ a4 ≤ 999
      · obtain ⟨h1, h2, hc', hm', np, n, e1, e2, e3, e4, s, R, _⟩ := pcs_2 S (seed := a3) (p := 1) (t := a4) hr (show b < 4 by omega) (by omega) (by omega) (Or.inr hp)
        rw [if_neg (show ¬ a4 < 0 by omega), if_pos hp.2, wn_1 hp, c1s, if_neg n10, if_pos hA, tnc, bbs, e1, c1s, if_pos hd, tnc, bbs, e2, c1s, e3, c2s, e4, c2s]
        exact wend rfl s
      · rw [wn_0 hp, c1s, if_pos rfl]
        by_cases z : a4 < 0
        · rw [if_pos z]; exact no3 S
        · rw [if_neg z, if_neg (show ¬ a4 ≤ 999 by omega)]; exact no3 S
    · unfold fX9_turned_15
      rw [hasDo_0 hd, c1s, if_pos rfl, isBoth_0 (fun z => hd z.2), c1s, if_pos rfl]
      exact no2 S
  · unfold fX9_turned_15
    rw [hasRod_0 S hr, c1s, if_pos rfl, isBoth_0 (fun z => hr z.1), c1s, if_pos rfl]
    exact no2 S
theorem odds_l {a b m q : Nat} (hb : b < 4) (hm : m ≤ 100) (hq : 1 ≤ q ∧ q ≤ 4) : ∀ (f s v : Nat) (hc hm : pv_H), SSz hc hm → rodOk hm (a : Int) → m + 1 < s + f → v ≤ s → 0 < f → s ≤ m + 1 → wpz (fX9_odds_53 pv_NN (a : Int) (b : Int) (q : Int) (m : Int) f (v : Int) (s : Int) hc) fun c => wpz (fX10_odds_59 pv_NN (a : Int) (b : Int) (q : Int) (m : Int) f (v : Int) (s : Int) hm) fun m => c.2 = m.2 ∧ SSz c.1 m.1 := by
  intro f
  induction f with
  | zero => intro s v hc hm S hr h1 h2 h3; omega
  | succ f ih =>
    intro s v hc hm S hr h1 h2 h3 h4
    have ha := hr.2.1
    have hA : 0 ≤ (a : Int) ∧ (a : Int) < 4 := ⟨by omega, ha⟩
    have hB : 0 ≤ (b : Int) ∧ (b : Int) < 4 := ⟨by omega, by omega⟩
    rw [fX9_odds_53, fX10_odds_59]
    by_cases z : m < s
    · rw [if_pos (by omega), if_pos (by omega)]
      exact wend rfl S
    · obtain ⟨hc', hm', np, n, e1, e2, S', hr', R, n3, n60, _⟩ := brk_R S (b := b) (seed := (s : Int)) hr hb
      rw [if_neg (show ¬ (m : Int) < (s : Int) by omega), if_neg (show ¬ (m : Int) < (s : Int) by omega), if_pos hA, tnc, bbs, if_pos hB, tnc, bbs, e1, c2s, e2, c2s]
      unfold fX9_odds_109 fX10_odds_97 fX10_odds_101 fX10_odds_102
      rw [pws (show s < 2000000000 by omega), pws (show v < 2000000000 by omega), pv_w_id (x := (v : Int) + 0) (by omega) (by omega), Int.add_zero]
      simp only [bbs]
      have y1 := ih (s + 1) (v + 1) hc' hm' S' hr' (by omega) (by omega) (by omega) (by omega)
      have y0 := ih (s + 1) v hc' hm' S' hr' (by omega) (by omega) (by omega) (by omega)
      by_cases c : min (np : Int) 4 = (q : Int)
      · rw [if_pos c]
        by_cases c2 : (np : Int) = (q : Int)
        · rw [if_pos c2]; exact y1
        · rw [if_neg c2, if_pos (show (q : Int) = 4 by omega), if_neg (show ¬ (np : Int) ≤ 4 by omega)]; exact y1
      · rw [if_neg c, if_neg (show ¬ (np : Int) = (q : Int) by omega)]
        by_cases c3 : (q : Int) = 4
        · rw [if_pos c3, if_pos (show (np : Int) ≤ 4 by omega)]; exact y0
        · rw [if_neg c3]; exact y0
theorem s_odds : sm_odds SSz := by
  intro hc hm S a1 a2 a3 a4 _ _ _ _
  refine two_th S fun hm S => ?_
  unfold fX9_odds
  by_cases hr : rodOk hm a1
  · obtain ⟨a, rfl⟩ := Int.eq_ofNat_of_zero_le hr.1
    have ha := hr.2.1
    have hA : 0 ≤ (a : Int) ∧ (a : Int) < 4 := ⟨by omega, ha⟩
    rw [hasRod_1 S hr, c1s, if_neg n10]
    by_cases hd : 0 ≤ a2 ∧ a2 < 4
    · obtain ⟨b, rfl⟩ := Int.eq_ofNat_of_zero_le hd.1
      rw [hasDo_1 hd, c1s, if_neg n10, isBoth_1 hr hd, c1s, if_neg n10]
      unfold fX9_odds_40 fX10_odds_46
      by_cases hq : 1 ≤ a3 ∧ a3 ≤ 4
      · rw [wn_1 hq, c1s, if_neg n10, if_neg (show ¬ a3 < 1 by omega), if_neg (show ¬ 4 < a3 by omega)]
        by_cases hp : 1 ≤ a4 ∧ a4 ≤ 100
        · obtain ⟨q, rfl⟩ := Int.eq_ofNat_of_zero_le (show 0 ≤ a3 by omega)
          obtain ⟨m, rfl⟩ := Int.eq_ofNat_of_zero_le (show 0 ≤ a4 by omega)
          rw [seeds_1 hp, c1s, if_neg n10, wn_1 hp, c1s, if_neg n10]
          exact odds_l (by omega) (by omega) (by omega) pv_NN 1 0 hc hm S hr (by unfold pv_NN; omega) (by omega) (by decide) (by omega)
        · rw [seeds_0 hp, c1s, if_pos rfl, wn_0 hp, c1s, if_pos rfl]
          exact no3 S
      · rw [wn_0 hq, c1s, if_pos rfl]
        by_cases z : a3 < 1
        · rw [if_pos z]; exact no3 S
        · rw [if_neg z, if_pos (show 4 < a3 by omega)]; exact no3 S
    · unfold fX9_odds_15
      rw [hasDo_0 hd, c1s, if_pos rfl, isBoth_0 (fun z => hd z.2), c1s, if_pos rfl]
      exact no2 S
  · unfold fX9_odds_15
    rw [hasRod_0 S hr, c1s, if_pos rfl, isBoth_0 (fun z => hr z.1), c1s, if_pos rfl]
    exact no2 S
/-- where a CELL broke in a run -/
theorem brkAt_R {n np : Nat} {hc hm : pv_H} (R : RESz n np hc hm) (h60 : n ≤ 60) {i : Nat} (hi : i < n) : ∃ z : Int, fX7_breakAt pv_NN 79 (i : Int) hc = some z ∧ (z = -1 ↔ hm 17 i = 0) ∧ (z = 0 ↔ 0 < hm 0 38 ∧ hm 20 0 = (i : Int)) := by
  obtain ⟨nb, nw, ng, ⟨b1, b2, b3, b4, b5, b6⟩, _⟩ := R
  have nb60 : nb ≤ 60 := by have := sumz_b (f := hm 17) n (fun k hk => (b4 k hk).2); omega
  -- the first place that holds it
  have ex : ∀ B : Nat, ∃ z, z ≤ B ∧ (∀ k, k < z → hc 81 k ≠ (i : Int)) ∧ (z = B ∨ ¬ hc 81 z ≠ (i : Int)) := fun B => by
    induction B with
    | zero => exact ⟨0, by omega, fun k hk => by omega, Or.inl rfl⟩
    | succ B ih =>
      obtain ⟨z, z1, z2, z3⟩ := ih
      rcases z3 with z3 | z3
      · by_cases e : hc 81 z = (i : Int)
        · exact ⟨z, by omega, z2, Or.inr (fun q => q e)⟩
        · refine ⟨B + 1, by omega, fun k hk => ?_, Or.inl rfl⟩
          by_cases y : k = z
          · subst y; exact e
          · exact z2 k (by omega)
      · exact ⟨z, by omega, z2, Or.inr z3⟩
  obtain ⟨z, z1, z2, z3⟩ := ex nb
  have q := brkAt_C (N := pv_NN) (h := hc) (this := 79) (c := (i : Int)) (z := z) (B := nb) b1 nb60 z1 z2 z3 pv_NN 0 (by omega) (by unfold pv_NN; omega)
  refine ⟨_, q, ?_, ?_⟩
  · by_cases e : z = nb
    · rw [if_pos e]
      refine ⟨fun _ => ?_, fun _ => rfl⟩
      rcases (b4 i hi).2 with y | y
      · exact y
      · obtain ⟨k, k1, k2⟩ := b6 i hi y
        exact absurd (by rw [(b5 k k1).1]; exact k2) (z2 k (by omega))
    · rw [if_neg e]
      refine ⟨fun y => by omega, fun y => ?_⟩
      rcases z3 with z3 | z3
      · exact absurd z3 e
      · exfalso
        apply z3
        intro w
        obtain ⟨c1, _, _, _, c, c5, c6, c7⟩ := b5 z (by omega)
        rw [c1, c6] at w
        have : c = i := by omega
        subst this
        omega
  · by_cases e : z = nb
    · rw [if_pos e]
      refine ⟨fun y => by omega, fun y => ?_⟩
      obtain ⟨y1, y2⟩ := y
      have : 0 < nb := by omega
      exact absurd (by rw [(b5 0 this).1]; exact y2) (z2 0 (by omega))
    · rw [if_neg e]
      constructor
      · intro y
        have z0 : z = 0 := by omega
        subst z0
        have nb0 : 0 < nb := by omega
        refine ⟨by omega, ?_⟩
        rcases z3 with z3 | z3
        · omega
        · have := (b5 0 nb0).1
          by_cases w : hc 81 0 = (i : Int)
          · rw [← this]; exact w
          · exact absurd w z3
      · rintro ⟨y1, y2⟩
        have nb0 : 0 < nb := by omega
        by_cases w : z = 0
        · rw [w]; rfl
        · exact absurd (by rw [(b5 0 nb0).1]; exact y2) (z2 0 (by omega))
theorem ends_l {a b m n0 i : Nat} (hb : b < 4) (hm : m ≤ 100) (hi : i < n0) : ∀ (f s v : Nat) (hc hm : pv_H), SSz hc hm → rodOk hm (a : Int) → hm 2 (242 * a) = (n0 : Int) → m + 1 < s + f → v ≤ s → 0 < f → s ≤ m + 1 → wpz (fX9_ends_44 pv_NN (a : Int) (b : Int) (i : Int) (m : Int) f (v : Int) (s : Int) hc) fun c => wpz (fX10_ends_56 pv_NN (a : Int) (b : Int) (i : Int) (m : Int) f (v : Int) (s : Int) hm) fun m => c.2 = m.2 ∧ SSz c.1 m.1 := by
  intro f
  induction f with
  | zero => intro s v hc hm S hr e h1 h2 h3; omega
  | succ f ih =>
    intro s v hc hm S hr e h1 h2 h3 h4
    have ha := hr.2.1
    have hA : 0 ≤ (a : Int) ∧ (a : Int) < 4 := ⟨by omega, ha⟩
    have hB : 0 ≤ (b : Int) ∧ (b : Int) < 4 := ⟨by omega, by omega⟩
    rw [fX9_ends_44, fX10_ends_56]
    by_cases z : m < s
    · rw [if_pos (by omega), if_pos (by omega)]
      exact wend rfl S
    · obtain ⟨hc', hm', np, n, e1, e2, S', hr', R, n3, n60, en, en', _⟩ := brk_R S (b := b) (seed := (s : Int)) hr hb
      have nn : n = n0 := by omega
      subst nn
      obtain ⟨z, q1, q2, _⟩ := brkAt_R R n60 hi
      rw [if_neg (show ¬ (m : Int) < (s : Int) by omega), if_neg (show ¬ (m : Int) < (s : Int) by omega), if_pos hA, tnc, bbs, if_pos hB, tnc, bbs, e1, c2s, e2, c2s, q1, c1s, if_pos (show 0 ≤ (i : Int) ∧ (i : Int) < 60 by omega), tnc]
      unfold fX9_ends_104 fX10_ends_90
      rw [pws (show s < 2000000000 by omega), pws (show v < 2000000000 by omega), pv_w_id (x := (v : Int) + 0) (by omega) (by omega), Int.add_zero]
      simp only [bbs]
      have y1 := ih (s + 1) (v + 1) hc' hm' S' hr' en' (by omega) (by omega) (by omega) (by omega)
      have y0 := ih (s + 1) v hc' hm' S' hr' en' (by omega) (by omega) (by omega) (by omega)
      by_cases c : z = -1
      · rw [if_pos c, if_pos (q2.mp c)]; exact y0
      · rw [if_neg c, if_neg (fun y => c (q2.mpr y))]; exact y1
theorem s_ends : sm_ends SSz := by
  intro hc hm S a1 a2 a3 a4 _ _ _ _
  refine two_th S fun hm S => ?_
  unfold fX9_ends fX9_ends_16 fX10_ends_23
  by_cases hr : rodOk hm a1
  · obtain ⟨a, rfl⟩ := Int.eq_ofNat_of_zero_le hr.1
    have ha := hr.2.1
    have hA : 0 ≤ (a : Int) ∧ (a : Int) < 4 := ⟨by omega, ha⟩
    have r60 := S.r60 hr
    by_cases hd : 0 ≤ a2 ∧ a2 < 4
    · obtain ⟨b, rfl⟩ := Int.eq_ofNat_of_zero_le hd.1
      rw [isBoth_1 hr hd, c1s, if_neg n10]
      by_cases hce : cellOk hm (a : Int) a3
      · rw [hasCell_1 S hce, c1s, if_neg n10, hasDo_1 hd, c1s, if_neg n10, isCell_1 hce r60.2, c1s, if_neg n10]
        by_cases hp : 1 ≤ a4 ∧ a4 ≤ 100
        · obtain ⟨_, q1, q2⟩ := hce
          obtain ⟨i, rfl⟩ := Int.eq_ofNat_of_zero_le q1
          obtain ⟨m, rfl⟩ := Int.eq_ofNat_of_zero_le (show 0 ≤ a4 by omega)
          rw [tnc] at r60 q2
          obtain ⟨n0, hn0⟩ := Int.eq_ofNat_of_zero_le (show 0 ≤ hm 2 (242 * a) by omega)
          rw [seeds_1 hp, c1s, if_neg n10, wn_1 hp, c1s, if_neg n10]
          exact ends_l (n0 := n0) (by omega) (by omega) (by omega) pv_NN 1 0 hc hm S hr hn0 (by unfold pv_NN; omega) (by omega) (by decide) (by omega)
        · rw [seeds_0 hp, c1s, if_pos rfl, wn_0 hp, c1s, if_pos rfl]
          exact no3 S
      · rw [hasCell_0 S hce, c1s, if_pos rfl, isCell_0 hr hce r60.2, c1s, if_pos rfl]
        exact no2 S
    · rw [isBoth_0 (fun z => hd z.2), c1s, if_pos rfl]
      by_cases hce : cellOk hm (a : Int) a3
      · rw [hasCell_1 S hce, c1s, if_neg n10, hasDo_0 hd, c1s, if_pos rfl]
        exact no2 S
      · rw [hasCell_0 S hce, c1s, if_pos rfl]
        exact no2 S
  · rw [hasCell_0 S (fun z => hr z.1), c1s, if_pos rfl, isBoth_0 (fun z => hr z.1), c1s, if_pos rfl]
    exact no2 S
