/-! calls that run: never, middle -/
theorem or_0 : ∀ v : Nat, v < 16 → pv_or (v : Int) 0 = (v : Int) := by decide +kernel
theorem or_k : ∀ v : Nat, v < 16 → ∀ k : Nat, k < 4 → ∃ w : Nat, w < 16 ∧ pv_or (v : Int) (pv_shl 1 (k : Int)) = (w : Int) := by decide +kernel
theorem never_in {a b m v : Nat} {k43 : Int → Int → pv_H → Option (pv_H × Int)} (hb : b < 4) (hm : m ≤ 100) : ∀ (f f' s : Nat) (hc hm : pv_H), SSz hc hm → rodOk hm (a : Int) → m + 1 < s + f → m + 2 < s + f' → s ≤ m + 1 → ∃ (hc' hm' : pv_H) (r : Int), fX9_neverThree_3 pv_NN (a : Int) (b : Int) (m : Int) f (s : Int) hc = some (hc', r) ∧ fX10_never_60 pv_NN k43 (b : Int) (m : Int) f' (v : Int) (a : Int) 1 (s : Int) hm = fX10_never_99 pv_NN k43 (b : Int) (m : Int) (v : Int) (a : Int) r hm' ∧ SSz hc' hm' ∧ (r = 0 ∨ r = 1) := by
  intro f
  induction f with
  | zero => intro f' s hc hm S hr h1 h2; omega
  | succ f ih =>
    intro f' s hc hm S hr h1 h2 h3
    obtain ⟨f', rfl⟩ : ∃ g, f' = g + 1 := ⟨f' - 1, by omega⟩
    have ha := hr.2.1
    have hA : 0 ≤ (a : Int) ∧ (a : Int) < 4 := ⟨by omega, ha⟩
    have hB : 0 ≤ (b : Int) ∧ (b : Int) < 4 := ⟨by omega, by omega⟩
    rw [fX9_neverThree_3, fX10_never_60]
    by_cases z : m < s
    · rw [if_pos (by omega), if_pos (by omega)]
      exact ⟨hc, hm, 1, rfl, rfl, S, Or.inr rfl⟩
    · obtain ⟨hc', hm', np, n, e1, e2, S', hr', R, n3, n60, _⟩ := brk_R S (b := b) (seed := (s : Int)) hr hb
      rw [if_neg (show ¬ (m : Int) < (s : Int) by omega), if_neg (show ¬ (m : Int) < (s : Int) by omega), if_pos hA, tnc, bbs, if_pos hB, tnc, bbs, e1, c2s, if_neg n10, e2, c2s]
      by_cases c : np < 3
      · rw [if_pos (show (np : Int) < 3 by omega), if_neg (show ¬ 3 ≤ (np : Int) by omega)]
        unfold fX10_never_91
        rw [bbs, bbs, pws (by omega)]
        exact ih f' (s + 1) hc' hm' S' hr' (by omega) (by omega) (by omega)
      · rw [if_neg (show ¬ (np : Int) < 3 by omega), if_pos (show 3 ≤ (np : Int) by omega)]
        unfold fX10_never_91
        obtain ⟨f', rfl⟩ : ∃ g, f' = g + 1 := ⟨f' - 1, by omega⟩
        rw [bbs, pws (by omega)]
        have hz : fX10_never_60 pv_NN k43 (b : Int) (m : Int) (f' + 1) (v : Int) (a : Int) 0 ((s + 1 : Nat) : Int) hm' = fX10_never_99 pv_NN k43 (b : Int) (m : Int) (v : Int) (a : Int) 0 hm' := by
          rw [fX10_never_60]
          by_cases y : (m : Int) < ((s + 1 : Nat) : Int)
          · rw [if_pos y]
          · rw [if_neg y, if_pos rfl]
        exact ⟨hc', hm', 0, rfl, hz, S', Or.inl rfl⟩
theorem never_out {b m : Nat} (hb : b < 4) (hm : m ≤ 100) (hm1 : 1 ≤ m) : ∀ (f k v : Nat) (hc hm' : pv_H), SSz hc hm' → 4 < k + f → k ≤ 4 → v < 16 → wpz (fX9_never_33 pv_NN (b : Int) (m : Int) f (v : Int) (k : Int) hc) fun c => wpz (fX10_never_43 pv_NN (b : Int) (m : Int) f (v : Int) (k : Int) hm') fun m => c.2 = m.2 ∧ SSz c.1 m.1 := by
  intro f
  induction f with
  | zero => intro k v hc hm' S h1 h2; omega
  | succ f ih =>
    intro k v hc hm' S h1 h2 h3
    rw [fX9_never_33, fX10_never_43]
    by_cases z : k = 4
    · subst z
      rw [if_pos (by omega), if_pos (by omega)]
      exact wend rfl S
    · rw [if_neg (show ¬ (4 : Int) ≤ (k : Int) by omega), if_neg (show ¬ (4 : Int) ≤ (k : Int) by omega)]
      have o0 := or_0 v h3
      by_cases hr : rodOk hm' (k : Int)
      · obtain ⟨hc', hm2, r, e1, e2, S', r01⟩ := never_in (a := k) (b := b) (m := m) (v := v) (k43 := fun v3_ v4_ hh => fX10_never_43 pv_NN (b : Int) (m : Int) f v3_ v4_ hh) hb hm pv_NN pv_NN 1 hc hm' S hr (by unfold pv_NN; omega) (by unfold pv_NN; omega) (by omega)
        have e1 : fX9_neverThree pv_NN (k : Int) (b : Int) (m : Int) hc = some (hc', r) := e1
        have e2 : fX10_never_60 pv_NN (fun v3_ v4_ hh => fX10_never_43 pv_NN (b : Int) (m : Int) f v3_ v4_ hh) (b : Int) (m : Int) pv_NN (v : Int) (k : Int) 1 1 hm' = _ := e2
        rw [hasRod_1 S hr, c1s, if_neg n10, e1, c2s, isRod_1 hr, c1s, e2]
        unfold fX9_never_66 fX10_never_99 fX10_never_113
        rcases r01 with rfl | rfl
        · rw [if_pos rfl, if_pos rfl, bbs, bbs, bbs, pws (by omega), o0]
          exact ih (k + 1) v hc' _ S' (by omega) (by omega) h3
        · obtain ⟨w, w1, w2⟩ := or_k v h3 k (by omega)
          rw [if_neg n10, if_neg n10, bbs, bbs, bbs, bbs, pws (by omega), w2]
          exact ih (k + 1) w hc' _ S' (by omega) (by omega) w1
      · obtain ⟨N', hN'⟩ : ∃ N', pv_NN = N' + 1 := ⟨19999, rfl⟩
        have e2 : fX10_never_60 pv_NN (fun v3_ v4_ hh => fX10_never_43 pv_NN (b : Int) (m : Int) f v3_ v4_ hh) (b : Int) (m : Int) pv_NN (v : Int) (k : Int) 0 1 hm' = fX10_never_99 pv_NN (fun v3_ v4_ hh => fX10_never_43 pv_NN (b : Int) (m : Int) f v3_ v4_ hh) (b : Int) (m : Int) (v : Int) (k : Int) 0 hm' := by
          have key : ∀ M : Nat, fX10_never_60 pv_NN (fun v3_ v4_ hh => fX10_never_43 pv_NN (b : Int) (m : Int) f v3_ v4_ hh) (b : Int) (m : Int) (M + 1) (v : Int) (k : Int) 0 1 hm' = fX10_never_99 pv_NN (fun v3_ v4_ hh => fX10_never_43 pv_NN (b : Int) (m : Int) f v3_ v4_ hh) (b : Int) (m : Int) (v : Int) (k : Int) 0 hm' := by
            intro M
            rw [fX10_never_60, if_neg (show ¬ (m : Int) < 1 by omega), if_pos rfl]
          exact key 19999
        rw [hasRod_0 S hr, c1s, if_pos rfl, isRod_0 hr, c1s, e2]
        unfold fX9_never_66 fX10_never_99 fX10_never_113
        rw [if_pos rfl, bbs, bbs, bbs, pws (by omega), o0]
        exact ih (k + 1) v hc _ S (by omega) (by omega) h3
theorem s_never : sm_never SSz := by
  intro hc hm S a1 a2 _ _
  refine two_th S fun hm S => ?_
  unfold fX9_never
  by_cases hd : 0 ≤ a1 ∧ a1 < 4
  · obtain ⟨b, rfl⟩ := Int.eq_ofNat_of_zero_le hd.1
    rw [hasDo_1 hd, c1s, if_neg n10, isDo_1 hd, c1s, if_neg n10]
    by_cases hp : 1 ≤ a2 ∧ a2 ≤ 100
    · obtain ⟨m, rfl⟩ := Int.eq_ofNat_of_zero_le (show 0 ≤ a2 by omega)
      rw [seeds_1 hp, c1s, if_neg n10, wn_1 hp, c1s, if_neg n10]
      exact never_out (by omega) (by omega) (by omega) pv_NN 0 0 hc hm S (by unfold pv_NN; omega) (by omega) (by omega)
    · rw [seeds_0 hp, c1s, if_pos rfl, wn_0 hp, c1s, if_pos rfl]
      exact no3 S
  · rw [hasDo_0 hd, c1s, if_pos rfl, isDo_0 hd, c1s, if_pos rfl]
    exact no2 S
/-- the PIECES within a run -/
theorem mid_in {np : Nat} {k62 : Int → Int → Int → Int → Int → pv_H → Option (pv_H × Int)} {k68 : Int → Int → Int → Int → Int → pv_H → Option (pv_H × Int)} {b1 b2 b3 b4 s v5 v6 : Int} {hc hm : pv_H} (hnp : np ≤ 60) (e42 : hm 0 42 = (np : Int)) (P : ∀ k, k < np → hc 83 k = hm 24 k ∧ 1 ≤ hm 24 k ∧ hm 24 k ≤ 60) (s0 : 0 ≤ s) (s1 : s ≤ 1000) (h6 : 0 ≤ v6) (h7 : v6 ≤ 100000) : ∀ (f f' i : Nat) (v7 v8 : Int), 1 ≤ i → np < i + f → np < i + f' → i ≤ np → -1 ≤ v7 → v7 ≤ 60 → -1 ≤ v8 → v8 ≤ 60 → (i + 1 ≤ np ∨ i = np) → ∃ w7 w8 : Int, -1 ≤ w7 ∧ w7 ≤ 60 ∧ -1 ≤ w8 ∧ w8 ≤ 60 ∧ fX9_middle_125 pv_NN k62 b1 b2 b3 b4 f v5 v6 v7 v8 s (np : Int) (i : Int) hc = k62 v5 v6 w7 w8 (s + 1) hc ∧ ∀ u : Int, 0 ≤ u → u + np ≤ 100000 + i → fX10_middle_97 pv_NN k68 b1 b2 b3 b4 f' v5 u v7 v8 s (i : Int) hm = k68 v5 (u + (if i + 1 ≤ np then ((np - 1 - i : Nat) : Int) else 0)) w7 w8 (s + 1) hm := by
  intro f
  induction f with
  | zero => intro f' i v7 v8 h1 h2; omega
  | succ f ih =>
    intro f' i v7 v8 h1 h2 h3 h4 q1 q2 q3 q4 h5
    obtain ⟨f', rfl⟩ : ∃ g, f' = g + 1 := ⟨f' - 1, by omega⟩
    have en : pv_w ((np : Int) - 1) = (np : Int) - 1 := pv_w_id (by omega) (by omega)
    by_cases z : np - 1 ≤ i
    · refine ⟨v7, v8, q1, q2, q3, q4, ?_, fun u u1 u2 => ?_⟩
      · rw [fX9_middle_125, en, if_pos (by omega), bbs, pv_w_id (by omega) (by omega)]
      · rw [fX10_middle_97, e42, en, if_pos (by omega)]
        unfold fX10_middle_175
        rw [bbs, pv_w_id (by omega) (by omega)]
        have : (if i + 1 ≤ np then ((np - 1 - i : Nat) : Int) else 0) = 0 := by
          by_cases y : i + 1 ≤ np
          · rw [if_pos y]; omega
          · rw [if_neg y]
        rw [this, Int.add_zero]
    · obtain ⟨p1, p2, p3⟩ := P i (by omega)
      -- the new least and the new greatest
      obtain ⟨w7, hw7⟩ : ∃ w7 : Int, w7 = if v7 = -1 then hm 24 i else min v7 (hm 24 i) := ⟨_, rfl⟩
      obtain ⟨w8, hw8⟩ : ∃ w8 : Int, w8 = max v8 (hm 24 i) := ⟨_, rfl⟩
      have b7 : -1 ≤ w7 ∧ w7 ≤ 60 := by
        rw [hw7]
        by_cases y : v7 = -1
        · rw [if_pos y]; omega
        · rw [if_neg y]; omega
      obtain ⟨x7, x8, r1, r2, r3, r4, eC, eM⟩ := ih f' (i + 1) w7 w8 (by omega) (by omega) (by omega) (by omega) b7.1 b7.2 (by omega) (by omega) (by omega)
      refine ⟨x7, x8, r1, r2, r3, r4, ?_, fun u u1 u2 => ?_⟩
      · rw [fX9_middle_125, en, if_neg (by omega), if_pos (by omega), tnc, p1, bbs, ← eC]
        unfold fX9_middle_167
        by_cases y : v7 = -1
        · rw [if_pos y] at hw7
          rw [if_pos y, bbs, bbs, pws (by omega), hw7, hw8]
        · rw [if_neg y] at hw7
          rw [if_neg y, bbs, bbs, pws (by omega), hw7, hw8]
      · have hu : u + (if i + 1 ≤ np then ((np - 1 - i : Nat) : Int) else 0) = u + 1 + (if i + 1 + 1 ≤ np then ((np - 1 - (i + 1) : Nat) : Int) else 0) := by
          rw [if_pos (by omega), if_pos (by omega)]; omega
        rw [hu]
        rw [← eM (u + 1) (by omega) (by omega)]
        rw [fX10_middle_97, e42, en, if_neg (by omega), bbs, pv_w_id (x := u + 1) (by omega) (by omega)]
        have m141 : ∀ s0 : Int, s0 = w7 → fX10_middle_141 pv_NN k68 (fun v5_ v6_ v7_ v8_ v9_ v10_ hh => fX10_middle_97 pv_NN k68 b1 b2 b3 b4 f' v5_ v6_ v7_ v8_ v9_ v10_ hh) b1 b2 b3 b4 v5 (u + 1) v8 s (i : Int) s0 hm = fX10_middle_97 pv_NN k68 b1 b2 b3 b4 f' v5 (u + 1) w7 w8 s ((i + 1 : Nat) : Int) hm := by
          intro s0 hs
          unfold fX10_middle_141 fX10_middle_167
          rw [if_pos (by omega), tnc, hs]
          by_cases y : hm 24 i ≤ v8
          · rw [if_pos y, bbs, pws (by omega), hw8, Int.max_eq_left y]
          · rw [if_neg y, if_pos (by omega), bbs, pws (by omega), hw8, Int.max_eq_right (by omega)]
        have m129 : hm 24 i = w7 → fX10_middle_129 pv_NN k68 (fun v5_ v6_ v7_ v8_ v9_ v10_ hh => fX10_middle_97 pv_NN k68 b1 b2 b3 b4 f' v5_ v6_ v7_ v8_ v9_ v10_ hh) b1 b2 b3 b4 v5 (u + 1) v8 s (i : Int) hm = fX10_middle_97 pv_NN k68 b1 b2 b3 b4 f' v5 (u + 1) w7 w8 s ((i + 1 : Nat) : Int) hm := by
          intro hs
          unfold fX10_middle_129
          rw [if_pos (by omega), tnc, m141 _ hs]
        by_cases y : v7 = -1
        · rw [if_pos y] at hw7
          rw [if_pos y, m129 hw7.symm]
        · rw [if_neg y] at hw7
          rw [if_neg y, if_pos (by omega), tnc]
          by_cases y2 : v7 ≤ hm 24 i
          · rw [if_pos y2, m141 _ (by rw [hw7]; omega)]
          · rw [if_neg y2, m129 (by rw [hw7]; omega)]
theorem mid_out {a b m : Nat} {a4 : Int} (h4 : 0 ≤ a4 ∧ a4 ≤ 3) (hb : b < 4) (hm : m ≤ 100) : ∀ (f s : Nat) (v5 v6 v7 v8 : Int) (hc hm' : pv_H), SSz hc hm' → rodOk hm' (a : Int) → m + 1 < s + f → 1 ≤ s → s ≤ m + 1 → 0 ≤ v5 → v5 ≤ s → 0 ≤ v6 → v6 ≤ 60 * (s : Int) → -1 ≤ v7 → v7 ≤ 60 → -1 ≤ v8 → v8 ≤ 60 → wpz (fX9_middle_62 pv_NN (a : Int) (b : Int) (m : Int) a4 f v5 v6 v7 v8 (s : Int) hc) fun c => wpz (fX10_middle_68 pv_NN (a : Int) (b : Int) (m : Int) a4 f v5 v6 v7 v8 (s : Int) hm') fun m => c.2 = m.2 ∧ SSz c.1 m.1 := by
  intro f
  induction f with
  | zero => intro s v5 v6 v7 v8 hc hm' S hr h1 h2 h3; omega
  | succ f ih =>
    intro s v5 v6 v7 v8 hc hm' S hr h1 h2 h3 a1 a2 a3 a4' a5 a6 a7 a8
    have ha := hr.2.1
    have hA : 0 ≤ (a : Int) ∧ (a : Int) < 4 := ⟨by omega, ha⟩
    have hB : 0 ≤ (b : Int) ∧ (b : Int) < 4 := ⟨by omega, by omega⟩
    rw [fX9_middle_62, fX10_middle_68]
    by_cases z : m < s
    · rw [if_pos (show (m : Int) < (s : Int) by omega), if_pos (show (m : Int) < (s : Int) by omega)]
      unfold fX10_middle_215
      by_cases z0 : a4 = 0
      · rw [if_pos z0, if_pos z0]; exact wend rfl S
      · rw [if_neg z0, if_neg z0]
        by_cases z1 : a4 = 1
        · rw [if_pos z1, if_pos z1]; exact wend rfl S
        · rw [if_neg z1, if_neg z1]
          by_cases z2 : a4 = 2
          · rw [if_pos z2, if_pos z2]; exact wend rfl S
          · rw [if_neg z2, if_neg z2]; exact wend rfl S
    · obtain ⟨hc', hm2, np, n, e1, e2, S', hr', R, n3, n60, _⟩ := brk_R S (b := b) (seed := (s : Int)) hr hb
      have np60 := R.np60 n60
      obtain ⟨_, _, _, _, _, _, _, _, e42, P, _⟩ := R
      rw [if_neg (show ¬ (m : Int) < (s : Int) by omega), if_neg (show ¬ (m : Int) < (s : Int) by omega), if_pos hA, tnc, bbs, if_pos hB, tnc, bbs, e1, c2s, e2, c2s]
      unfold fX9_middle_122
      by_cases c : np < 3
      · rw [if_pos (show (np : Int) < 3 by omega), if_neg (show ¬ 3 ≤ (np : Int) by omega)]
        have eC : ∀ k62 : Int → Int → Int → Int → Int → pv_H → Option (pv_H × Int), fX9_middle_125 pv_NN k62 (a : Int) (b : Int) (m : Int) a4 pv_NN v5 v6 v7 v8 (s : Int) (np : Int) 1 hc' = k62 v5 v6 v7 v8 ((s + 1 : Nat) : Int) hc' := by
          intro k62
          have key : ∀ M : Nat, fX9_middle_125 pv_NN k62 (a : Int) (b : Int) (m : Int) a4 (M + 1) v5 v6 v7 v8 (s : Int) (np : Int) 1 hc' = k62 v5 v6 v7 v8 ((s + 1 : Nat) : Int) hc' := by
            intro M
            rw [fX9_middle_125, pv_w_id (x := (np : Int) - 1) (by omega) (by omega), if_pos (by omega), bbs, pws (by omega)]
          exact key 19999
        unfold fX10_middle_175
        rw [eC, bbs, pws (by omega)]
        exact ih (s + 1) v5 v6 v7 v8 hc' hm2 S' hr' (by omega) (by omega) (by omega) a1 (by omega) a3 (by omega) a5 a6 a7 a8
      · rw [if_neg (show ¬ (np : Int) < 3 by omega), if_pos (show 3 ≤ (np : Int) by omega)]
        obtain ⟨w7, w8, r1, r2, r3, r4, eC, eM⟩ := mid_in (b1 := (a : Int)) (b2 := (b : Int)) (b3 := (m : Int)) (b4 := a4) (k62 := fun v5_ v6_ v7_ v8_ v9_ hh => fX9_middle_62 pv_NN (a : Int) (b : Int) (m : Int) a4 f v5_ v6_ v7_ v8_ v9_ hh) (k68 := fun v5_ v6_ v7_ v8_ v9_ hh => fX10_middle_68 pv_NN (a : Int) (b : Int) (m : Int) a4 f v5_ v6_ v7_ v8_ v9_ hh) (v5 := v5 + 1) (v6 := v6 + ((np : Int) - 2)) (s := (s : Int)) np60.2 e42 P (by omega) (by omega) (by omega) (by omega) pv_NN pv_NN 1 v7 v8 (by omega) (by unfold pv_NN; omega) (by unfold pv_NN; omega) (by omega) a5 a6 a7 a8 (by omega)
        have eM' := eM v6 a3 (by omega)
        rw [if_pos (by omega)] at eM'
        have e6 : v6 + ((np - 1 - 1 : Nat) : Int) = v6 + ((np : Int) - 2) := by omega
        rw [e6] at eM'
        have eC : fX9_middle_125 pv_NN (fun v5_ v6_ v7_ v8_ v9_ hh => fX9_middle_62 pv_NN (a : Int) (b : Int) (m : Int) a4 f v5_ v6_ v7_ v8_ v9_ hh) (a : Int) (b : Int) (m : Int) a4 pv_NN (v5 + 1) (v6 + ((np : Int) - 2)) v7 v8 (s : Int) (np : Int) 1 hc' = _ := eC
        have eM' : fX10_middle_97 pv_NN (fun v5_ v6_ v7_ v8_ v9_ hh => fX10_middle_68 pv_NN (a : Int) (b : Int) (m : Int) a4 f v5_ v6_ v7_ v8_ v9_ hh) (a : Int) (b : Int) (m : Int) a4 pv_NN (v5 + 1) v6 v7 v8 (s : Int) 1 hm2 = _ := eM'
        rw [bbs, bbs, bbs, pv_w_id (x := v5 + 1) (by omega) (by omega), pv_w_id (x := (np : Int) - 2) (by omega) (by omega), pv_w_id (x := v6 + ((np : Int) - 2)) (by omega) (by omega), eC, eM']
        exact ih (s + 1) (v5 + 1) (v6 + ((np : Int) - 2)) w7 w8 hc' hm2 S' hr' (by omega) (by omega) (by omega) (by omega) (by omega) (by omega) (by omega) r1 r2 r3 r4
theorem s_middle : sm_middle SSz := by
  intro hc hm S a1 a2 a3 a4 _ _ _ _
  refine two_th S fun hm S => ?_
  unfold fX9_middle fX9_middle_26 fX10_middle_27
  by_cases hr : rodOk hm a1
  · obtain ⟨a, rfl⟩ := Int.eq_ofNat_of_zero_le hr.1
    rw [hasRod_1 S hr, c1s, if_neg n10]
    by_cases hd : 0 ≤ a2 ∧ a2 < 4
    · obtain ⟨b, rfl⟩ := Int.eq_ofNat_of_zero_le hd.1
      rw [hasDo_1 hd, c1s, if_neg n10, isBoth_1 hr hd, c1s, if_neg n10]
      by_cases hq : 0 ≤ a4 ∧ a4 ≤ 3
      · rw [wn_1 hq, c1s, if_neg n10, if_neg (show ¬ a4 < 0 by omega), if_pos (show a4 ≤ 3 by omega)]
        by_cases hp : 1 ≤ a3 ∧ a3 ≤ 100
        · obtain ⟨m, rfl⟩ := Int.eq_ofNat_of_zero_le (show 0 ≤ a3 by omega)
          rw [seeds_1 hp, c1s, if_neg n10, wn_1 hp, c1s, if_neg n10, bbs, bbs, bbs, bbs]
          exact mid_out hq (by omega) (by omega) pv_NN 1 0 0 (-1) (-1) hc hm S hr (by unfold pv_NN; omega) (by omega) (by omega) (by omega) (by omega) (by omega) (by omega) (by omega) (by omega) (by omega) (by omega)
        · rw [seeds_0 hp, c1s, if_pos rfl, wn_0 hp, c1s, if_pos rfl]
          exact no3 S
      · rw [wn_0 hq, c1s, if_pos rfl]
        by_cases z : a4 < 0
        · rw [if_pos z]; exact no2 S
        · rw [if_neg z, if_neg (show ¬ a4 ≤ 3 by omega)]; exact no2 S
    · rw [hasDo_0 hd, c1s, if_pos rfl, isBoth_0 (fun z => hd z.2), c1s, if_pos rfl]
      exact no2 S
  · rw [hasRod_0 S hr, c1s, if_pos rfl, isBoth_0 (fun z => hr z.1), c1s, if_pos rfl]
    exact no2 S
