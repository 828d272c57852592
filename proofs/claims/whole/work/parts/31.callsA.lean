/-! calls: fault, status, rod, cell, broke, piece, wave, run, why -/
theorem s_fault : sm_fault SSz := by
  intro hc hm S a1 _
  refine two_th0 S fun hm S => ?_
  unfold fX9_fault
  by_cases h0 : a1 = 0
  · rw [if_pos h0, if_pos h0]
    exact wend0 S.2.1.1 S
  · rw [if_neg h0, if_neg h0]
    by_cases h1 : a1 = 1
    · rw [if_pos h1, if_pos h1]
      exact wend0 S.2.1.2 S
    · rw [if_neg h1, if_neg h1]
      exact wend0 rfl S
theorem s_status : sm_status SSz := by
  intro hc hm S a1 _
  refine two_th0 S fun hm S => ?_
  have e := S.2.2.2.2.2.1
  by_cases q : 1 ≤ a1 ∧ a1 ≤ 7
  · by_cases h4 : a1 = 4
    · subst h4
      rw [wn_1 q, c1s]
      exact wend0 rfl S
    · have hk : fX9_status pv_NN a1 hc = some (hc 77 a1.toNat) := by
        unfold fX9_status
        simp (disch := omega) only [if_pos, ite_self]
        have : a1 = 1 ∨ a1 = 2 ∨ a1 = 3 ∨ a1 = 5 ∨ a1 = 6 ∨ a1 = 7 := by omega
        rcases this with h | h | h | h | h | h <;> subst h <;> rfl
      rw [hk, wn_1 q, c1s, if_neg (by omega), if_neg h4, if_pos (by omega)]
      exact wend0 (e _ (by omega)) S
  · unfold fX9_status
    rw [wn_0 q, c1s]
    simp (disch := omega) only [if_pos, if_neg]
    exact wend0 rfl S
theorem s_rod : sm_rod SSz := by
  intro hc hm S a1 a2 _ _
  refine two_th S fun hm S => ?_
  unfold fX9_rod
  by_cases h : rodOk hm a1
  · rw [hasRod_1 S h, isRod_1 h, c1s, c1s]
    obtain ⟨h1, h2, h3⟩ := id h
    have hr := S.2.2.1.1 a1.toNat (by omega)
    obtain ⟨e1, e2, _⟩ := hr
    have x1 : 20 + (15 + 6 * a1.toNat) = 35 + 6 * a1.toNat := by omega
    unfold csz msz at e1 e2
    rw [x1, Nat.zero_add] at e1 e2
    by_cases q : 0 ≤ a2 ∧ a2 ≤ 1
    · rw [wn_1 q, c1s]
      have x2 : Int.toNat (242 * a1 + a2) = 242 * a1.toNat + a2.toNat := by omega
      by_cases q2 : a2 = 0
      · subst q2
        simp (disch := omega) only [if_pos, if_neg, bbs, pv_w_id]
        rw [x2]
        exact wend e1 S
      · have q3 : a2 = 1 := by omega
        subst q3
        simp (disch := omega) only [if_pos, if_neg, bbs, pv_w_id]
        rw [x2]
        exact wend e2 S
    · rw [wn_0 q, c1s]
      by_cases q2 : a2 < 0
      · simp (disch := omega) only [if_pos, if_neg]
        exact no2 S
      · simp (disch := omega) only [if_pos, if_neg]
        exact no2 S
  · rw [hasRod_0 S h, isRod_0 h, c1s, c1s, if_pos rfl, if_pos rfl]
    exact no2 S
theorem s_broke : sm_broke SSz := by
  intro hc hm S a1 a2 _ _
  refine two_th S fun hm S => ?_
  obtain ⟨k1, k2⟩ := S.kept
  unfold fX9_broke
  by_cases h1 : a1 < 0
  · rw [if_pos h1, if_pos h1]
    exact no2 S
  · by_cases h2 : 0 ≤ a2 ∧ a2 ≤ 3
    · by_cases hk : hm 2 1125 = 1
      · obtain ⟨b1, b2, b3, b4, b5, b6, b7, b8, b9, b10, b11, _⟩ := S.keptv hk
        have b0 : hc 31 0 = hm 2 1126 := b1 0 (by omega)
        by_cases h3 : a1 < hm 2 1126
        · unfold fX10_broke_28
          simp (disch := omega) only [if_pos, if_neg, c1s, bbs, wn_1, wn_0, isKept_1, isKept_0, pv_w_id]
          have e := b8 a2.toNat a1.toNat (by omega) (by omega)
          have x1 : Int.toNat (a2 * 60 + a1) = 60 * a2.toNat + a1.toNat := by omega
          have x2 : Int.toNat (1134 + 60 * a2 + a1) = 1134 + 60 * a2.toNat + a1.toNat := by omega
          rw [x1, x2]
          exact wend e S
        · simp (disch := omega) only [if_pos, if_neg, c1s, bbs, wn_1, wn_0, isKept_1, isKept_0, pv_w_id]
          exact no2 S
      · unfold fX10_broke_28
        simp (disch := omega) only [if_pos, if_neg, c1s, bbs, wn_1, wn_0, isKept_1, isKept_0, pv_w_id]
        exact no5 S
    · have e1 : fX10_broke_28 pv_NN a1 a2 hm = fX10_broke_40 pv_NN a1 a2 hm := by
        unfold fX10_broke_28
        rw [wn_0 h2, c1s, if_pos rfl]
      rw [if_neg h1, if_neg h1, e1]
      have e2 : ∀ r : Int, (if r = 0 then fX10_broke_40 pv_NN a1 a2 hm else if hm 2 1126 ≤ a1 then fX10_broke_40 pv_NN a1 a2 hm else fX10_broke_40 pv_NN a1 a2 hm) = fX10_broke_40 pv_NN a1 a2 hm := fun r => by rw [ite_self, ite_self]
      have e3 : (pv_c1 (fX10_isKept pv_NN hm) fun r => if r = 0 then fX10_broke_40 pv_NN a1 a2 hm else if hm 2 1126 ≤ a1 then fX10_broke_40 pv_NN a1 a2 hm else fX10_broke_40 pv_NN a1 a2 hm) = fX10_broke_40 pv_NN a1 a2 hm := by
        by_cases hk : hm 2 1125 = 1
        · rw [isKept_1 hk, c1s, e2]
        · rw [isKept_0 hk, c1s, e2]
      rw [e3]
      by_cases h3 : a2 < 0
      · rw [if_pos h3]
        exact no2 S
      · rw [if_neg h3, if_neg (by omega)]
        exact no2 S
theorem s_wave : sm_wave SSz := by
  intro hc hm S a1 a2 _ _
  refine two_th S fun hm S => ?_
  obtain ⟨k1, k2⟩ := S.kept
  unfold fX9_wave
  by_cases h1 : a1 < 0
  · rw [if_pos h1, if_pos h1]
    exact no2 S
  · by_cases h2 : 0 ≤ a2 ∧ a2 ≤ 5
    · by_cases hk : hm 2 1125 = 1
      · obtain ⟨b1, b2, b3, b4, b5, b6, b7, b8, b9, b10, b11, _⟩ := S.keptv hk
        have b0 : hc 31 2 = hm 2 1128 := b1 2 (by omega)
        by_cases h3 : a1 < hm 2 1128
        · unfold fX10_wave_28
          simp (disch := omega) only [if_pos, if_neg, c1s, bbs, wn_1, wn_0, isKept_1, isKept_0, pv_w_id]
          have e := b11 a2.toNat a1.toNat (by omega) (by omega)
          have x1 : Int.toNat (a2 * 200 + a1) = 200 * a2.toNat + a1.toNat := by omega
          have x2 : Int.toNat (1435 + 200 * a2 + a1) = 1435 + 200 * a2.toNat + a1.toNat := by omega
          rw [x1, x2]
          exact wend e S
        · simp (disch := omega) only [if_pos, if_neg, c1s, bbs, wn_1, wn_0, isKept_1, isKept_0, pv_w_id]
          exact no2 S
      · unfold fX10_wave_28
        simp (disch := omega) only [if_pos, if_neg, c1s, bbs, wn_1, wn_0, isKept_1, isKept_0, pv_w_id]
        exact no5 S
    · have e1 : fX10_wave_28 pv_NN a1 a2 hm = fX10_wave_40 pv_NN a1 a2 hm := by
        unfold fX10_wave_28
        rw [wn_0 h2, c1s, if_pos rfl]
      rw [if_neg h1, if_neg h1, e1]
      have e2 : ∀ r : Int, (if r = 0 then fX10_wave_40 pv_NN a1 a2 hm else if hm 2 1128 ≤ a1 then fX10_wave_40 pv_NN a1 a2 hm else fX10_wave_40 pv_NN a1 a2 hm) = fX10_wave_40 pv_NN a1 a2 hm := fun r => by rw [ite_self, ite_self]
      have e3 : (pv_c1 (fX10_isKept pv_NN hm) fun r => if r = 0 then fX10_wave_40 pv_NN a1 a2 hm else if hm 2 1128 ≤ a1 then fX10_wave_40 pv_NN a1 a2 hm else fX10_wave_40 pv_NN a1 a2 hm) = fX10_wave_40 pv_NN a1 a2 hm := by
        by_cases hk : hm 2 1125 = 1
        · rw [isKept_1 hk, c1s, e2]
        · rw [isKept_0 hk, c1s, e2]
      rw [e3]
      by_cases h3 : a2 < 0
      · rw [if_pos h3]
        exact no2 S
      · rw [if_neg h3, if_neg (by omega)]
        exact no2 S
theorem s_run : sm_run SSz := by
  intro hc hm S a1 _
  refine two_th S fun hm S => ?_
  obtain ⟨k1, k2⟩ := S.kept
  unfold fX9_run
  by_cases h2 : 0 ≤ a1 ∧ a1 ≤ 7
  · by_cases hk : hm 2 1125 = 1
    · obtain ⟨b1, _⟩ := S.keptv hk
      simp (disch := omega) only [if_pos, if_neg, c1s, bbs, wn_1, wn_0, isKept_1, isKept_0, pv_w_id]
      have x2 : Int.toNat (1126 + a1) = 1126 + a1.toNat := by omega
      rw [x2]
      exact wend (b1 _ (by omega)) S
    · simp (disch := omega) only [if_pos, if_neg, c1s, bbs, wn_1, wn_0, isKept_1, isKept_0, pv_w_id]
      exact no5 S
  · by_cases h3 : a1 < 0
    · simp (disch := omega) only [if_pos, if_neg, c1s, bbs, wn_1, wn_0, isKept_1, isKept_0, pv_w_id]
      exact no2 S
    · simp (disch := omega) only [if_pos, if_neg, c1s, bbs, wn_1, wn_0, isKept_1, isKept_0, pv_w_id]
      exact no2 S
/-- by what code a PIECE is refused -/
theorem code_0 {N : Nat} {hc hm : pv_H} (S : SSz hc hm) {a : Int} (h : 0 ≤ a) (hk : hm 2 1125 = 1) (h2 : a < hm 2 1127) : fX9_codeForPiece N a hc = some 0 := by
  obtain ⟨k1, k2⟩ := S.kept
  obtain ⟨b1, _⟩ := S.keptv hk
  have b0 : hc 31 1 = hm 2 1127 := b1 1 (by omega)
  unfold fX9_codeForPiece
  rw [if_pos h, if_neg (by omega), if_neg (by omega)]
  rfl
theorem code_2 {N : Nat} {hc hm : pv_H} (S : SSz hc hm) {a : Int} (h : a < 0 ∨ hm 2 1125 = 1 ∧ hm 2 1127 ≤ a) : fX9_codeForPiece N a hc = some (-2) := by
  obtain ⟨k1, k2⟩ := S.kept
  unfold fX9_codeForPiece
  by_cases q : a < 0
  · rw [if_neg (by omega)]
  · obtain ⟨hk, q2⟩ : hm 2 1125 = 1 ∧ hm 2 1127 ≤ a := by omega
    obtain ⟨b1, _⟩ := S.keptv hk
    have b0 : hc 31 1 = hm 2 1127 := b1 1 (by omega)
    rw [if_pos (by omega), if_neg (by omega), if_pos (by omega)]
    rfl
theorem code_5 {N : Nat} {hc hm : pv_H} (S : SSz hc hm) {a : Int} (h : 0 ≤ a) (hk : ¬ hm 2 1125 = 1) : fX9_codeForPiece N a hc = some (-5) := by
  obtain ⟨k1, k2⟩ := S.kept
  unfold fX9_codeForPiece
  rw [if_pos h, if_pos (by omega)]
theorem s_piece : sm_piece SSz := by
  intro hc hm S a1 _
  refine two_th S fun hm S => ?_
  obtain ⟨k1, k2⟩ := S.kept
  unfold fX9_piece
  by_cases h1 : a1 < 0
  · rw [code_2 S (Or.inl h1)]
    simp (disch := omega) only [if_pos, if_neg, c1s, bbs, wn_1, wn_0, isKept_1, isKept_0, pv_w_id]
    exact no2 S
  · by_cases hk : hm 2 1125 = 1
    · obtain ⟨b1, b2, b3, b4, b5, b6, b7, b8, b9, b10, _⟩ := S.keptv hk
      by_cases h2 : a1 < hm 2 1127
      · rw [code_0 S (by omega) hk h2]
        unfold fX10_piece_35 fX9_piece_30
        simp (disch := omega) only [if_pos, if_neg, c1s, bbs, wn_1, wn_0, isKept_1, isKept_0, pv_w_id]
        have x2 : Int.toNat (1374 + a1) = 1374 + a1.toNat := by omega
        rw [x2]
        exact wend (b10 _ (by omega)).1 S
      · rw [code_2 S (Or.inr ⟨hk, by omega⟩)]
        simp (disch := omega) only [if_pos, if_neg, c1s, bbs, wn_1, wn_0, isKept_1, isKept_0, pv_w_id]
        exact no2 S
    · rw [code_5 S (by omega) hk]
      unfold fX10_piece_35
      simp (disch := omega) only [if_pos, if_neg, c1s, bbs, wn_1, wn_0, isKept_1, isKept_0, pv_w_id]
      exact no5 S
theorem s_why : sm_why SSz := by
  intro hc hm S
  refine two_th S fun hm S => ?_
  unfold fX9_why
  obtain ⟨k1, k2⟩ := S.kept
  by_cases hk : hm 2 1125 = 1
  · obtain ⟨b1, b2, b3, b4, b5, b6, b7, b8, b9, b10, b11, b12, b13, b14, b15⟩ := S.keptv hk
    have b0 : hc 31 0 = hm 2 1126 := b1 0 (by omega)
    rw [isKept_1 hk, c1s, if_neg (by omega)]
    rw [if_neg (c := (1 : Int) = 0) (by omega)]
    unfold fX7_turnAhead
    rw [b0]
    by_cases q : 2 ≤ hm 2 1126
    · have c0 := b9 0 (by omega)
      have c1 := b9 1 (by omega)
      have d0 : hc 32 0 = hm 2 1134 := b8 0 0 (by omega) (by omega)
      have d1 : hc 32 1 = hm 2 1135 := b8 0 1 (by omega) (by omega)
      have f1 : fX7_cellOf pv_NN 30 1 hc = some (hm 2 1135) := by
        unfold fX7_cellOf
        rw [pv_w_id (by omega) (by omega), if_pos (by omega)]
        exact congrArg some d1
      have f0 : fX7_cellOf pv_NN 30 0 hc = some (hm 2 1134) := by
        unfold fX7_cellOf
        rw [pv_w_id (by omega) (by omega), if_pos (by omega)]
        exact congrArg some d0
      have b15 := b15 q
      have c0 : 0 ≤ hm 2 1134 ∧ hm 2 1134 < 60 := c0
      have c1 : 0 ≤ hm 2 1135 ∧ hm 2 1135 < 60 := c1
      rw [if_pos q, f1, c1s, f0, c1s]
      unfold fX7_turnAhead_33
      rw [c1s]
      refine wend ?_ S
      rw [b15, pv_w_id (x := hm 2 1135 - hm 2 1134) (by omega) (by omega)]
      by_cases z : hm 2 1134 ≤ hm 2 1135
      · rw [if_pos (by omega), if_pos z]
        refine pv_w_id ?_ ?_
        · have := Int.mul_le_mul_of_nonneg_right b12 (c := hm 2 1135 - hm 2 1134) (by omega)
          omega
        · have := Int.mul_le_mul_of_nonneg_right b13 (c := hm 2 1135 - hm 2 1134) (by omega)
          omega
      · rw [if_neg (by omega), if_neg z, pv_w_id (x := 0 - (hm 2 1135 - hm 2 1134)) (by omega) (by omega)]
        have e : 0 - (hm 2 1135 - hm 2 1134) = hm 2 1134 - hm 2 1135 := by omega
        rw [e]
        refine pv_w_id ?_ ?_
        · have := Int.mul_le_mul_of_nonneg_right b12 (c := hm 2 1134 - hm 2 1135) (by omega)
          omega
        · have := Int.mul_le_mul_of_nonneg_right b13 (c := hm 2 1134 - hm 2 1135) (by omega)
          omega
    · rw [if_neg q]
      unfold fX7_turnAhead_33
      rw [c1s]
      exact wend (b14 (by omega)).symm S
  · rw [isKept_0 hk, c1s, if_pos (by omega), if_pos rfl]
    exact no5 S
