/-! small methods of both -/
theorem no_C {N : Nat} {h : pv_H} {k : Nat} (hk : k < 8) : fX9_refuse N (-(k : Int)) h = some (pv_up h 77 k (pv_w (h 77 k + 1)), -(k : Int)) := by
  have e : pv_w (- -(k : Int)) = (k : Int) := by rw [Int.neg_neg, pv_w_id (by omega) (by omega)]
  unfold fX9_refuse
  rw [e, if_pos (by omega), if_pos (by omega), tnc]
  rfl
theorem no_M {N : Nat} {h : pv_H} {k : Nat} (hk : k < 8) : fX10_no N (-(k : Int)) h = some (pv_up h 1 k (pv_w (h 1 k + 1)), -(k : Int)) := by
  have e : pv_w (- -(k : Int)) = (k : Int) := by rw [Int.neg_neg, pv_w_id (by omega) (by omega)]
  unfold fX10_no
  rw [e, if_pos (by omega), if_pos (by omega), tnc]
  rfl
/-- both refuse -/
theorem no_two {N : Nat} {hc hm : pv_H} (S : SSz hc hm) {k : Nat} (hk : k < 8) : wpz (pv_c2b (fX9_refuse N (-(k : Int)) hc) fun h r => some (h, r)) fun c => wpz (pv_c2b (fX10_no N (-(k : Int)) hm) fun h r => some (h, r)) fun m => c.2 = m.2 ∧ SSz c.1 m.1 := by
  rw [no_C hk, no_M hk]
  refine wp_some.mpr (wp_some.mpr ⟨rfl, ?_⟩)
  have e : hc 77 k = hm 1 k := S.2.2.2.2.2.1 k hk
  show SSz (pv_up hc 77 k (pv_w (hc 77 k + 1))) (pv_up hm 1 k (pv_w (hm 1 k + 1)))
  rw [e]
  exact S.no hk
theorem no2 {hc hm : pv_H} (S : SSz hc hm) : wpz (pv_c2b (fX9_refuse pv_NN (-2) hc) fun h r => some (h, r)) fun c => wpz (pv_c2b (fX10_no pv_NN (-2) hm) fun h r => some (h, r)) fun m => c.2 = m.2 ∧ SSz c.1 m.1 := no_two S (k := 2) (by decide)
theorem no3 {hc hm : pv_H} (S : SSz hc hm) : wpz (pv_c2b (fX9_refuse pv_NN (-3) hc) fun h r => some (h, r)) fun c => wpz (pv_c2b (fX10_no pv_NN (-3) hm) fun h r => some (h, r)) fun m => c.2 = m.2 ∧ SSz c.1 m.1 := no_two S (k := 3) (by decide)
theorem no5 {hc hm : pv_H} (S : SSz hc hm) : wpz (pv_c2b (fX9_refuse pv_NN (-5) hc) fun h r => some (h, r)) fun c => wpz (pv_c2b (fX10_no pv_NN (-5) hm) fun h r => some (h, r)) fun m => c.2 = m.2 ∧ SSz c.1 m.1 := no_two S (k := 5) (by decide)
theorem no6 {hc hm : pv_H} (S : SSz hc hm) : wpz (pv_c2b (fX9_refuse pv_NN (-6) hc) fun h r => some (h, r)) fun c => wpz (pv_c2b (fX10_no pv_NN (-6) hm) fun h r => some (h, r)) fun m => c.2 = m.2 ∧ SSz c.1 m.1 := no_two S (k := 6) (by decide)
theorem no7 {hc hm : pv_H} (S : SSz hc hm) : wpz (pv_c2b (fX9_refuse pv_NN (-7) hc) fun h r => some (h, r)) fun c => wpz (pv_c2b (fX10_no pv_NN (-7) hm) fun h r => some (h, r)) fun m => c.2 = m.2 ∧ SSz c.1 m.1 := no_two S (k := 7) (by decide)
theorem cmp_lt {x y : Int} : pv_cmp x y < 0 ↔ x < y := by
  unfold pv_cmp
  by_cases h1 : y < x
  · rw [if_pos h1]; omega
  · rw [if_neg h1]
    by_cases h2 : x = y
    · rw [if_pos h2]; omega
    · rw [if_neg h2]; omega
theorem cmp_gt {x y : Int} : 0 < pv_cmp x y ↔ y < x := by
  unfold pv_cmp
  by_cases h1 : y < x
  · rw [if_pos h1]; omega
  · rw [if_neg h1]
    by_cases h2 : x = y
    · rw [if_pos h2]; omega
    · rw [if_neg h2]; omega
theorem cmp_eq {x y : Int} : pv_cmp x y = 0 ↔ x = y := by
  unfold pv_cmp
  by_cases h1 : y < x
  · rw [if_pos h1]; omega
  · rw [if_neg h1]
    by_cases h2 : x = y
    · rw [if_pos h2]; omega
    · rw [if_neg h2]; omega
theorem wn_1 {N : Nat} {h : pv_H} {a lo hi : Int} (q : lo ≤ a ∧ a ≤ hi) : fX10_within N a lo hi h = some 1 := by
  unfold fX10_within
  rw [if_neg (by rw [cmp_lt]; omega), if_neg (by rw [cmp_gt]; omega)]
  rfl
theorem wn_0 {N : Nat} {h : pv_H} {a lo hi : Int} (q : ¬ (lo ≤ a ∧ a ≤ hi)) : fX10_within N a lo hi h = some 0 := by
  unfold fX10_within
  by_cases h1 : a < lo
  · rw [if_pos (by rw [cmp_lt]; omega)]; rfl
  · rw [if_neg (by rw [cmp_lt]; omega), if_pos (by rw [cmp_gt]; omega)]; rfl
def rodOk (hm : pv_H) (a : Int) : Prop := 0 ≤ a ∧ a < 4 ∧ 0 < hm 2 (242 * a.toNat)
def cellOk (hm : pv_H) (a i : Int) : Prop := rodOk hm a ∧ 0 ≤ i ∧ i < hm 2 (242 * a.toNat)
theorem SSz.rod {hc hm : pv_H} (S : SSz hc hm) {a : Nat} (h : a < 4) : hc (35 + 6 * a) 0 = hm 2 (242 * a) := by
  have := (S.2.2.1.1 a h).1
  have e : 20 + (15 + 6 * a) = 35 + 6 * a := by omega
  unfold csz msz at this
  rw [e, Nat.zero_add] at this
  exact this
theorem hasRod_1 {N : Nat} {hc hm : pv_H} (S : SSz hc hm) {a : Int} (h : rodOk hm a) : fX9_hasRod N a hc = some 1 := by
  obtain ⟨h1, h2, h3⟩ := h
  unfold fX9_hasRod
  rw [if_neg (by omega), if_neg (by omega), if_pos (by omega)]
  show (if hc (35 + 6 * a.toNat) 0 ≤ 0 then _ else _) = _
  rw [S.rod (by omega), if_neg (by omega)]
  rfl
theorem hasRod_0 {N : Nat} {hc hm : pv_H} (S : SSz hc hm) {a : Int} (h : ¬ rodOk hm a) : fX9_hasRod N a hc = some 0 := by
  unfold fX9_hasRod
  by_cases h1 : a < 0
  · rw [if_pos h1]; rfl
  · by_cases h2 : 4 ≤ a
    · rw [if_neg h1, if_pos h2]; rfl
    · rw [if_neg h1, if_neg h2, if_pos (by omega)]
      show (if hc (35 + 6 * a.toNat) 0 ≤ 0 then _ else _) = _
      have : ¬ 0 < hm 2 (242 * a.toNat) := fun q => h ⟨by omega, by omega, q⟩
      rw [S.rod (by omega), if_pos (by omega)]
      rfl
theorem ix242 {a : Int} (h1 : 0 ≤ a) (h2 : a < 4) : pv_w (pv_w (242 * a) + 0) = 242 * a ∧ Int.toNat (242 * a) = 242 * a.toNat := by
  refine ⟨?_, by omega⟩
  rw [pv_w_id (x := 242 * a) (by omega) (by omega), Int.add_zero, pv_w_id (by omega) (by omega)]
theorem isRod_1 {N : Nat} {hm : pv_H} {a : Int} (h : rodOk hm a) : fX10_isRod N a hm = some 1 := by
  obtain ⟨h1, h2, h3⟩ := h
  obtain ⟨e1, e2⟩ := ix242 h1 h2
  unfold fX10_isRod
  rw [wn_1 (by omega)]
  rw [c1s, if_neg (by omega), e1, if_pos (by omega), e2, if_neg (by omega)]
  rfl
theorem isRod_0 {N : Nat} {hm : pv_H} {a : Int} (h : ¬ rodOk hm a) : fX10_isRod N a hm = some 0 := by
  unfold fX10_isRod
  by_cases q : 0 ≤ a ∧ a ≤ 3
  · obtain ⟨e1, e2⟩ := ix242 q.1 (show a < 4 by omega)
    have : ¬ 0 < hm 2 (242 * a.toNat) := fun q2 => h ⟨by omega, by omega, q2⟩
    rw [wn_1 (by omega)]
    rw [c1s, if_neg (by omega), e1, if_pos (by omega), e2, if_pos (by omega)]
    rfl
  · rw [wn_0 q]
    rfl
theorem hasDo_1 {N : Nat} {hc : pv_H} {a : Int} (h : 0 ≤ a ∧ a < 4) : fX9_hasDoings N a hc = some 1 := by
  unfold fX9_hasDoings
  rw [if_neg (by omega), if_neg (by omega)]
  rfl
theorem hasDo_0 {N : Nat} {hc : pv_H} {a : Int} (h : ¬ (0 ≤ a ∧ a < 4)) : fX9_hasDoings N a hc = some 0 := by
  unfold fX9_hasDoings
  by_cases h1 : a < 0
  · rw [if_pos h1]; rfl
  · rw [if_neg h1, if_pos (by omega)]; rfl
theorem isRow_1 {N : Nat} {hc : pv_H} {a : Int} (h : 0 ≤ a ∧ a < 4) : fX9_isRow N a hc = some 1 := by
  unfold fX9_isRow
  rw [if_neg (by omega), if_neg (by omega)]
  rfl
theorem isRow_0 {N : Nat} {hc : pv_H} {a : Int} (h : ¬ (0 ≤ a ∧ a < 4)) : fX9_isRow N a hc = some 0 := by
  unfold fX9_isRow
  by_cases h1 : a < 0
  · rw [if_pos h1]; rfl
  · rw [if_neg h1, if_pos (by omega)]; rfl
theorem seeds_1 {N : Nat} {hc : pv_H} {a : Int} (h : 1 ≤ a ∧ a ≤ 100) : fX9_areSeeds N a hc = some 1 := by
  unfold fX9_areSeeds
  rw [if_neg (by omega), if_neg (by omega)]
  rfl
theorem seeds_0 {N : Nat} {hc : pv_H} {a : Int} (h : ¬ (1 ≤ a ∧ a ≤ 100)) : fX9_areSeeds N a hc = some 0 := by
  unfold fX9_areSeeds
  by_cases h1 : a < 1
  · rw [if_pos h1]; rfl
  · rw [if_neg h1, if_pos (by omega)]; rfl
theorem pace_1 {N : Nat} {hc : pv_H} {a : Int} (h : 1 ≤ a ∧ a ≤ 9) : fX9_isPace N a hc = some 1 := by
  unfold fX9_isPace
  rw [if_neg (by omega), if_neg (by omega)]
  rfl
theorem pace_0 {N : Nat} {hc : pv_H} {a : Int} (h : ¬ (1 ≤ a ∧ a ≤ 9)) : fX9_isPace N a hc = some 0 := by
  unfold fX9_isPace
  by_cases h1 : a < 1
  · rw [if_pos h1]; rfl
  · rw [if_neg h1, if_pos (by omega)]; rfl
theorem isDo_1 {N : Nat} {hm : pv_H} {a : Int} (h : 0 ≤ a ∧ a < 4) : fX10_isDoing N a hm = some 1 := by
  unfold fX10_isDoing
  rw [wn_1 (by omega)]
  rfl
theorem isDo_0 {N : Nat} {hm : pv_H} {a : Int} (h : ¬ (0 ≤ a ∧ a < 4)) : fX10_isDoing N a hm = some 0 := by
  unfold fX10_isDoing
  rw [wn_0 (by omega)]
  rfl
theorem isBoth_1 {N : Nat} {hm : pv_H} {a d : Int} (h : rodOk hm a) (g : 0 ≤ d ∧ d < 4) : fX10_isBoth N a d hm = some 1 := by
  unfold fX10_isBoth
  rw [isRod_1 h, isDo_1 g]
  rfl
theorem isBoth_0 {N : Nat} {hm : pv_H} {a d : Int} (h : ¬ (rodOk hm a ∧ 0 ≤ d ∧ d < 4)) : fX10_isBoth N a d hm = some 0 := by
  unfold fX10_isBoth
  by_cases q : rodOk hm a
  · rw [isRod_1 q, isDo_0 (fun g => h ⟨q, g⟩)]
    rfl
  · rw [isRod_0 q]
    rfl
theorem hasCell_1 {N : Nat} {hc hm : pv_H} (S : SSz hc hm) {a i : Int} (h : cellOk hm a i) : fX9_hasCell N a i hc = some 1 := by
  obtain ⟨h1, h2, h3⟩ := h
  unfold fX9_hasCell
  rw [hasRod_1 S h1]
  rw [c1s]
  obtain ⟨g1, g2, g3⟩ := h1
  rw [if_neg (by omega), if_neg (by omega), if_pos (by omega)]
  show (if hc (35 + 6 * a.toNat) 0 ≤ i then _ else _) = _
  rw [S.rod (by omega), if_neg (by omega)]
  rfl
theorem hasCell_0 {N : Nat} {hc hm : pv_H} (S : SSz hc hm) {a i : Int} (h : ¬ cellOk hm a i) : fX9_hasCell N a i hc = some 0 := by
  unfold fX9_hasCell
  by_cases q : rodOk hm a
  · rw [hasRod_1 S q]
    rw [c1s, if_neg (by omega)]
    by_cases h1 : i < 0
    · rw [if_pos h1]; rfl
    · obtain ⟨g1, g2, g3⟩ := id q
      rw [if_neg h1, if_pos (by omega)]
      show (if hc (35 + 6 * a.toNat) 0 ≤ i then _ else _) = _
      have : ¬ i < hm 2 (242 * a.toNat) := fun z => h ⟨q, by omega, z⟩
      rw [S.rod (by omega), if_pos (by omega)]
      rfl
  · rw [hasRod_0 S q]
    rfl
theorem isCell_1 {N : Nat} {hm : pv_H} {a i : Int} (h : cellOk hm a i) (b : hm 2 (242 * a.toNat) ≤ 60) : fX10_isCell N a i hm = some 1 := by
  obtain ⟨⟨h1, h2, h3⟩, h4, h5⟩ := h
  obtain ⟨e1, e2⟩ := ix242 h1 h2
  unfold fX10_isCell
  rw [e1, if_pos (by omega), e2, pv_w_id (x := hm 2 (242 * a.toNat) - 1) (by omega) (by omega), wn_1 (by omega)]
  rfl
theorem isCell_0 {N : Nat} {hm : pv_H} {a i : Int} (g : rodOk hm a) (h : ¬ cellOk hm a i) (b : hm 2 (242 * a.toNat) ≤ 60) : fX10_isCell N a i hm = some 0 := by
  obtain ⟨h1, h2, h3⟩ := id g
  obtain ⟨e1, e2⟩ := ix242 h1 h2
  have : ¬ (0 ≤ i ∧ i < hm 2 (242 * a.toNat)) := fun z => h ⟨g, z⟩
  unfold fX10_isCell
  rw [e1, if_pos (by omega), e2, pv_w_id (x := hm 2 (242 * a.toNat) - 1) (by omega) (by omega), wn_0 (by omega)]
  rfl
theorem SSz.r60 {hc hm : pv_H} (S : SSz hc hm) {a : Int} (g : rodOk hm a) : 3 ≤ hm 2 (242 * a.toNat) ∧ hm 2 (242 * a.toNat) ≤ 60 := by
  obtain ⟨h1, h2, h3⟩ := g
  have := (S.2.2.1.1 a.toNat (by omega)).2.2.1
  unfold msz at this
  rw [Nat.zero_add] at this
  omega
theorem isKept_1 {N : Nat} {hm : pv_H} (h : hm 2 1125 = 1) : fX10_isKept N hm = some 1 := by
  unfold fX10_isKept
  rw [if_pos h]
  rfl
theorem isKept_0 {N : Nat} {hm : pv_H} (h : ¬ hm 2 1125 = 1) : fX10_isKept N hm = some 0 := by
  unfold fX10_isKept
  rw [if_neg h]
  rfl
theorem SSz.kept {hc hm : pv_H} (S : SSz hc hm) : hc 20 1 = hm 2 1125 ∧ (hm 2 1125 = 0 ∨ hm 2 1125 = 1) := by
  have := S.2.2.1.2.2.2.2
  exact ⟨this.1, this.2.1⟩
/-- how a call of both begins -/
theorem two_th {hc hm : pv_H} (S : SSz hc hm) {o1 : Option (pv_H × Int)} {f : pv_H → Option (pv_H × Int)} (k : ∀ hm1, SSz hc hm1 → wpz o1 fun c => wpz (f hm1) fun m => c.2 = m.2 ∧ SSz c.1 m.1) : ∃ hc2 hm2 r, o1 = some (hc2, r) ∧ pv_b (pv_up hm 0 0 0) f = some (hm2, r) ∧ SSz hc2 hm2 := wp_two (k _ S.th)
theorem two_th0 {hc hm : pv_H} (S : SSz hc hm) {o1 : Option Int} {f : pv_H → Option (pv_H × Int)} (k : ∀ hm1, SSz hc hm1 → wpz o1 fun c => wpz (f hm1) fun m => c = m.2 ∧ SSz hc m.1) : ∃ hm2 r, o1 = some r ∧ pv_b (pv_up hm 0 0 0) f = some (hm2, r) ∧ SSz hc hm2 := wp_two0 (k _ S.th)
theorem wend {hc hm : pv_H} {r r2 : Int} (e : r = r2) (S : SSz hc hm) : wpz (some (hc, r)) fun c => wpz (some (hm, r2)) fun m => c.2 = m.2 ∧ SSz c.1 m.1 := wp_some.mpr (wp_some.mpr ⟨e, S⟩)
theorem wend0 {hc hm : pv_H} {r r2 : Int} (e : r = r2) (S : SSz hc hm) : wpz (some r) fun c => wpz (some (hm, r2)) fun m => c = m.2 ∧ SSz hc m.1 := wp_some.mpr (wp_some.mpr ⟨e, S⟩)
section VIEWS
variable {hc hm : pv_H}
theorem SSz.rodv (S : SSz hc hm) {a : Nat} (h : a < 4) : rodR hc (hm 2) (35 + 6 * a) (242 * a) := by
  have q := S.2.2.1.1 a h
  simp only [rodR, csz, msz, Nat.zero_add] at q ⊢
  have x (j : Nat) : 20 + (15 + 6 * a + j) = 35 + 6 * a + j := by omega
  have x0 : 20 + (15 + 6 * a) = 35 + 6 * a := by omega
  simp only [x, x0] at q
  exact q
theorem SSz.dov (S : SSz hc hm) {a : Nat} (h : a < 4) : doR hc (hm 2) (59 + 4 * a) (968 + 37 * a) := by
  have q := S.2.2.1.2.1 a h
  simp only [doR, csz, msz, Nat.zero_add] at q ⊢
  have x (j : Nat) : 20 + (39 + 4 * a + j) = 59 + 4 * a + j := by omega
  have x0 : 20 + (39 + 4 * a) = 59 + 4 * a := by omega
  simp only [x, x0] at q
  exact q
theorem SSz.lawv (S : SSz hc hm) : hc 23 0 = hm 2 1124 ∧ (∀ j : Nat, j < 8 → hc 24 j = hm 2 (1116 + j)) ∧ lawB (hm 2) := by
  have q := S.2.2.1.2.2.1
  simp only [lawR, csz, msz, Nat.zero_add] at q
  exact ⟨q.1, q.2.1, q.2.2⟩
theorem SSz.lookv (S : SSz hc hm) : hc 25 0 = hm 2 2636 ∧ 0 ≤ hm 2 2636 ∧ hm 2 2636 ≤ 8 ∧ ∀ l : Nat, (l : Int) < hm 2 2636 → ∃ a b : Nat, a ≤ b ∧ b ≤ 200 ∧ hc 26 l = a ∧ hc 26 (l + 1) = b ∧ hm 2 (2637 + l) = a ∧ hm 2 (2645 + l) = b ∧ wfs (fun j => hm 2 (2653 + 2 * j)) (b - a) a 0 = some 1 ∧ ∀ j : Nat, a ≤ j → j < b → hc 27 j = hm 2 (2653 + 2 * j) ∧ hc 28 j = hm 2 (2653 + 2 * j + 1) := by
  have q := S.2.2.1.2.2.2.1
  simp only [lookR, csz, msz, Nat.zero_add] at q
  exact q
theorem SSz.keptv (S : SSz hc hm) (h : hm 2 1125 = 1) : (∀ t : Nat, t < 8 → hc 31 t = hm 2 (1126 + t)) ∧ 0 ≤ hm 2 1126 ∧ hm 2 1126 ≤ 60 ∧ 1 ≤ hm 2 1127 ∧ hm 2 1127 ≤ 60 ∧ 0 ≤ hm 2 1128 ∧ hm 2 1128 ≤ 200
    ∧ (∀ w i : Nat, w < 4 → (i : Int) < hm 2 1126 → hc 32 (60 * w + i) = hm 2 (1134 + 60 * w + i))
    ∧ (∀ i : Nat, (i : Int) < hm 2 1126 → 0 ≤ hm 2 (1134 + i) ∧ hm 2 (1134 + i) < 60)
    ∧ (∀ i : Nat, (i : Int) < hm 2 1127 → hc 34 i = hm 2 (1374 + i) ∧ 1 ≤ hm 2 (1374 + i) ∧ hm 2 (1374 + i) ≤ 60)
    ∧ (∀ w i : Nat, w < 6 → (i : Int) < hm 2 1128 → hc 33 (200 * w + i) = hm 2 (1435 + 200 * w + i))
    ∧ -8 ≤ hc 30 0 ∧ hc 30 0 ≤ 8
    ∧ (hm 2 1126 < 2 → hm 2 2635 = 0) ∧ (2 ≤ hm 2 1126 → hm 2 2635 = hc 30 0 * (if hm 2 1134 ≤ hm 2 1135 then hm 2 1135 - hm 2 1134 else hm 2 1134 - hm 2 1135)) := by
  have q := S.2.2.1.2.2.2.2
  simp only [keptR, csz, msz, Nat.zero_add] at q
  exact q.2.2 h
end VIEWS
