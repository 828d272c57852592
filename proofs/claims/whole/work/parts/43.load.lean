/-! LOADS, and the least BEND that breaks -/
def ldz (n : Nat) (fg : Int) (st : Nat → Int) (i : Nat) (b : Int) : Int := b * shp n i / (10 * st i) + (if i = 0 ∨ i = n - 1 then b * fg / 100 else 0)
def lwB (lw : Nat → Int) : Prop := 0 ≤ lw 0 ∧ lw 0 ≤ 200 ∧ 0 ≤ lw 1 ∧ lw 1 ≤ 99 ∧ 1 ≤ lw 2 ∧ lw 2 ≤ 9 ∧ 1 ≤ lw 3 ∧ lw 3 ≤ 9 ∧ 0 ≤ lw 4 ∧ lw 4 ≤ 100 ∧ 0 ≤ lw 5 ∧ lw 5 ≤ 100 ∧ 0 ≤ lw 6 ∧ lw 6 ≤ 100 ∧ 0 ≤ lw 7 ∧ lw 7 ≤ 100
/-- the engine's ROD and LAW -/
def clz (h : pv_H) (r n : Nat) (st sg su lw : Nat → Int) : Prop := h 78 3 = (r : Int) ∧ r ∈ pv_l5 ∧ (r < 78 ∨ 98 < r) ∧ h r 0 = (n : Int) ∧ (∀ i, i < n → h (r + 1) i = st i ∧ h (r + 2) i = sg i ∧ h (r + 4) i = su i ∧ h (r + 5) i = shp n i) ∧ h 78 4 = 23 ∧ ∀ j, j < 8 → h 24 j = lw j
def mlz (h : pv_H) (n : Nat) (st sg su lw : Nat → Int) : Prop := h 0 19 = (n : Int) ∧ (∀ i, i < n → h 6 i = st i ∧ h 7 i = sg i ∧ h 9 i = su i ∧ h 10 i = shp n i) ∧ ∀ j, j < 8 → h 2 (1116 + j) = lw j
def brz (n : Nat) (st sg su : Nat → Int) : Prop := 3 ≤ n ∧ n ≤ 60 ∧ ∀ i, i < n → 1 ≤ st i ∧ st i ≤ 198 ∧ 1 ≤ sg i ∧ sg i ≤ 999 ∧ 0 ≤ su i ∧ su i ≤ 2
theorem dv_lt {a c b : Int} (hc : 0 < c) : a / c < b ↔ a < b * c := Int.ediv_lt_iff_lt_mul hc
section LD
variable {N r n : Nat} {st sg su lw : Nat → Int} {h : pv_H}
theorem ld_b (g : brz n st sg su) (l : lwB lw) {i : Nat} (hi : i < n) {b : Int} (hb : 0 ≤ b) : 0 ≤ ldz n (lw 7) st i b ∧ ldz n (lw 7) st i b ≤ 11 * b ∧ 0 ≤ b * shp n i ∧ b * shp n i ≤ 100 * b ∧ 0 ≤ b * shp n i / (10 * st i) ∧ b * shp n i / (10 * st i) ≤ 10 * b ∧ 0 ≤ b * lw 7 ∧ b * lw 7 ≤ 100 * b := by
  obtain ⟨g1, g2, g3⟩ := g
  obtain ⟨s1, s2, _⟩ := g3 i hi
  obtain ⟨q1, q2, _, _⟩ := shp_b g2 g1 hi
  obtain ⟨_, _, _, _, _, _, _, _, _, _, _, _, _, _, f1, f2⟩ := l
  have a1 : 0 ≤ b * shp n i := Int.mul_nonneg hb (by omega)
  have a2 : b * shp n i ≤ b * 100 := Int.mul_le_mul_of_nonneg_left q2 hb
  have a3 : 0 ≤ b * shp n i / (10 * st i) := Int.ediv_nonneg a1 (by omega)
  have a5 : b * 1 ≤ b * st i := Int.mul_le_mul_of_nonneg_left s1 hb
  have a4 : b * shp n i / (10 * st i) < 10 * b + 1 := by
    rw [dv_lt (by omega)]
    have e : (10 * b + 1) * (10 * st i) = 100 * (b * st i) + 10 * st i := by
      rw [Int.add_mul, Int.one_mul]
      have : 10 * b * (10 * st i) = 100 * (b * st i) := by
        rw [Int.mul_assoc, Int.mul_left_comm b 10 (st i)]; omega
      omega
    rw [e]
    omega
  have f3 : 0 ≤ b * lw 7 := Int.mul_nonneg hb f1
  have f4 : b * lw 7 ≤ b * 100 := Int.mul_le_mul_of_nonneg_left f2 hb
  unfold ldz
  by_cases q : i = 0 ∨ i = n - 1
  · rw [if_pos q]; omega
  · rw [if_neg q]; omega
theorem ld_m (g : brz n st sg su) (l : lwB lw) {i : Nat} (hi : i < n) {b b' : Int} (hb : b ≤ b') : ldz n (lw 7) st i b ≤ ldz n (lw 7) st i b' := by
  obtain ⟨g1, g2, g3⟩ := g
  obtain ⟨s1, s2, _⟩ := g3 i hi
  obtain ⟨q1, q2, _, _⟩ := shp_b g2 g1 hi
  obtain ⟨_, _, _, _, _, _, _, _, _, _, _, _, _, _, f1, f2⟩ := l
  have a1 : b * shp n i ≤ b' * shp n i := Int.mul_le_mul_of_nonneg_right hb (by omega)
  have a2 : b * shp n i / (10 * st i) ≤ b' * shp n i / (10 * st i) := Int.ediv_le_ediv (by omega) a1
  have a3 : b * lw 7 ≤ b' * lw 7 := Int.mul_le_mul_of_nonneg_right hb f1
  unfold ldz
  by_cases q : i = 0 ∨ i = n - 1
  · rw [if_pos q, if_pos q]; omega
  · rw [if_neg q, if_neg q]; omega
theorem rod_g (c : clz h r n st sg su lw) : (0 ≤ h 78 3 ∧ (h 78 3).toNat ∈ pv_l5) ∧ (h 78 3).toNat = r := by
  rw [c.1, tnc]
  exact ⟨⟨by omega, c.2.1⟩, rfl⟩
theorem law_g (c : clz h r n st sg su lw) : (0 ≤ h 78 4 ∧ (h 78 4).toNat ∈ pv_l2) ∧ (h 78 4).toNat = 23 := by
  rw [c.2.2.2.2.2.1]
  exact ⟨⟨by decide, by decide⟩, rfl⟩
theorem end_C (c : clz h r n st sg su lw) (h3 : 3 ≤ n) (h60 : n ≤ 60) {i : Nat} (hi : i < n) : fX1_isEnd N (i : Int) h = some (if i = 0 ∨ i = n - 1 then 1 else 0) := by
  obtain ⟨r1, r2⟩ := rod_g c
  unfold fX1_isEnd fX1_isEnd_17 fX1_isEnd_22
  by_cases q : i = 0
  · rw [if_pos (by omega), if_pos (Or.inr rfl), if_pos (Or.inl q)]
  · rw [if_neg (by omega), if_pos r1, bbs, r2, c.2.2.2.1, pv_w_id (by omega) (by omega)]
    by_cases q2 : i = n - 1
    · rw [if_pos (by omega), if_pos (Or.inr rfl), if_pos (Or.inr q2)]
    · rw [if_neg (by omega), if_pos (Or.inl rfl), if_neg (by omega)]
theorem load_C (g : brz n st sg su) (l : lwB lw) (c : clz h r n st sg su lw) {i : Nat} (hi : i < n) {b : Int} (hb : 0 ≤ b) (hb2 : b ≤ 10000000) : fX1_loadOf N (i : Int) b h = some (ldz n (lw 7) st i b) := by
  obtain ⟨r1, r2⟩ := rod_g c
  obtain ⟨l1, l2⟩ := law_g c
  obtain ⟨b1, b2, b3, b4, b5, b6, b7, b8⟩ := ld_b g l hi hb
  obtain ⟨g1, g2, g3⟩ := g
  obtain ⟨s1, s2, _⟩ := g3 i hi
  obtain ⟨k1, k2, k3, k4⟩ := c.2.2.2.2.1 i hi
  have e7 : h (23 + 1) 7 = lw 7 := c.2.2.2.2.2.2 7 (by omega)
  have em : max 1 (pv_w (10 * st i)) = 10 * st i := by rw [pv_w_id (by omega) (by omega)]; omega
  unfold fX1_loadOf fX1_loadOf_58
  rw [if_pos r1, bbs, if_pos (by omega), if_pos r1, bbs, if_pos (by omega), r2, tnc, k1, k4, em, if_pos (by omega), pv_w_id (x := b * shp n i) (by omega) (by omega), tdn b3, pv_w_id (x := b * shp n i / (10 * st i)) (by omega) (by omega), bbs, end_C c g1 g2 hi, c1s]
  unfold ldz at b1 b2 ⊢
  by_cases q : i = 0 ∨ i = n - 1
  · rw [if_pos q] at b1 b2 ⊢
    rw [if_pos q, if_neg (by omega), if_pos l1, bbs, l2, e7, pv_w_id (x := b * lw 7) (by omega) (by omega), tdn b7, pv_w_id (x := b * lw 7 / 100) (by omega) (by omega), pv_w_id (by omega) (by omega)]
  · rw [if_neg q, if_pos rfl, if_neg q, Int.add_zero]
theorem load_M (g : brz n st sg su) (l : lwB lw) (c : mlz h n st sg su lw) {i : Nat} (hi : i < n) {b : Int} (hb : 0 ≤ b) (hb2 : b ≤ 10000000) : fX10_loadBy N (i : Int) b h = some (ldz n (lw 7) st i b) := by
  obtain ⟨b1, b2, b3, b4, b5, b6, b7, b8⟩ := ld_b g l hi hb
  obtain ⟨g1, g2, g3⟩ := g
  obtain ⟨s1, s2, _⟩ := g3 i hi
  obtain ⟨m1, m2, m3⟩ := c
  obtain ⟨k1, k2, k3, k4⟩ := m2 i hi
  have e7 : h 2 1123 = lw 7 := m3 7 (by omega)
  unfold fX10_loadBy fX10_loadBy_32 fX10_loadBy_49
  rw [if_pos (by omega), if_pos (by omega), tnc, k1, k4, m1, e7, pv_w_id (x := 10 * st i) (by omega) (by omega), if_pos (by omega), pv_w_id (x := b * shp n i) (by omega) (by omega), tdn b3, pv_w_id (x := b * shp n i / (10 * st i)) (by omega) (by omega), pv_w_id (x := b * lw 7) (by omega) (by omega), tdn b7, pv_w_id (x := b * lw 7 / 100) (by omega) (by omega), pv_w_id (x := (n : Int) - 1) (by omega) (by omega)]
  unfold ldz at b1 b2 ⊢
  by_cases q : i = 0
  · rw [if_pos (Or.inl q)] at b1 b2 ⊢
    rw [if_pos (by omega), pv_w_id (by omega) (by omega)]
  · rw [if_neg (by omega)]
    by_cases q2 : i = n - 1
    · rw [if_pos (Or.inr q2)] at b1 b2 ⊢
      rw [if_pos (by omega), pv_w_id (by omega) (by omega)]
    · rw [if_neg (by omega)] at b1 b2 ⊢
      rw [if_neg (by omega), pv_w_id (by omega) (by omega)]
/-- the least BEND by which a cell's LOAD is above its STRENGTH -/
def lstz (n : Nat) (fg : Int) (st str : Nat → Int) (i : Nat) (H : Int) : Prop := 1 ≤ H ∧ H ≤ 3000000 ∧ ∀ b, 0 ≤ b → (b < H ↔ ldz n fg st i b ≤ str i)
theorem btb_l (g : brz n st sg su) (l : lwB lw) (c : clz h r n st sg su lw) {str : Nat → Int} (hs : ∀ i, i < n → h 92 i = str i) {i : Nat} (hi : i < n) : ∀ (f k : Nat) (low high : Int), k ≤ 32 → 32 < k + f → 1 ≤ low → low ≤ high → high ≤ 3000000 → high - low < (2 ^ (32 - k) : Nat) → (∀ b, 0 ≤ b → b < low → ldz n (lw 7) st i b ≤ str i) → str i < ldz n (lw 7) st i high → wpz (fX1_bendThatBreaks_71 N (i : Int) f high low (k : Int) h) (lstz n (lw 7) st str i) := by
  intro f
  induction f with
  | zero => intro k low high h1 h2; omega
  | succ f ih =>
    intro k low high h1 h2 h3 h4 h5 h6 h7 h8
    have fin : low = high → wpz (fX1_bendThatBreaks_126 N (i : Int) high h) (lstz n (lw 7) st str i) := by
      intro e
      refine wp_some.mpr ⟨by omega, h5, fun b hb => ⟨fun q => h7 b hb (by omega), fun q => ?_⟩⟩
      by_cases z : b < high
      · exact z
      · have := ld_m (st := st) g l hi (show high ≤ b by omega)
        omega
    rw [fX1_bendThatBreaks_71]
    by_cases q : 32 ≤ k
    · have : k = 32 := by omega
      subst this
      rw [if_pos (by omega)]
      refine fin ?_
      have e : ((2 ^ (32 - 32) : Nat) : Int) = 1 := rfl
      omega
    · rw [if_neg (by omega)]
      by_cases q2 : high ≤ low
      · rw [if_pos q2]
        exact fin (by omega)
      · have md : (low + high) / 2 < high := by omega
        have md1 : low ≤ (low + high) / 2 := by omega
        have e2 : (2 ^ (32 - k) : Nat) = 2 * 2 ^ (32 - (k + 1)) := by
          have : 32 - k = (32 - (k + 1)) + 1 := by omega
          rw [this, Nat.pow_succ, Nat.mul_comm]
        rw [e2] at h6
        rw [if_neg q2, pv_w_id (x := low + high) (by omega) (by omega), tdn (by omega), pv_w_id (x := (low + high) / 2) (by omega) (by omega), bbs, load_C g l c hi (by omega) (by omega), c1s, if_pos (by have := g.2.1; omega), tnc, hs i hi]
        unfold fX1_bendThatBreaks_120
        by_cases q3 : ldz n (lw 7) st i ((low + high) / 2) ≤ str i
        · rw [if_pos q3, bbs, bbs, pws (by omega), pv_w_id (by omega) (by omega)]
          refine ih (k + 1) _ _ (by omega) (by omega) (by omega) (by omega) h5 (by omega) (fun b hb hb2 => ?_) h8
          have := ld_m (st := st) g l hi (show b ≤ (low + high) / 2 by omega)
          omega
        · rw [if_neg q3, bbs, pws (by omega)]
          exact ih (k + 1) _ _ (by omega) (by omega) h3 (by omega) (by omega) (by omega) h7 (by omega)
theorem btb_C (hN : 100 ≤ N) (g : brz n st sg su) (l : lwB lw) (c : clz h r n st sg su lw) {str : Nat → Int} (hs : ∀ i, i < n → h 92 i = str i) (hs2 : ∀ i, i < n → 1 ≤ str i ∧ str i ≤ 999) {i : Nat} (hi : i < n) : wpz (fX1_bendThatBreaks N (i : Int) h) (lstz n (lw 7) st str i) := by
  obtain ⟨r1, r2⟩ := rod_g c
  obtain ⟨l1, l2⟩ := law_g c
  obtain ⟨g1, g2, g3⟩ := id g
  obtain ⟨s1, s2, _⟩ := g3 i hi
  obtain ⟨t1, t2⟩ := hs2 i hi
  obtain ⟨k1, k2, k3, k4⟩ := c.2.2.2.2.1 i hi
  obtain ⟨q1, q2, _, _⟩ := shp_b g2 g1 hi
  have e7 : h (23 + 1) 7 = lw 7 := c.2.2.2.2.2.2 7 (by omega)
  have em : max 1 (shp n i) = shp n i := by omega
  have a1 : (str i + 1) * 10 * st i ≤ 10000 * st i := Int.mul_le_mul_of_nonneg_right (by omega) (by omega)
  have a2 : 20 * st i ≤ (str i + 1) * 10 * st i := Int.mul_le_mul_of_nonneg_right (by omega) (by omega)
  obtain ⟨d1, d2, d3⟩ := cl_div (a := (str i + 1) * 10 * st i) (b := shp n i) q1 (by omega)
  have d4 : ((str i + 1) * 10 * st i + shp n i - 1) / shp n i ≤ (str i + 1) * 10 * st i + shp n i - 1 := Int.ediv_le_self _ (by omega)
  unfold fX1_bendThatBreaks fX1_bendThatBreaks_63
  rw [if_pos r1, bbs, r2, if_pos (by omega), tnc, k4, em, bbs, if_pos (by omega), if_pos ⟨r1.1, c.2.1⟩, bbs, if_pos (by omega), if_pos (by omega), hs i hi, k1, pv_w_id (x := str i + 1) (by omega) (by omega), pv_w_id (x := (str i + 1) * 10) (by omega) (by omega), pv_w_id (x := (str i + 1) * 10 * st i) (by omega) (by omega), pv_w_id (x := (str i + 1) * 10 * st i + shp n i) (by omega) (by omega), pv_w_id (x := (str i + 1) * 10 * st i + shp n i - 1) (by omega) (by omega), tdn (by omega), pv_w_id (x := ((str i + 1) * 10 * st i + shp n i - 1) / shp n i) (by omega) (by omega), bbs, end_C c g1 g2 hi, c1s]
  generalize hH : ((str i + 1) * 10 * st i + shp n i - 1) / shp n i = H at *
  have core : ∀ b, 0 ≤ b → (b < H ↔ b * shp n i / (10 * st i) ≤ str i) := by
    intro b hb
    have e1 : b * shp n i / (10 * st i) ≤ str i ↔ b * shp n i / (10 * st i) < str i + 1 := by omega
    rw [e1, dv_lt (by omega), ← Int.mul_assoc]
    constructor
    · intro q
      have h1 : shp n i * b ≤ shp n i * (H - 1) := Int.mul_le_mul_of_nonneg_left (by omega) (by omega)
      rw [Int.mul_sub, Int.mul_one] at h1
      rw [Int.mul_comm b]
      omega
    · intro q
      refine Int.lt_of_mul_lt_mul_left (a := shp n i) ?_ (by omega)
      rw [Int.mul_comm] at q
      omega
  by_cases q : i = 0 ∨ i = n - 1
  · rw [if_pos q, if_neg (by omega), if_pos l1, bbs, l2, e7]
    by_cases f0 : lw 7 = 0
    · rw [if_pos f0]
      refine wp_some.mpr ⟨d1, by omega, fun b hb => ?_⟩
      unfold ldz
      rw [if_pos q, f0, Int.mul_zero, Int.zero_ediv, Int.add_zero]
      exact core b hb
    · rw [if_neg f0]
      have l0 := ld_b (st := st) (sg := sg) (su := su) g l hi (show 0 ≤ H by omega)
      refine btb_l g l c hs hi N 0 1 H (by omega) (by omega) (by omega) d1 (by omega) ?_ (fun b hb hb2 => ?_) ?_
      · have e : ((2 ^ (32 - 0) : Nat) : Int) = 4294967296 := rfl
        omega
      · have : b = 0 := by omega
        subst this
        have := ld_b (st := st) (sg := sg) (su := su) g l hi (show (0 : Int) ≤ 0 by omega)
        omega
      · have nn : ¬ H * shp n i / (10 * st i) ≤ str i := fun z => by have := (core H (by omega)).mpr z; omega
        unfold ldz
        rw [if_pos q]
        have := l0.2.2.2.2.2.2
        omega
  · rw [if_neg q, if_pos rfl]
    refine wp_some.mpr ⟨d1, by omega, fun b hb => ?_⟩
    unfold ldz
    rw [if_neg q, Int.add_zero]
    exact core b hb
/-- the least BEND at which a ROD breaks, for all BENDS that can be -/
def Lz (n : Nat) (fg : Int) (st str : Nat → Int) (L : Int) : Prop := 1 ≤ L ∧ L ≤ 3000000 ∧ ∀ b, 0 ≤ b → (b < L ↔ ∀ i, i < n → ldz n fg st i b ≤ str i)
theorem clz.frm {h' : pv_H} (c : clz h r n st sg su lw) (f : ∀ x y, ¬ (x = 78 ∧ y ≠ 3 ∧ y ≠ 4) → ¬ (79 ≤ x ∧ x ≤ 98) → h' x y = h x y) : clz h' r n st sg su lw := by
  obtain ⟨c1, c2, c3, c4, c5, c6, c7⟩ := c
  have hr : r ≠ 78 := by omega
  have q : ∀ j, j ≤ 5 → ¬ (79 ≤ r + j ∧ r + j ≤ 98) ∧ r + j ≠ 78 := by
    intro j hj
    have : r = 2 ∨ r = 35 ∨ r = 41 ∨ r = 47 ∨ r = 53 ∨ r = 84 ∨ r = 99 ∨ r = 121 ∨ r = 127 ∨ r = 133 ∨ r = 139 ∨ r = 176 ∨ r = 182 ∨ r = 188 ∨ r = 194 := by
      have := c2
      unfold pv_l5 at this
      simpa using this
    omega
  have q0 := q 0 (by omega)
  rw [Nat.add_zero] at q0
  refine ⟨by rw [f _ _ (by omega) (by omega)]; exact c1, c2, c3, by rw [f _ _ (by omega) (by omega)]; exact c4, fun i hi => ?_, by rw [f _ _ (by omega) (by omega)]; exact c6, fun j hj => by rw [f _ _ (by omega) (by omega)]; exact c7 j hj⟩
  have q1 := q 1 (by omega)
  have q2 := q 2 (by omega)
  have q4 := q 4 (by omega)
  have q5 := q 5 (by omega)
  rw [f _ _ (by omega) (by omega), f _ _ (by omega) (by omega), f _ _ (by omega) (by omega), f _ _ (by omega) (by omega)]
  exact c5 i hi
theorem take_l (hN : 100 ≤ N) (g : brz n st sg su) (l : lwB lw) {a2 : Nat} {a3 : Int} (hr : r < 78 ∨ 98 < r) {h0 : pv_H} (c : clz h0 r n st sg su lw) {str : Nat → Int} (hs : ∀ i, i < n → h0 92 i = str i) (hs2 : ∀ i, i < n → 1 ≤ str i ∧ str i ≤ 999) : ∀ (f k : Nat) (h : pv_H), k ≤ n → n < k + f → (∀ x y, ¬ (x = 78 ∧ y = 5) → h x y = h0 x y) → (k = 0 ∧ h 78 5 = 2147483647 ∨ 1 ≤ h 78 5 ∧ h 78 5 ≤ 3000000 ∧ ∀ b, 0 ≤ b → (b < h 78 5 ↔ ∀ i, i < k → ldz n (lw 7) st i b ≤ str i)) → wpz (fX1_take_51 N r a2 a3 f (k : Int) h) fun h' => (∀ x y, ¬ (x = 78 ∧ y = 5) → h' x y = h0 x y) ∧ Lz n (lw 7) st str (h' 78 5) := by
  intro f
  induction f with
  | zero => intro k h h1 h2; omega
  | succ f ih =>
    intro k h h1 h2 hf hI
    have c' : clz h r n st sg su lw := c.frm (fun x y n1 n2 => hf x y (by omega))
    have e0 : h r 0 = (n : Int) := c'.2.2.2.1
    rw [fX1_take_51, e0]
    by_cases q : n ≤ k
    · rw [if_pos (by omega)]
      have : k = n := by omega
      subst this
      refine wp_some.mpr ⟨hf, ?_⟩
      have := g.1
      rcases hI with ⟨z, _⟩ | z
      · omega
      · exact z
    · rw [if_neg (by omega)]
      refine wp_c1I (btb_C hN g l c' (str := str) (fun i hi => by rw [hf _ _ (by omega)]; exact hs i hi) hs2 (show k < n by omega)) ?_
      rintro H ⟨H1, H2, H3⟩
      rw [bbs, bbs, pws (by have := g.2.1; omega)]
      refine ih (k + 1) _ (by omega) (by omega) (fun x y np => ?_) (Or.inr ?_)
      · rw [pv_up_ne (by omega)]
        exact hf x y np
      · rw [pv_up_self]
        rcases hI with ⟨z1, z2⟩ | ⟨z1, z2, z3⟩
        · have e : min (h 78 5) H = H := by omega
          rw [e]
          refine ⟨H1, H2, fun b hb => ?_⟩
          rw [H3 b hb]
          subst z1
          constructor
          · intro q i hi
            have : i = 0 := by omega
            subst this
            exact q
          · intro q
            exact q 0 (by omega)
        · refine ⟨by omega, by omega, fun b hb => ?_⟩
          have e : b < min (h 78 5) H ↔ b < h 78 5 ∧ b < H := by omega
          rw [e, z3 b hb, H3 b hb]
          constructor
          · rintro ⟨q1, q2⟩ i hi
            by_cases e : i = k
            · subst e; exact q2
            · exact q1 i (by omega)
          · intro q
            exact ⟨fun i hi => q i (by omega), q k (by omega)⟩
/-! the reference -/
theorem bof_l (g : brz n st sg su) (l : lwB lw) (c : mlz h n st sg su lw) {str : Nat → Int} (hs : ∀ i, i < n → h 11 i = str i) {i : Nat} (hi : i < n) {G : Int} (eG : h 0 30 = G) (G2 : G ≤ 237600) : ∀ (f d : Nat) (low : Int), d < 2 ^ f → 0 ≤ low → low + d ≤ G + 1 → (∀ b, 0 ≤ b → b < low → ldz n (lw 7) st i b ≤ str i) → (low + d = G + 1 ∨ str i < ldz n (lw 7) st i (low + d)) → wpz (fX10_bendOf_9 N (i : Int) (f + 1) low (low + d) h) fun H => 0 ≤ H ∧ H ≤ G + 1 ∧ ∀ b, 0 ≤ b → b ≤ G → (b < H ↔ ldz n (lw 7) st i b ≤ str i) := by
  intro f
  induction f with
  | zero =>
    intro d low h1 h2 h3 h4 h5
    have : d = 0 := by omega
    subst this
    rw [fX10_bendOf_9, if_pos (by omega)]
    refine wp_some.mpr ⟨h2, by omega, fun b hb hb2 => ⟨fun q => h4 b hb q, fun q => ?_⟩⟩
    rcases h5 with h5 | h5
    · omega
    · by_cases z : b < low
      · exact z
      · have e : low + ((0 : Nat) : Int) = low := by omega
        rw [e] at h5
        have := ld_m (st := st) g l hi (show low ≤ b by omega)
        omega
  | succ f ih =>
    intro d low h1 h2 h3 h4 h5
    rw [Nat.pow_succ] at h1
    rw [fX10_bendOf_9]
    by_cases q : d = 0
    · subst q
      rw [if_pos (by omega)]
      refine wp_some.mpr ⟨h2, by omega, fun b hb hb2 => ⟨fun q => h4 b hb q, fun q => ?_⟩⟩
      rcases h5 with h5 | h5
      · omega
      · by_cases z : b < low
        · exact z
        · have e : low + ((0 : Nat) : Int) = low := by omega
          rw [e] at h5
          have := ld_m (st := st) g l hi (show low ≤ b by omega)
          omega
    · have em : (low + (low + (d : Int))) / 2 = low + ((d / 2 : Nat) : Int) := by omega
      rw [if_neg (by omega), pv_w_id (x := low + (low + (d : Int))) (by omega) (by omega), tdn (by omega), em, pv_w_id (x := low + ((d / 2 : Nat) : Int)) (by omega) (by omega), bbs, eG]
      unfold fX10_bendOf_54 fX10_bendOf_57
      by_cases q2 : G < low + ((d / 2 : Nat) : Int)
      · omega
      · rw [if_neg q2, load_M g l c hi (by omega) (by omega), c1s, if_pos (by have := g.2.1; omega), tnc, hs i hi]
        by_cases q3 : str i < ldz n (lw 7) st i (low + ((d / 2 : Nat) : Int))
        · rw [if_pos q3]
          exact ih (d / 2) low (by omega) h2 (by omega) h4 (Or.inr q3)
        · rw [if_neg q3, bbs, pv_w_id (by omega) (by omega)]
          have e2 : low + (d : Int) = low + ((d / 2 : Nat) : Int) + 1 + ((d - d / 2 - 1 : Nat) : Int) := by omega
          rw [e2]
          refine ih (d - d / 2 - 1) _ (by omega) (by omega) (by omega) (fun b hb hb2 => ?_) (by rw [← e2]; exact h5)
          have := ld_m (st := st) g l hi (show b ≤ low + ((d / 2 : Nat) : Int) by omega)
          omega
theorem bof_M (hN : 100 ≤ N) (g : brz n st sg su) (l : lwB lw) (c : mlz h n st sg su lw) {str : Nat → Int} (hs : ∀ i, i < n → h 11 i = str i) {i : Nat} (hi : i < n) (G1 : 0 ≤ h 0 30) (G2 : h 0 30 ≤ 237600) : wpz (fX10_bendOf N (i : Int) h) fun H => 0 ≤ H ∧ H ≤ h 0 30 + 1 ∧ ∀ b, 0 ≤ b → b ≤ h 0 30 → (b < H ↔ ldz n (lw 7) st i b ≤ str i) := by
  obtain ⟨d, hd⟩ := Int.eq_ofNat_of_zero_le (show 0 ≤ h 0 30 + 1 by omega)
  obtain ⟨M, rfl⟩ : ∃ M, N = M + 1 := ⟨N - 1, by omega⟩
  have p30 : 2 ^ 30 ≤ 2 ^ M := Nat.pow_le_pow_right (by omega) (by omega)
  have e30 : (2 : Nat) ^ 30 = 1073741824 := rfl
  have := bof_l (N := M + 1) g l c hs hi rfl G2 M d 0 (by omega) (by omega) (by omega) (fun b hb hb2 => by omega) (Or.inl (by omega))
  unfold fX10_bendOf
  rw [bbs, pv_w_id (by omega) (by omega)]
  have e : (0 : Int) + (d : Int) = h 0 30 + 1 := by omega
  rw [e] at this
  exact this
/-- the first TICK, by the reference -/
theorem fst_M (hN : 5000 ≤ N) (g : brz n st sg su) (l : lwB lw) (c : mlz h n st sg su lw) {str : Nat → Int} (hs : ∀ i, i < n → h 11 i = str i) (G1 : 0 ≤ h 0 30) (G2 : h 0 30 ≤ 237600) {last : Nat} (e29 : h 0 29 = (last : Int)) (hl : last ≤ 4000) {bd : Nat → Int} (hb : ∀ t, t < last → h 12 t = bd t ∧ 0 ≤ bd t ∧ bd t ≤ h 0 30) {L : Int} (hL : Lz n (lw 7) st str L) : wpz (fX10_firstTick N h) fun T => ∃ t : Nat, T = (t : Int) ∧ t ≤ last ∧ (∀ k, k < t → bd k < L) ∧ (t < last → L ≤ bd t) := by
  have scan : ∀ v : Int, (∀ b, 0 ≤ b → b ≤ h 0 30 → (b < v ↔ b < L)) → ∀ (f t : Nat), t ≤ last → last < t + f → (∀ k, k < t → bd k < L) → wpz (fX10_firstTick_42 N f v (t : Int) h) fun T => ∃ t : Nat, T = (t : Int) ∧ t ≤ last ∧ (∀ k, k < t → bd k < L) ∧ (t < last → L ≤ bd t) := by
    intro v hv f
    induction f with
    | zero => intro t h1 h2; omega
    | succ f ih =>
      intro t h1 h2 h3
      rw [fX10_firstTick_42, e29]
      unfold fX10_firstTick_66
      by_cases q : last ≤ t
      · rw [if_pos (by omega)]
        exact wp_some.mpr ⟨t, rfl, h1, h3, fun z => by omega⟩
      · obtain ⟨b1, b2, b3⟩ := hb t (by omega)
        have := hv (bd t) b2 b3
        rw [if_neg (by omega), if_pos (by omega), tnc, b1]
        by_cases q2 : v ≤ bd t
        · rw [if_pos q2]
          exact wp_some.mpr ⟨t, rfl, h1, h3, fun z => by omega⟩
        · rw [if_neg q2, bbs, pws (by omega)]
          refine ih (t + 1) (by omega) (by omega) (fun k hk => ?_)
          by_cases e : k = t
          · subst e; omega
          · exact h3 k (by omega)
  have outer : ∀ (f i : Nat) (v : Int), i ≤ n → n < i + f → 0 ≤ v → v ≤ h 0 30 + 1 → (∀ b, 0 ≤ b → b ≤ h 0 30 → (b < v ↔ ∀ j, j < i → ldz n (lw 7) st j b ≤ str j)) → wpz (fX10_firstTick_9 N f v (i : Int) h) fun T => ∃ t : Nat, T = (t : Int) ∧ t ≤ last ∧ (∀ k, k < t → bd k < L) ∧ (t < last → L ≤ bd t) := by
    intro f
    induction f with
    | zero => intro i v h1 h2; omega
    | succ f ih =>
      intro i v h1 h2 h3 h4 h5
      rw [fX10_firstTick_9, c.1]
      by_cases q : n ≤ i
      · rw [if_pos (by omega)]
        have : i = n := by omega
        subst this
        refine scan v (fun b hb hb2 => ?_) N 0 (by omega) (by omega) (fun k hk => absurd hk (Nat.not_lt_zero k))
        rw [h5 b hb hb2, hL.2.2 b hb]
      · rw [if_neg (by omega)]
        refine wp_c1I (bof_M (by omega) g l c hs (show i < n by omega) G1 G2) ?_
        rintro H ⟨H1, H2, H3⟩
        have nx : ∀ b, 0 ≤ b → b ≤ h 0 30 → (b < min v H ↔ ∀ j, j < i + 1 → ldz n (lw 7) st j b ≤ str j) := by
          intro b hb hb2
          have e : b < min v H ↔ b < v ∧ b < H := by omega
          rw [e, h5 b hb hb2, H3 b hb hb2]
          constructor
          · rintro ⟨q1, q2⟩ j hj
            by_cases e : j = i
            · subst e; exact q2
            · exact q1 j (by omega)
          · intro q
            exact ⟨fun j hj => q j (by omega), q i (by omega)⟩
        have n60 := g.2.1
        unfold fX10_firstTick_33
        by_cases q2 : v ≤ H
        · rw [if_pos q2, bbs, pws (by omega)]
          have e : min v H = v := by omega
          rw [e] at nx
          exact ih (i + 1) v (by omega) (by omega) h3 h4 nx
        · rw [if_neg q2, bbs, pws (by omega)]
          have e : min v H = H := by omega
          rw [e] at nx
          exact ih (i + 1) H (by omega) (by omega) (by omega) (by omega) nx
  unfold fX10_firstTick
  rw [bbs, pv_w_id (by omega) (by omega)]
  have n60 := g.2.1
  refine outer N 0 (h 0 30 + 1) (by omega) (by omega) (by omega) (by omega) (fun b hb hb2 => ⟨fun _ j hj => absurd hj (Nat.not_lt_zero j), fun _ => by omega⟩)
end LD
