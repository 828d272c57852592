/-! calls: image, restore, feed -/
theorem pr_eq {h : pv_H} {i a b : Nat} {f : Nat → Int} (q : a = i) : pv_ur h i f a b = f b := by subst q; rw [pv_ur_self]
theorem pr_n2 {h : pv_H} {i a b : Nat} {f : Nat → Int} (q : a ≠ i) : pv_ur h i f a b = h a b := by rw [pv_ur_ne q]
theorem cp_k {f g : Nat → Int} {n k : Nat} {z1 z2 n' : Int} (e1 : z1 = 0) (e2 : z2 = 0) (e3 : n' = (n : Int)) (h : k < n) : pv_cp f g (Int.toNat z1) (Int.toNat z2) (Int.toNat n') k = f k := by
  subst e1; subst e2; subst e3
  simp [pv_cp, h]
section COPY
variable {N tt a : Nat} {h : pv_H}
theorem cp5 (d : tt + 6 ≤ a ∨ a + 6 ≤ tt) : wpz (fX5_copyFrom N tt a h) fun h' => (∀ x y, ¬ (tt ≤ x ∧ x < tt + 6) → h' x y = h x y) ∧ ∀ j k, (j = 0 ∧ k < 2 ∨ 1 ≤ j ∧ j ≤ 5 ∧ k < 60) → h' (tt + j) k = h (a + j) k := by
  unfold fX5_copyFrom
  simp only [bbs]
  refine wp_some.mpr ⟨fun x y n => ?_, fun j k q => ?_⟩
  · simp (disch := omega) only [pr_n2, pu_ne]
  · have : j = 0 ∧ k = 0 ∨ j = 0 ∧ k = 1 ∨ j = 1 ∧ k < 60 ∨ j = 2 ∧ k < 60 ∨ j = 3 ∧ k < 60 ∨ j = 4 ∧ k < 60 ∨ j = 5 ∧ k < 60 := by omega
    rcases this with ⟨rfl, rfl⟩ | ⟨rfl, rfl⟩ | ⟨rfl, z⟩ | ⟨rfl, z⟩ | ⟨rfl, z⟩ | ⟨rfl, z⟩ | ⟨rfl, z⟩
    · simp (disch := omega) only [pr_n2, pu_ne, pu_eq]; rfl
    · simp (disch := omega) only [pr_n2, pu_ne, pu_eq]; rfl
    · simp (disch := omega) only [pr_n2, pu_ne, pr_eq, cp_k (n := 60)]
    · simp (disch := omega) only [pr_n2, pu_ne, pr_eq, cp_k (n := 60)]
    · simp (disch := omega) only [pr_n2, pu_ne, pr_eq, cp_k (n := 60)]
    · simp (disch := omega) only [pr_n2, pu_ne, pr_eq, cp_k (n := 60)]
    · simp (disch := omega) only [pr_n2, pu_ne, pr_eq, cp_k (n := 60)]
theorem cp0 (d : tt + 4 ≤ a ∨ a + 4 ≤ tt) : wpz (fX0_copyFrom N tt a h) fun h' => (∀ x y, ¬ (tt ≤ x ∧ x < tt + 4) → h' x y = h x y) ∧ ∀ j k, (j = 0 ∧ k = 0 ∨ 1 ≤ j ∧ j ≤ 3 ∧ k < 12) → h' (tt + j) k = h (a + j) k := by
  unfold fX0_copyFrom
  simp only [bbs]
  refine wp_some.mpr ⟨fun x y n => ?_, fun j k q => ?_⟩
  · simp (disch := omega) only [pr_n2, pu_ne]
  · have : j = 0 ∧ k = 0 ∨ j = 1 ∧ k < 12 ∨ j = 2 ∧ k < 12 ∨ j = 3 ∧ k < 12 := by omega
    rcases this with ⟨rfl, rfl⟩ | ⟨rfl, z⟩ | ⟨rfl, z⟩ | ⟨rfl, z⟩
    · simp (disch := omega) only [pr_n2, pu_ne, pu_eq]; rfl
    · simp (disch := omega) only [pr_n2, pu_ne, pr_eq, cp_k (n := 12)]
    · simp (disch := omega) only [pr_n2, pu_ne, pr_eq, cp_k (n := 12)]
    · simp (disch := omega) only [pr_n2, pu_ne, pr_eq, cp_k (n := 12)]
theorem cp2 (d : tt + 2 ≤ a ∨ a + 2 ≤ tt) : wpz (fX2_copyFrom N tt a h) fun h' => (∀ x y, ¬ (tt ≤ x ∧ x < tt + 2) → h' x y = h x y) ∧ ∀ j k, (j = 0 ∧ k = 0 ∨ j = 1 ∧ k < 8) → h' (tt + j) k = h (a + j) k := by
  unfold fX2_copyFrom
  simp only [bbs]
  refine wp_some.mpr ⟨fun x y n => ?_, fun j k q => ?_⟩
  · simp (disch := omega) only [pr_n2, pu_ne]
  · rcases q with ⟨rfl, rfl⟩ | ⟨rfl, z⟩
    · simp (disch := omega) only [pr_n2, pu_ne, pu_eq]; rfl
    · simp (disch := omega) only [pr_n2, pu_ne, pr_eq, cp_k (n := 8)]
theorem cp3 (d : tt + 5 ≤ a ∨ a + 5 ≤ tt) : wpz (fX3_copyFrom N tt a h) fun h' => (∀ x y, ¬ (tt ≤ x ∧ x < tt + 4) → h' x y = h x y) ∧ ∀ j k, (j = 0 ∧ k = 0 ∨ j = 1 ∧ k < 9 ∨ j = 2 ∧ k < 400 ∨ j = 3 ∧ k < 400) → h' (tt + j) k = h (a + j) k := by
  unfold fX3_copyFrom
  simp only [bbs]
  refine wp_some.mpr ⟨fun x y n => ?_, fun j k q => ?_⟩
  · simp (disch := omega) only [pr_n2, pu_ne]
  · rcases q with ⟨rfl, rfl⟩ | ⟨rfl, z⟩ | ⟨rfl, z⟩ | ⟨rfl, z⟩
    · simp (disch := omega) only [pr_n2, pu_ne, pu_eq]; rfl
    · simp (disch := omega) only [pr_n2, pu_ne, pr_eq, cp_k (n := 9)]
    · simp (disch := omega) only [pr_n2, pu_ne, pr_eq, cp_k (n := 400)]
    · simp (disch := omega) only [pr_n2, pu_ne, pr_eq, cp_k (n := 400)]
theorem cp7 (d : tt + 5 ≤ a ∨ a + 5 ≤ tt) : wpz (fX7_copyFrom N tt a h) fun h' => (∀ x y, ¬ (tt ≤ x ∧ x < tt + 5) → h' x y = h x y) ∧ ∀ j k, (j = 0 ∧ k = 0 ∨ j = 1 ∧ k < 8 ∨ j = 2 ∧ k < 240 ∨ j = 3 ∧ k < 1200 ∨ j = 4 ∧ k < 60) → h' (tt + j) k = h (a + j) k := by
  unfold fX7_copyFrom
  simp only [bbs]
  refine wp_some.mpr ⟨fun x y n => ?_, fun j k q => ?_⟩
  · simp (disch := omega) only [pr_n2, pu_ne]
  · rcases q with ⟨rfl, rfl⟩ | ⟨rfl, z⟩ | ⟨rfl, z⟩ | ⟨rfl, z⟩ | ⟨rfl, z⟩
    · simp (disch := omega) only [pr_n2, pu_ne, pu_eq]; rfl
    · simp (disch := omega) only [pr_n2, pu_ne, pr_eq, cp_k (n := 8)]
    · simp (disch := omega) only [pr_n2, pu_ne, pr_eq, cp_k (n := 240)]
    · simp (disch := omega) only [pr_n2, pu_ne, pr_eq, cp_k (n := 1200)]
    · simp (disch := omega) only [pr_n2, pu_ne, pr_eq, cp_k (n := 60)]
theorem cp8b {h0 : pv_H} (d : tt + 55 ≤ a ∨ a + 55 ≤ tt) (hN : 10 ≤ N) {Q : pv_H → Prop} (k : ∀ h', (∀ x y, ¬ (tt + 39 ≤ x ∧ x < tt + 55 ∨ tt + 3 ≤ x ∧ x < tt + 15) → h' x y = h0 x y) → (∀ r j k, r < 4 → (j = 0 ∧ k = 0 ∨ 1 ≤ j ∧ j ≤ 3 ∧ k < 12) → h' (tt + 39 + 4 * r + j) k = h0 (a + 39 + 4 * r + j) k) → (∀ j k, (j = 0 ∧ k = 0 ∨ j = 1 ∧ k < 8) → h' (tt + 3 + j) k = h0 (a + 3 + j) k) → (∀ j k, (j = 0 ∧ k = 0 ∨ j = 1 ∧ k < 9 ∨ j = 2 ∧ k < 400 ∨ j = 3 ∧ k < 400) → h' (tt + 5 + j) k = h0 (a + 5 + j) k) → (∀ j k, (j = 0 ∧ k = 0 ∨ j = 1 ∧ k < 8 ∨ j = 2 ∧ k < 240 ∨ j = 3 ∧ k < 1200 ∨ j = 4 ∧ k < 60) → h' (tt + 10 + j) k = h0 (a + 10 + j) k) → Q h') : ∀ (f i : Nat) (h : pv_H), i ≤ 4 → 4 < i + f → (∀ x y, ¬ (tt + 39 ≤ x ∧ x < tt + 55) → h x y = h0 x y) → (∀ r j k, r < i → (j = 0 ∧ k = 0 ∨ 1 ≤ j ∧ j ≤ 3 ∧ k < 12) → h (tt + 39 + 4 * r + j) k = h0 (a + 39 + 4 * r + j) k) → wpz (fX8_copyFrom_38 N tt a f (i : Int) h) Q := by
  intro f
  induction f with
  | zero => intro i h h1 h2; omega
  | succ f ih =>
    intro i h h1 h2 h3 h4
    rw [fX8_copyFrom_38]
    by_cases q : 4 ≤ i
    · rw [if_pos (by omega)]
      refine wp_c1I (cp2 (by omega)) (fun ha ⟨a1, a2⟩ => wp_c1I (cp3 (by omega)) (fun hb ⟨b1, b2⟩ => wp_c1I (cp7 (by omega)) (fun hd ⟨d1, d2⟩ => wp_some.mpr (k _ ?_ ?_ ?_ ?_ ?_))))
      · intro x y n
        rw [d1 _ _ (by omega), b1 _ _ (by omega), a1 _ _ (by omega), h3 _ _ (by omega)]
      · intro r j k hr hq
        rw [d1 _ _ (by omega), b1 _ _ (by omega), a1 _ _ (by omega), h4 _ _ _ (by omega) hq]
      · intro j k hq
        rw [d1 _ _ (by omega), b1 _ _ (by omega), a2 _ _ hq, h3 _ _ (by omega)]
      · intro j k hq
        rw [d1 _ _ (by omega), b2 _ _ hq, a1 _ _ (by omega), h3 _ _ (by omega)]
      · intro j k hq
        rw [d2 _ _ hq, b1 _ _ (by omega), a1 _ _ (by omega), h3 _ _ (by omega)]
    · rw [if_neg (by omega), if_pos (by omega), bbs, if_pos (by omega), bbs, tnc]
      refine wp_c1I (cp0 (by omega)) (fun ha ⟨a1, a2⟩ => ?_)
      rw [bbs, pws (by omega)]
      refine ih (i + 1) ha (by omega) (by omega) (fun x y n => ?_) (fun r j k hr hq => ?_)
      · rw [a1 _ _ (by omega), h3 _ _ n]
      · by_cases e : r = i
        · subst e
          rw [a2 _ _ hq, h3 _ _ (by omega)]
        · rw [a1 _ _ (by omega), h4 _ _ _ (by omega) hq]
theorem cp8 (d : tt + 55 ≤ a ∨ a + 55 ≤ tt) (hN : 10 ≤ N) (h01 : h a 1 = 0 ∨ h a 1 = 1) : wpz (fX8_copyFrom N tt a h) fun h' => (∀ x y, ¬ (tt ≤ x ∧ x < tt + 55) → h' x y = h x y) ∧ h' tt 0 = h tt 0 ∧ ∀ d k, relz d k → h' (tt + d) k = h (a + d) k := by
  unfold fX8_copyFrom
  rw [if_pos h01, bbs]
  have l : ∀ (f i : Nat) (g : pv_H), i ≤ 4 → 4 < i + f → (∀ x y, ¬ (tt + 15 ≤ x ∧ x < tt + 39) → g x y = pv_up h tt 1 (h a 1) x y) → (∀ r j k, r < i → (j = 0 ∧ k < 2 ∨ 1 ≤ j ∧ j ≤ 5 ∧ k < 60) → g (tt + 15 + 6 * r + j) k = h (a + 15 + 6 * r + j) k) → wpz (fX8_copyFrom_10 N tt a f (i : Int) g) fun h' => (∀ x y, ¬ (tt ≤ x ∧ x < tt + 55) → h' x y = h x y) ∧ h' tt 0 = h tt 0 ∧ ∀ d k, relz d k → h' (tt + d) k = h (a + d) k := by
    intro f
    induction f with
    | zero => intro i g h1 h2; omega
    | succ f ih =>
      intro i g h1 h2 h3 h4
      rw [fX8_copyFrom_10]
      by_cases q : 4 ≤ i
      · rw [if_pos (by omega)]
        refine cp8b (h0 := g) d hN (fun h' c1 c2 c3 c4 c5 => ⟨?_, ?_, ?_⟩) N 0 g (by omega) (by omega) (fun x y n => rfl) (fun r j k hr => absurd hr (Nat.not_lt_zero r))
        · intro x y n
          rw [c1 _ _ (by omega), h3 _ _ (by omega), pv_up_ne (by omega)]
        · rw [c1 _ _ (by omega), h3 _ _ (by omega), pv_up_ne (by omega)]
        · have a0 : ∀ x y, (a ≤ x ∧ x < a + 15 ∨ a + 39 ≤ x ∧ x < a + 55) → g x y = h x y := fun x y n => by
            rw [h3 _ _ (by omega), pv_up_ne (by omega)]
          intro d k hr
          have hlt := rel_lt hr
          rcases hr with ⟨rfl, rfl⟩ | ⟨rfl, rfl⟩ | ⟨rfl, z⟩ | ⟨rfl, rfl⟩ | ⟨rfl, z⟩ | ⟨z1, z⟩ | ⟨rfl, rfl⟩ | ⟨rfl, z⟩ | ⟨rfl, z⟩ | ⟨rfl, z⟩ | ⟨rfl, z⟩ | ⟨z1, z2, z⟩ | ⟨z1, z2, z⟩
          · rw [c1 _ _ (by omega), h3 _ _ (by omega)]
            exact pv_up_self _ _ _ _
          · have := c3 0 0 (by omega)
            rw [Nat.add_zero, Nat.add_zero] at this
            rw [this, a0 _ _ (by omega)]
          · have := c3 1 k (by omega)
            have e1 : tt + 3 + 1 = tt + 4 := rfl
            have e2 : a + 3 + 1 = a + 4 := rfl
            rw [e1, e2] at this
            rw [this, a0 _ _ (by omega)]
          · have := c4 0 0 (by omega)
            rw [Nat.add_zero, Nat.add_zero] at this
            rw [this, a0 _ _ (by omega)]
          · have := c4 1 k (by omega)
            have e1 : tt + 5 + 1 = tt + 6 := rfl
            have e2 : a + 5 + 1 = a + 6 := rfl
            rw [e1, e2] at this
            rw [this, a0 _ _ (by omega)]
          · have := c4 (d - 5) k (by omega)
            have e1 : tt + 5 + (d - 5) = tt + d := by omega
            have e2 : a + 5 + (d - 5) = a + d := by omega
            rw [e1, e2] at this
            rw [this, a0 _ _ (by omega)]
          · have := c5 0 0 (by omega)
            rw [Nat.add_zero, Nat.add_zero] at this
            rw [this, a0 _ _ (by omega)]
          · have := c5 1 k (by omega)
            have e1 : tt + 10 + 1 = tt + 11 := rfl
            have e2 : a + 10 + 1 = a + 11 := rfl
            rw [e1, e2] at this
            rw [this, a0 _ _ (by omega)]
          · have := c5 2 k (by omega)
            have e1 : tt + 10 + 2 = tt + 12 := rfl
            have e2 : a + 10 + 2 = a + 12 := rfl
            rw [e1, e2] at this
            rw [this, a0 _ _ (by omega)]
          · have := c5 3 k (by omega)
            have e1 : tt + 10 + 3 = tt + 13 := rfl
            have e2 : a + 10 + 3 = a + 13 := rfl
            rw [e1, e2] at this
            rw [this, a0 _ _ (by omega)]
          · have := c5 4 k (by omega)
            have e1 : tt + 10 + 4 = tt + 14 := rfl
            have e2 : a + 10 + 4 = a + 14 := rfl
            rw [e1, e2] at this
            rw [this, a0 _ _ (by omega)]
          · have := h4 ((d - 15) / 6) ((d - 15) % 6) k (by omega) (by omega)
            have e1 : tt + 15 + 6 * ((d - 15) / 6) + (d - 15) % 6 = tt + d := by omega
            have e2 : a + 15 + 6 * ((d - 15) / 6) + (d - 15) % 6 = a + d := by omega
            rw [e1, e2] at this
            rw [c1 _ _ (by omega), this]
          · have := c2 ((d - 39) / 4) ((d - 39) % 4) k (by omega) (by omega)
            have e1 : tt + 39 + 4 * ((d - 39) / 4) + (d - 39) % 4 = tt + d := by omega
            have e2 : a + 39 + 4 * ((d - 39) / 4) + (d - 39) % 4 = a + d := by omega
            rw [e1, e2] at this
            rw [this, a0 _ _ (by omega)]
      · rw [if_neg (by omega), if_pos (by omega), bbs, if_pos (by omega), bbs, tnc]
        refine wp_c1I (cp5 (by omega)) (fun ha ⟨a1, a2⟩ => ?_)
        rw [bbs, pws (by omega)]
        refine ih (i + 1) ha (by omega) (by omega) (fun x y n => ?_) (fun r j k hr hq => ?_)
        · rw [a1 _ _ (by omega), h3 _ _ n]
        · by_cases e : r = i
          · subst e
            rw [a2 _ _ hq, h3 _ _ (by omega), pv_up_ne (by omega)]
          · rw [a1 _ _ (by omega), h4 _ _ _ (by omega) hq]
  exact l N 0 _ (by omega) (by omega) (fun x y n => rfl) (fun r j k hr => absurd hr (Nat.not_lt_zero r))
end COPY
theorem img_loop {N a : Nat} (ha : a < 2) {h0 : pv_H} : ∀ (f i : Nat) (h : pv_H), i ≤ 3053 → 3053 < i + f → (∀ x y, ¬ (x = 2 ∧ 3053 * (a + 1) ≤ y ∧ y < 3053 * (a + 1) + i) → h x y = h0 x y) → (∀ j, j < i → h 2 (3053 * (a + 1) + j) = h0 2 j) → wpz (fX10_image_24 N (a : Int) f (i : Int) h) fun r => r.2 = 0 ∧ r.1 3 a = 1 ∧ (∀ x y, ¬ (x = 2 ∧ 3053 * (a + 1) ≤ y ∧ y < 3053 * (a + 1) + 3053) → ¬ (x = 3 ∧ y = a) → r.1 x y = h0 x y) ∧ ∀ j, j < 3053 → r.1 2 (3053 * (a + 1) + j) = h0 2 j := by
  intro f
  induction f with
  | zero => intro i h h1 h2; omega
  | succ f ih =>
    intro i h h1 h2 h3 h4
    rw [fX10_image_24]
    by_cases q : 3053 ≤ i
    · rw [if_pos (by omega), if_pos (by omega), tnc, bbs]
      refine wp_some.mpr ⟨rfl, pv_up_self _ _ _ _, fun x y n n2 => ?_, fun j hj => ?_⟩ <;> dsimp only
      · rw [pv_up_ne (by omega), h3 _ _ (by omega)]
      · rw [pv_up_ne (by omega), h4 _ (by omega)]
    · rw [if_neg (by omega)]
      simp (disch := omega) only [pv_w_id, if_pos, bbs]
      have x : Int.toNat (3053 * ((a : Int) + 1) + (i : Int)) = 3053 * (a + 1) + i := by omega
      rw [x, tnc]
      refine ih (i + 1) _ (by omega) (by omega) (fun x y n => ?_) (fun j hj => ?_)
      · rw [pv_up_ne (by omega)]; exact h3 x y (by omega)
      · by_cases e : j = i
        · subst e
          rw [pv_up_self, h3 _ _ (by omega)]
        · rw [pv_up_ne (by omega)]; exact h4 j (by omega)
theorem rst_loop {N a : Nat} (ha : a < 2) {h0 : pv_H} : ∀ (f i : Nat) (h : pv_H), i ≤ 3053 → 3053 < i + f → (∀ x y, ¬ (x = 2 ∧ y < i) → h x y = h0 x y) → (∀ j, j < i → h 2 j = h0 2 (3053 * (a + 1) + j)) → wpz (fX10_restore_40 N (a : Int) f (i : Int) h) fun r => r.2 = 0 ∧ (∀ x y, ¬ (x = 2 ∧ y < 3053) → r.1 x y = h0 x y) ∧ ∀ j, j < 3053 → r.1 2 j = h0 2 (3053 * (a + 1) + j) := by
  intro f
  induction f with
  | zero => intro i h h1 h2; omega
  | succ f ih =>
    intro i h h1 h2 h3 h4
    rw [fX10_restore_40]
    by_cases q : 3053 ≤ i
    · rw [if_pos (by omega)]
      refine wp_some.mpr ⟨rfl, fun x y n => h3 _ _ (by omega), fun j hj => h4 _ (by omega)⟩
    · rw [if_neg (by omega)]
      simp (disch := omega) only [pv_w_id, if_pos, bbs]
      have x : Int.toNat (3053 * ((a : Int) + 1) + (i : Int)) = 3053 * (a + 1) + i := by omega
      rw [x, tnc]
      refine ih (i + 1) _ (by omega) (by omega) (fun x y n => ?_) (fun j hj => ?_)
      · rw [pv_up_ne (by omega)]; exact h3 x y (by omega)
      · by_cases e : j = i
        · subst e
          rw [pv_up_self, h3 _ _ (by omega)]
        · rw [pv_up_ne (by omega)]; exact h4 j (by omega)
theorem s_image : sm_image SSz := by
  intro hc hm S a1 _
  refine two_th S fun hm S => ?_
  unfold fX9_image
  by_cases h1 : 0 ≤ a1 ∧ a1 ≤ 1
  · obtain ⟨a, rfl⟩ := Int.eq_ofNat_of_zero_le h1.1
    rw [if_neg (by omega), if_pos (by omega), if_pos (by omega), bbs, tnc, wn_1 h1, c1s, if_neg (by omega)]
    obtain ⟨k1, k2⟩ := S.kept
    rw [wp_c1]
    refine wp_mono (cp8 (N := pv_NN) (tt := 106 + 55 * a) (a := 20) (h := hc) (by omega) (by decide) (by omega)) ?_
    rintro hc' ⟨c1, c2, c3⟩
    rw [if_pos (by omega), bbs, bbs]
    refine wp_some.mpr ?_
    refine wp_mono (img_loop (N := pv_NN) (a := a) (h0 := hm) (by omega) pv_NN 0 hm (by omega) (by unfold pv_NN; omega) (fun x y n => rfl) (fun j hj => absurd hj (Nat.not_lt_zero j))) ?_
    rintro ⟨hm', r⟩ ⟨d0, d1, d2, d3⟩
    dsimp only at d0 d1 d2 d3 ⊢
    refine ⟨d0.symm, ?_⟩
    have f : ∀ x y, ¬ (106 + 55 * a ≤ x ∧ x < 106 + 55 * a + 55) → pv_up hc' (106 + 55 * a) 0 1 x y = hc x y := fun x y n => by
      rw [pv_up_ne (by omega), c1 _ _ n]
    obtain ⟨a1, a2, a4, a5, a6, a7, a8⟩ := S
    refine ⟨?_, ?_, a4.congr (fun d k hr => ?_) (fun k hk => ?_), fun i hi => ?_, fun k hk => ?_, fun j hj => ?_, ?_⟩
    · unfold tapeR
      rw [f _ _ (by omega), d2 _ _ (by omega) (by omega)]
      obtain ⟨h1, h2, h3, h4⟩ := a1
      exact ⟨h1, h2, h3, fun i hi => by rw [f _ _ (by omega), d2 _ _ (by omega) (by omega)]; exact h4 i hi⟩
    · rw [f _ _ (by omega), f _ _ (by omega), d2 _ _ (by omega) (by omega), d2 _ _ (by omega) (by omega)]; exact a2
    · have := rel_lt hr
      exact f _ _ (by omega)
    · exact d2 _ _ (by omega) (by omega)
    · by_cases e : i = a
      · subst e
        unfold imgR
        rw [pv_up_self, d1]
        refine ⟨rfl, Or.inr rfl, fun _ => a4.congr (fun d k hr => ?_) (fun k hk => ?_)⟩
        · have := rel_lt hr
          unfold csz
          rw [pv_up_ne (by omega)]
          exact c3 d k hr
        · have := d3 k hk
          unfold msz
          rw [this, Nat.zero_add]
      · obtain ⟨h1, h2, h3⟩ := a5 i hi
        unfold imgR
        rw [f _ _ (by omega), d2 _ _ (by omega) (by omega)]
        refine ⟨h1, h2, fun q => (h3 q).congr (fun d k hr => ?_) (fun k hk => ?_)⟩
        · have := rel_lt hr
          exact f _ _ (by omega)
        · exact d2 _ _ (by omega) (by omega)
    · have b := a6 k hk
      unfold rowR at b ⊢
      rw [f _ _ (by omega), f _ _ (by omega), f _ _ (by omega), d2 _ _ (by omega) (by omega), d2 _ _ (by omega) (by omega)]
      rcases b with b | ⟨b1, b2, b3, b4, b5, b6, b7, b8⟩
      · exact Or.inl b
      · refine Or.inr ⟨b1, b2, b3, b4, b5, b6, b7, fun i hi => ?_⟩
        rw [f _ _ (by omega), d2 _ _ (by omega) (by omega)]
        exact b8 i hi
    · rw [f _ _ (by omega), d2 _ _ (by omega) (by omega)]; exact a7 j hj
    · rw [d2 _ _ (by omega) (by omega)]; exact a8
  · rw [wn_0 h1, c1s]
    by_cases h2 : a1 < 0
    · simp (disch := omega) only [if_pos, if_neg]
      exact no2 S
    · simp (disch := omega) only [if_pos, if_neg]
      exact no2 S
theorem s_restore : sm_restore SSz := by
  intro hc hm S a1 _
  refine two_th S fun hm S => ?_
  unfold fX9_restore
  by_cases h1 : 0 ≤ a1 ∧ a1 ≤ 1
  · obtain ⟨a, rfl⟩ := Int.eq_ofNat_of_zero_le h1.1
    rw [if_neg (by omega), if_pos (by omega), if_pos (by omega), bbs, tnc, wn_1 h1, c1s, if_neg (c := (1 : Int) = 0) (by omega), if_pos (c := 0 ≤ (a : Int) ∧ (a : Int) < 2) (by omega), if_pos (c := 0 ≤ (a : Int) ∧ (a : Int) < 2) (by omega), bbs]
    obtain ⟨i1, i2, i3⟩ := S.2.2.2.1 a (by omega)
    rw [i1]
    by_cases h2 : hm 3 a = 0
    · rw [if_pos h2, if_pos h2]
      exact no5 S
    · rw [if_neg h2, if_neg h2]
      have st := i3 (by omega)
      have kp : hc (106 + 55 * a + 0) 1 = 0 ∨ hc (106 + 55 * a + 0) 1 = 1 := by
        have := st.2.2.2.2
        unfold keptR csz at this
        rw [this.1]
        exact this.2.1
      rw [Nat.add_zero] at kp
      rw [wp_c1]
      refine wp_mono (cp8 (N := pv_NN) (tt := 20) (a := 106 + 55 * a) (h := hc) (by omega) (by decide) kp) ?_
      rintro hc' ⟨c1, c2, c3⟩
      refine wp_some.mpr ?_
      refine wp_mono (rst_loop (N := pv_NN) (a := a) (h0 := hm) (by omega) pv_NN 0 hm (by omega) (by unfold pv_NN; omega) (fun x y n => rfl) (fun j hj => absurd hj (Nat.not_lt_zero j))) ?_
      rintro ⟨hm', r⟩ ⟨d0, d2, d3⟩
      dsimp only at d0 d2 d3 ⊢
      refine ⟨d0.symm, ?_⟩
      obtain ⟨a1, a2, a4, a5, a6, a7, a8⟩ := S
      refine ⟨?_, ?_, st.congr (fun d k hr => ?_) (fun k hk => ?_), fun i hi => ?_, fun k hk => ?_, fun j hj => ?_, ?_⟩
      · unfold tapeR
        rw [c1 _ _ (by omega), d2 _ _ (by omega)]
        obtain ⟨h1, h2, h3, h4⟩ := a1
        exact ⟨h1, h2, h3, fun i hi => by rw [c1 _ _ (by omega), d2 _ _ (by omega)]; exact h4 i hi⟩
      · rw [c1 _ _ (by omega), c1 _ _ (by omega), d2 _ _ (by omega), d2 _ _ (by omega)]; exact a2
      · exact c3 d k hr
      · unfold msz
        rw [Nat.zero_add]
        exact d3 k hk
      · obtain ⟨h1, h2, h3⟩ := a5 i hi
        unfold imgR
        rw [c1 _ _ (by omega), d2 _ _ (by omega)]
        refine ⟨h1, h2, fun q => (h3 q).congr (fun d k hr => ?_) (fun k hk => ?_)⟩
        · have := rel_lt hr
          exact c1 _ _ (by omega)
        · exact d2 _ _ (by omega)
      · have b := a6 k hk
        unfold rowR at b ⊢
        rw [c1 _ _ (by omega), c1 _ _ (by omega), c1 _ _ (by omega), d2 _ _ (by omega), d2 _ _ (by omega)]
        rcases b with b | ⟨b1, b2, b3, b4, b5, b6, b7, b8⟩
        · exact Or.inl b
        · refine Or.inr ⟨b1, b2, b3, b4, b5, b6, b7, fun i hi => ?_⟩
          rw [c1 _ _ (by omega), d2 _ _ (by omega)]
          exact b8 i hi
      · rw [c1 _ _ (by omega), d2 _ _ (by omega)]; exact a7 j hj
      · rw [d2 _ _ (by omega)]; exact a8
  · rw [wn_0 h1, c1s]
    by_cases h2 : a1 < 0
    · simp (disch := omega) only [if_pos, if_neg]
      exact no2 S
    · simp (disch := omega) only [if_pos, if_neg]
      exact no2 S
