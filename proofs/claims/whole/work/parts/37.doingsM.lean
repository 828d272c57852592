/-! the TICK of a BEND, and the reference's DOINGS -/
def fstAt (bf : Int → Int) (last goal r : Int) : Prop := (r = -1 ∧ ∀ t, 0 ≤ t → t < 4000 → bf (t + 1) < goal) ∨ (0 ≤ r ∧ r < 4000 ∧ r < last ∧ goal ≤ bf (r + 1) ∧ ∀ t, 0 ≤ t → t < r → bf (t + 1) < goal)
section TOB
variable {N d n : Nat} {K U T : Nat → Int} {h : pv_H} {p goal : Int}
theorem cl_div {a b : Int} (hb : 1 ≤ b) (ha : 1 ≤ a) : 1 ≤ (a + b - 1) / b ∧ a ≤ b * ((a + b - 1) / b) ∧ b * ((a + b - 1) / b) ≤ a + b - 1 := by
  have h1 := Int.ediv_mul_le (a + b - 1) (b := b) (by omega)
  have h2 := Int.lt_ediv_add_one_mul_self (a + b - 1) (b := b) (by omega)
  rw [Int.add_mul, Int.one_mul] at h2
  rw [Int.mul_comm] at h1 h2
  refine ⟨?_, by omega, h1⟩
  have h3 : 0 < (a + b - 1) / b := by
    refine Int.lt_of_mul_lt_mul_left (a := b) ?_ (by omega)
    omega
  omega
theorem tob_l (c : cvz h d n K U T) (g : gdz K U T) (hp : 1 ≤ p) (hp2 : p ≤ 9) (hg : 1 ≤ goal) (hg2 : goal ≤ 3000000) : ∀ (f j : Nat), j ≤ n → n < j + f → (∀ o, o ≤ tbz (fun j => T j * p) j → bbz K (fun j => U j / p) (fun j => T j * p) n o < goal) → wpz (fX0_tickOfBend_8 N d goal p f (bbz K (fun j => U j / p) (fun j => T j * p) j (tbz (fun j => T j * p) j)) (tbz (fun j => T j * p) j) (j : Int) h) (fstAt (bbz K (fun j => U j / p) (fun j => T j * p) n) (tbz (fun j => T j * p) n) goal) := by
  have hF := gd_F (p := p) g hp
  have hB := gd_B (p := p) g hp
  have hF9 := gd_F9 g hp hp2
  intro f
  induction f with
  | zero => intro j h1 h2; omega
  | succ f ih =>
    intro j h1 h2 h3
    obtain ⟨c1, c2, c3⟩ := id c
    rw [fX0_tickOfBend_8, c1]
    by_cases q : n ≤ j
    · rw [if_pos (by omega)]
      have : j = n := by omega
      subst this
      refine wp_some.mpr (Or.inl ⟨rfl, fun t t1 t2 => ?_⟩)
      by_cases z : t + 1 ≤ tbz (fun j => T j * p) j
      · exact h3 _ z
      · rw [bb_end hF (by omega)]
        exact h3 _ (Int.le_refl _)
    · obtain ⟨k1, k2, k3⟩ := c3 j (by omega)
      have hf := hF j
      have hf9 := hF9 j
      have bd := bb_b (K := K) (F := fun j => T j * p) hF hB j (tbz (fun j => T j * p) j)
      have hb := hB j (T j * p) (by omega) (by omega)
      have tn := tb_nn hF j
      have t24 := tb_2400 g j
      have tbp := tb_p (T := T) (p := p) j
      have tb9 : tbz T j * p ≤ 2400 * 9 := by
        have a1 := tb_nn (F := T) (fun j => (g j).2.2.2.2.1) j
        have a2 : tbz T j * p ≤ tbz T j * 9 := Int.mul_le_mul_of_nonneg_left hp2 (by omega)
        omega
      obtain ⟨g1, g2, g3, g4, g5, g6⟩ := g j
      have eb := ed_b g3 hp
      have blt : bbz K (fun j => U j / p) (fun j => T j * p) j (tbz (fun j => T j * p) j) < goal := by
        have := h3 _ (Int.le_refl _)
        rwa [bb_le hF (Int.le_refl _) n h1] at this
      have cont : (∀ i, 0 ≤ i → i ≤ T j * p → bbz K (fun j => U j / p) (fun j => T j * p) n (tbz (fun j => T j * p) j + i) < goal) → wpz (fX0_tickOfBend_98 N (fun v3_ v4_ v5_ hh => fX0_tickOfBend_8 N d goal p f v3_ v4_ v5_ hh) d goal p (bbz K (fun j => U j / p) (fun j => T j * p) j (tbz (fun j => T j * p) j)) (tbz (fun j => T j * p) j) (j : Int) (T j * p) (U j / p) h) (fstAt (bbz K (fun j => U j / p) (fun j => T j * p) n) (tbz (fun j => T j * p) n) goal) := by
        intro hi
        unfold fX0_tickOfBend_98
        rw [if_pos (by omega), tnc, k1, pv_w_id (x := U j / p * (T j * p)) (by omega) (by omega), step_C (by omega) (by omega) hb.1 hb.2 g1 g2, c1s, bbs, bbs, pws (by omega), pv_w_id (by omega) (by omega)]
        have e1 : stb (K j) (bbz K (fun j => U j / p) (fun j => T j * p) j (tbz (fun j => T j * p) j)) (U j / p * (T j * p)) = bbz K (fun j => U j / p) (fun j => T j * p) (j + 1) (tbz (fun j => T j * p) (j + 1)) := by
          have := bb_at (K := K) (B := fun j => U j / p) (m := j + 1) hF hB (show j < j + 1 by omega) (i := T j * p) (by omega) (Int.le_refl _)
          simp only [tbz]
          rw [this]
        have e2 : tbz (fun j => T j * p) j + T j * p = tbz (fun j => T j * p) (j + 1) := rfl
        rw [e1, e2]
        refine ih (j + 1) (by omega) (by omega) (fun o ho => ?_)
        by_cases z : o ≤ tbz (fun j => T j * p) j
        · exact h3 o z
        · have := hi (o - tbz (fun j => T j * p) j) (by omega) (by simp only [tbz] at ho; omega)
          have e : tbz (fun j => T j * p) j + (o - tbz (fun j => T j * p) j) = o := by omega
          rwa [e] at this
      rw [if_neg (by omega), if_pos (by omega), tnc, k3, bbs, pv_w_id (x := T j * p) (by omega) (by omega), byTick_C c g hp (by omega), c1s, if_pos (by omega), k1]
      by_cases kk : K j = 0
      · rw [if_pos (by omega)]
        have inst : ∀ i, 0 ≤ i → i ≤ T j * p → bbz K (fun j => U j / p) (fun j => T j * p) n (tbz (fun j => T j * p) j + i) = bbz K (fun j => U j / p) (fun j => T j * p) j (tbz (fun j => T j * p) j) + U j / p * i := fun i i1 i2 => by
          rw [bb_at (K := K) (B := fun j => U j / p) hF hB (show j < n by omega) i1 i2]
          unfold stb
          rw [if_pos kk]
        by_cases by0 : U j / p ≤ 0
        · rw [if_pos by0]
          refine cont fun i i1 i2 => ?_
          rw [inst i i1 i2]
          have : U j / p = 0 := by omega
          rw [this, Int.zero_mul]
          omega
        · rw [if_neg by0, pv_w_id (x := U j / p * (T j * p)) (by omega) (by omega), pv_w_id (x := bbz K (fun j => U j / p) (fun j => T j * p) j (tbz (fun j => T j * p) j) + U j / p * (T j * p)) (by omega) (by omega)]
          by_cases en : bbz K (fun j => U j / p) (fun j => T j * p) j (tbz (fun j => T j * p) j) + U j / p * (T j * p) < goal
          · rw [if_pos en]
            refine cont fun i i1 i2 => ?_
            rw [inst i i1 i2]
            have := Int.mul_le_mul_of_nonneg_left i2 (show 0 ≤ U j / p by omega)
            omega
          · rw [if_neg en, if_pos (by omega)]
            generalize hbb : bbz K (fun j => U j / p) (fun j => T j * p) j (tbz (fun j => T j * p) j) = b at *
            generalize U j / p = y at *
            obtain ⟨q1, q2, q3⟩ := cl_div (a := goal - b) (b := y) (by omega) (by omega)
            have qe : goal - b + y - 1 = goal - b + y - 1 := rfl
            have qy : (goal - b + y - 1) / y ≤ goal - b + y - 1 := Int.ediv_le_self _ (by omega)
            rw [pv_w_id (x := goal - b) (by omega) (by omega), pv_w_id (x := goal - b + y) (by omega) (by omega), pv_w_id (x := goal - b + y - 1) (by omega) (by omega), tdn (by omega), pv_w_id (x := (goal - b + y - 1) / y) (by omega) (by omega), bbs]
            generalize hqq : (goal - b + y - 1) / y = qq at *
            have ql : qq ≤ T j * p := by
              have h5 : y * (qq - 1) < y * (T j * p) := by
                rw [Int.mul_sub, Int.mul_one]
                omega
              have := Int.lt_of_mul_lt_mul_left h5 (by omega)
              omega
            rw [pv_w_id (x := tbz (fun j => T j * p) j + qq) (by omega) (by omega), pv_w_id (x := tbz (fun j => T j * p) j + qq - 1) (by omega) (by omega)]
            have before : ∀ t, 0 ≤ t → t < tbz (fun j => T j * p) j + qq - 1 → bbz K (fun j => U j / p) (fun j => T j * p) n (t + 1) < goal := by
              intro t t1 t2
              by_cases z : t + 1 ≤ tbz (fun j => T j * p) j
              · exact h3 _ z
              · have := inst (t + 1 - tbz (fun j => T j * p) j) (by omega) (by omega)
                have e : tbz (fun j => T j * p) j + (t + 1 - tbz (fun j => T j * p) j) = t + 1 := by omega
                rw [e] at this
                rw [this]
                have h6 : y * (t + 1 - tbz (fun j => T j * p) j) ≤ y * (qq - 1) := Int.mul_le_mul_of_nonneg_left (by omega) (by omega)
                rw [Int.mul_sub y qq 1, Int.mul_one] at h6
                omega
            unfold fX0_tickOfBend_97
            by_cases z : 4000 ≤ tbz (fun j => T j * p) j + qq - 1
            · rw [if_pos z]
              exact wp_some.mpr (Or.inl ⟨rfl, fun t t1 t2 => before t t1 (by omega)⟩)
            · rw [if_neg z]
              refine wp_some.mpr (Or.inr ⟨by omega, by omega, ?_, ?_, before⟩)
              · have := tb_le hF n (show j + 1 ≤ n by omega)
                simp only [tbz] at this
                omega
              · have e : tbz (fun j => T j * p) j + qq - 1 + 1 = tbz (fun j => T j * p) j + qq := by omega
                rw [e, inst qq (by omega) ql]
                omega
      · rw [if_neg (by omega)]
        refine cont fun i i1 i2 => ?_
        rw [bb_at (K := K) (B := fun j => U j / p) hF hB (show j < n by omega) i1 i2]
        have hbi := hB j i i1 i2
        unfold stb
        rw [if_neg kk]
        by_cases k1 : K j = 1
        · rw [if_pos k1]; omega
        · rw [if_neg k1]; omega
theorem tob_C (hN : 100 ≤ N) (c : cvz h d n K U T) (g : gdz K U T) (hp : 1 ≤ p) (hp2 : p ≤ 9) (hg : 1 ≤ goal) (hg2 : goal ≤ 3000000) : wpz (fX0_tickOfBend N d goal p h) (fstAt (bbz K (fun j => U j / p) (fun j => T j * p) n) (tbz (fun j => T j * p) n) goal) := by
  refine tob_l c g hp hp2 hg hg2 N 0 (by omega) (by have := c.2.1; omega) (fun o ho => ?_)
  have := bb_le (K := K) (B := fun j => U j / p) (gd_F (p := p) g hp) ho n (Nat.zero_le _)
  rw [this]
  simp only [bbz]
  omega
end TOB
/-! the reference -/
theorem stb_s {k b x i : Int} (hb : 0 ≤ b) (hx : 0 ≤ x) : stb k (stb k b (x * i)) x = stb k b (x * (i + 1)) := by
  rw [Int.mul_add, Int.mul_one]
  unfold stb
  by_cases h0 : k = 0
  · simp only [if_pos h0]; omega
  · simp only [if_neg h0]
    by_cases h1 : k = 1
    · simp only [if_pos h1]; omega
    · simp only [if_neg h1]
theorem acts_M {N : Nat} {h : pv_H} {k : Nat} {K B b t : Int} (hk : k < 12) (e1 : h 14 k = K) (e2 : h 15 k = B) (e3 : h 0 36 = b) (e4 : h 0 37 = t) (b1 : 0 ≤ b) (b2 : b ≤ 300000) (t1 : 0 ≤ t) (t2 : t ≤ 300000) (B1 : 0 ≤ B) (B2 : B ≤ 99) : wpz (fX10_acts N (k : Int) h) fun h' => (∀ x y, ¬ (x = 0 ∧ (y = 36 ∨ y = 37)) → h' x y = h x y) ∧ h' 0 36 = stb K b B ∧ h' 0 37 = t + (if K = 2 then B else 0) := by
  have l64 : ∀ (s : Int) (g : pv_H), (∀ x y, ¬ (x = 0 ∧ y = 36) → g x y = h x y) → s = stb K b B → wpz (fX10_acts_64 N (k : Int) s g) fun h' => (∀ x y, ¬ (x = 0 ∧ (y = 36 ∨ y = 37)) → h' x y = h x y) ∧ h' 0 36 = stb K b B ∧ h' 0 37 = t + (if K = 2 then B else 0) := by
    intro s g hg hs
    unfold fX10_acts_64 fX10_acts_92
    have g1 : g 14 k = K := by rw [hg _ _ (by omega)]; exact e1
    have g2 : g 15 k = B := by rw [hg _ _ (by omega)]; exact e2
    have g4 : g 0 37 = t := by rw [hg _ _ (by omega)]; exact e4
    simp (disch := omega) only [bbs, if_pos, tnc, pu_ne, g1, g2, g4]
    have fin : ∀ z, wpz (some (pv_up (pv_up g 0 36 s) 0 37 z)) fun h' => (∀ x y, ¬ (x = 0 ∧ (y = 36 ∨ y = 37)) → h' x y = h x y) ∧ h' 0 36 = stb K b B ∧ h' 0 37 = z := by
      intro z
      refine wp_some.mpr ⟨fun x y n => ?_, ?_, ?_⟩
      · rw [pv_up_ne (by omega), pv_up_ne (by omega), hg _ _ (by omega)]
      · rw [pv_up_ne (by omega), pv_up_self, hs]
      · rw [pv_up_self]
    by_cases q : K = 2
    · rw [if_pos q, if_pos q, pv_w_id (by omega) (by omega)]
      exact fin _
    · rw [if_neg q, if_neg q, pv_w_id (by omega) (by omega)]
      exact fin _
  have l44 : ∀ s : Int, s = (if K = 0 then B else if K = 1 then -B else 0) → wpz (fX10_acts_44 N (k : Int) s b h) fun h' => (∀ x y, ¬ (x = 0 ∧ (y = 36 ∨ y = 37)) → h' x y = h x y) ∧ h' 0 36 = stb K b B ∧ h' 0 37 = t + (if K = 2 then B else 0) := by
    intro s hs
    have bs : -99 ≤ s ∧ s ≤ 99 := by
      rw [hs]
      by_cases q0 : K = 0
      · rw [if_pos q0]; omega
      · rw [if_neg q0]
        by_cases q1 : K = 1
        · rw [if_pos q1]; omega
        · rw [if_neg q1]; omega
    have key : max 0 (b + s) = stb K b B := by
      rw [hs]
      unfold stb
      by_cases q0 : K = 0
      · rw [if_pos q0, if_pos q0]; omega
      · rw [if_neg q0, if_neg q0]
        by_cases q1 : K = 1
        · rw [if_pos q1, if_pos q1]; omega
        · rw [if_neg q1, if_neg q1]; omega
    unfold fX10_acts_44
    rw [bbs, pv_w_id (x := b + s) (by omega) (by omega), pv_up_self]
    by_cases z : 0 ≤ b + s
    · rw [if_pos z]
      refine l64 _ _ (fun x y n => pv_up_ne (by omega)) ?_
      rw [← key]; omega
    · rw [if_neg z]
      refine l64 _ _ (fun x y n => pv_up_ne (by omega)) ?_
      rw [← key]; omega
  unfold fX10_acts
  simp (disch := omega) only [if_pos, tnc, e1, e2, e3]
  by_cases q0 : K = 0
  · rw [if_pos q0]
    exact l44 _ (by rw [if_pos q0])
  · rw [if_neg q0]
    by_cases q1 : K = 1
    · rw [if_pos q1, pv_w_id (by omega) (by omega)]
      exact l44 _ (by rw [if_neg q0, if_pos q1])
    · rw [if_neg q1]
      exact l44 _ (by rw [if_neg q0, if_neg q1])
