/-! BEND and TURN, tick by tick, and the class's DOINGS -/
def stb (k b x : Int) : Int := if k = 0 then b + x else if k = 1 then max 0 (b - x) else b
def tbz (F : Nat → Int) : Nat → Int
  | 0 => 0
  | j + 1 => tbz F j + F j
def bbz (K B F : Nat → Int) : Nat → Int → Int
  | 0, _ => 0
  | j + 1, o => if o ≤ tbz F j then bbz K B F j o else stb (K j) (bbz K B F j (tbz F j)) (B j * min (o - tbz F j) (F j))
def btz (K B F : Nat → Int) : Nat → Int → Int
  | 0, _ => 0
  | j + 1, o => if o ≤ tbz F j then btz K B F j o else btz K B F j (tbz F j) + (if K j = 2 then B j * min (o - tbz F j) (F j) else 0)
theorem stb_0 {k b : Int} (h : 0 ≤ b) : stb k b 0 = b := by
  unfold stb
  by_cases h0 : k = 0
  · rw [if_pos h0]; omega
  · rw [if_neg h0]
    by_cases h1 : k = 1
    · rw [if_pos h1]; omega
    · rw [if_neg h1]
theorem stb_b {k b x : Int} (h : 0 ≤ b) (hx : 0 ≤ x) : 0 ≤ stb k b x ∧ stb k b x ≤ b + x := by
  unfold stb
  by_cases h0 : k = 0
  · rw [if_pos h0]; omega
  · rw [if_neg h0]
    by_cases h1 : k = 1
    · rw [if_pos h1]; omega
    · rw [if_neg h1]; omega
theorem ed_b {u p : Int} (h : 0 ≤ u) (hp : 1 ≤ p) : 0 ≤ u / p ∧ u / p ≤ u := ⟨Int.ediv_nonneg h (by omega), Int.ediv_le_self _ h⟩
theorem ed_m {u t p x : Int} (h : 0 ≤ u) (hu : u ≤ 99) (ht : 0 ≤ t) (ht2 : t ≤ 200) (hp : 1 ≤ p) (hx : 0 ≤ x) (hx2 : x ≤ t * p) : 0 ≤ u / p * x ∧ u / p * x ≤ 19800 := by
  obtain ⟨a, b⟩ := ed_b h hp
  refine ⟨Int.mul_nonneg a hx, ?_⟩
  have h1 : u / p * x ≤ u / p * (t * p) := Int.mul_le_mul_of_nonneg_left hx2 a
  have h2 : u / p * (t * p) = u / p * p * t := by rw [Int.mul_comm t p, Int.mul_assoc]
  have h3 : u / p * p ≤ u := Int.ediv_mul_le u (by omega)
  have h4 : u / p * p * t ≤ u * t := Int.mul_le_mul_of_nonneg_right h3 ht
  have h5 : u * t ≤ 99 * t := Int.mul_le_mul_of_nonneg_right hu ht
  omega
section BBF
variable {K B F : Nat → Int}
theorem tb_nn (hF : ∀ j, 1 ≤ F j) : ∀ j : Nat, (j : Int) ≤ tbz F j := by
  intro j
  induction j with
  | zero => exact Int.le_refl _
  | succ j ih =>
    have := hF j
    simp only [tbz]
    omega
theorem tb_le (hF : ∀ j, 1 ≤ F j) {i : Nat} : ∀ j, i ≤ j → tbz F i ≤ tbz F j := by
  intro j
  induction j with
  | zero => intro h; have : i = 0 := by omega
            subst this; exact Int.le_refl _
  | succ j ih =>
    intro h
    by_cases e : i = j + 1
    · subst e; exact Int.le_refl _
    · have := ih (by omega)
      have := hF j
      simp only [tbz]
      omega
theorem bb_le (hF : ∀ j, 1 ≤ F j) {j : Nat} {o : Int} (h : o ≤ tbz F j) : ∀ m, j ≤ m → bbz K B F m o = bbz K B F j o := by
  intro m
  induction m with
  | zero => intro h; have : j = 0 := by omega
            subst this; rfl
  | succ m ih =>
    intro h2
    by_cases e : j = m + 1
    · subst e; rfl
    · rw [bbz, if_pos (by have := tb_le hF m (show j ≤ m by omega); omega)]
      exact ih (by omega)
theorem bt_le (hF : ∀ j, 1 ≤ F j) {j : Nat} {o : Int} (h : o ≤ tbz F j) : ∀ m, j ≤ m → btz K B F m o = btz K B F j o := by
  intro m
  induction m with
  | zero => intro h; have : j = 0 := by omega
            subst this; rfl
  | succ m ih =>
    intro h2
    by_cases e : j = m + 1
    · subst e; rfl
    · rw [btz, if_pos (by have := tb_le hF m (show j ≤ m by omega); omega)]
      exact ih (by omega)
theorem bb_b (hF : ∀ j, 1 ≤ F j) (hB : ∀ j x, 0 ≤ x → x ≤ F j → 0 ≤ B j * x ∧ B j * x ≤ 19800) : ∀ j o, 0 ≤ bbz K B F j o ∧ bbz K B F j o ≤ 19800 * (j : Int) := by
  intro j
  induction j with
  | zero => intro o; exact ⟨Int.le_refl _, Int.le_refl _⟩
  | succ j ih =>
    intro o
    rw [bbz]
    by_cases q : o ≤ tbz F j
    · rw [if_pos q]
      have := ih o
      omega
    · rw [if_neg q]
      have h1 := ih (tbz F j)
      have h0 := hF j
      have h2 := hB j (min (o - tbz F j) (F j)) (by omega) (by omega)
      have h3 := stb_b (k := K j) h1.1 h2.1
      omega
theorem bt_b (hF : ∀ j, 1 ≤ F j) (hB : ∀ j x, 0 ≤ x → x ≤ F j → 0 ≤ B j * x ∧ B j * x ≤ 19800) : ∀ j o, 0 ≤ btz K B F j o ∧ btz K B F j o ≤ 19800 * (j : Int) := by
  intro j
  induction j with
  | zero => intro o; exact ⟨Int.le_refl _, Int.le_refl _⟩
  | succ j ih =>
    intro o
    rw [btz]
    by_cases q : o ≤ tbz F j
    · rw [if_pos q]
      have := ih o
      omega
    · rw [if_neg q]
      have h1 := ih (tbz F j)
      have h0 := hF j
      have h2 := hB j (min (o - tbz F j) (F j)) (by omega) (by omega)
      by_cases k : K j = 2
      · rw [if_pos k]; omega
      · rw [if_neg k]; omega
theorem bb_at (hF : ∀ j, 1 ≤ F j) (hB : ∀ j x, 0 ≤ x → x ≤ F j → 0 ≤ B j * x ∧ B j * x ≤ 19800) {m j : Nat} (hj : j < m) {i : Int} (h1 : 0 ≤ i) (h2 : i ≤ F j) : bbz K B F m (tbz F j + i) = stb (K j) (bbz K B F j (tbz F j)) (B j * i) := by
  rw [bb_le (j := j + 1) hF (by simp only [tbz]; omega) m (by omega), bbz]
  by_cases q : i = 0
  · subst q
    rw [if_pos (by omega), Int.add_zero, Int.mul_zero, stb_0 (bb_b hF hB _ _).1]
  · rw [if_neg (by omega)]
    have : min (tbz F j + i - tbz F j) (F j) = i := by omega
    rw [this]
theorem bt_at (hF : ∀ j, 1 ≤ F j) {m j : Nat} (hj : j < m) {i : Int} (h1 : 0 ≤ i) (h2 : i ≤ F j) : btz K B F m (tbz F j + i) = btz K B F j (tbz F j) + (if K j = 2 then B j * i else 0) := by
  rw [bt_le (j := j + 1) hF (by simp only [tbz]; omega) m (by omega), btz]
  by_cases q : i = 0
  · subst q
    rw [if_pos (by omega), Int.add_zero, Int.mul_zero, ite_self, Int.add_zero]
  · rw [if_neg (by omega)]
    have : min (tbz F j + i - tbz F j) (F j) = i := by omega
    rw [this]
theorem bb_end (hF : ∀ j, 1 ≤ F j) {m : Nat} {o : Int} (h : tbz F m ≤ o) : bbz K B F m o = bbz K B F m (tbz F m) := by
  cases m with
  | zero => rfl
  | succ m =>
    have := hF m
    simp only [tbz] at h ⊢
    rw [bbz, bbz, if_neg (by omega), if_neg (by omega)]
    congr 2
    omega
theorem bt_end (hF : ∀ j, 1 ≤ F j) {m : Nat} {o : Int} (h : tbz F m ≤ o) : btz K B F m o = btz K B F m (tbz F m) := by
  cases m with
  | zero => rfl
  | succ m =>
    have := hF m
    simp only [tbz] at h ⊢
    rw [btz, btz, if_neg (c := o ≤ tbz F m) (by omega), if_neg (c := tbz F m + F m ≤ tbz F m) (by omega)]
    have e : min (o - tbz F m) (F m) = min (tbz F m + F m - tbz F m) (F m) := by omega
    rw [e]
theorem bb_0 (hF : ∀ j, 1 ≤ F j) {m : Nat} : bbz K B F m 0 = 0 := bb_le (j := 0) hF (Int.le_refl _) m (Nat.zero_le _)
theorem bt_0 (hF : ∀ j, 1 ≤ F j) {m : Nat} : btz K B F m 0 = 0 := bt_le (j := 0) hF (Int.le_refl _) m (Nat.zero_le _)
end BBF
/-- DOINGS in numbers -/
def gdz (K U T : Nat → Int) : Prop := ∀ j, 0 ≤ K j ∧ K j ≤ 3 ∧ 0 ≤ U j ∧ U j ≤ 99 ∧ 1 ≤ T j ∧ T j ≤ 200
def cvz (h : pv_H) (d n : Nat) (K U T : Nat → Int) : Prop := h d 0 = (n : Int) ∧ n ≤ 12 ∧ ∀ j, j < n → h (d + 1) j = K j + 9 ∧ h (d + 2) j = U j ∧ h (d + 3) j = T j
section DOC
variable {N d n : Nat} {K U T : Nat → Int} {h : pv_H} {p over goal : Int}
theorem gd_F (g : gdz K U T) (hp : 1 ≤ p) : ∀ j, 1 ≤ T j * p := fun j => by
  have := (g j).2.2.2.2.1
  have := Int.mul_le_mul this hp (by omega) (by omega)
  omega
theorem gd_F9 (g : gdz K U T) (hp : 1 ≤ p) (hp2 : p ≤ 9) : ∀ j, T j * p ≤ 1800 := fun j => by
  have h1 := (g j).2.2.2.2
  have := Int.mul_le_mul h1.2 hp2 (by omega) (by omega)
  omega
theorem gd_B (g : gdz K U T) (hp : 1 ≤ p) : ∀ j x, 0 ≤ x → x ≤ T j * p → 0 ≤ U j / p * x ∧ U j / p * x ≤ 19800 := fun j x h1 h2 => by
  obtain ⟨a, b, c, d, e, f⟩ := g j
  exact ed_m c d (by omega) f hp h1 h2
theorem byTick_C (c : cvz h d n K U T) (g : gdz K U T) (hp : 1 ≤ p) {j : Nat} (hj : j < n) : fX0_byTick N d (j : Int) p h = some (U j / p) := by
  obtain ⟨c1, c2, c3⟩ := c
  obtain ⟨k1, k2, k3⟩ := c3 j hj
  obtain ⟨a, b, u1, u2, e, f⟩ := g j
  have e1 : max p 1 = p := by omega
  have := ed_b u1 hp
  unfold fX0_byTick
  rw [e1, if_pos (by omega), if_pos (by omega), tnc, k2, tdn u1, pv_w_id (by omega) (by omega)]
theorem step_C {k b x : Int} (h1 : 0 ≤ b) (h2 : b ≤ 300000) (h3 : 0 ≤ x) (h4 : x ≤ 19800) (k1 : 0 ≤ k) (k2 : k ≤ 3) : fX0_bendBehindStep N b (k + 9) x h = some (stb k b x) := by
  unfold fX0_bendBehindStep fX0_bendBehindStep_27 stb
  by_cases q0 : k = 0
  · rw [if_pos (by omega), if_pos q0, pv_w_id (by omega) (by omega)]
  · rw [if_neg (by omega), if_neg q0]
    by_cases q1 : k = 1
    · rw [if_pos (by omega), if_pos q1, pv_w_id (by omega) (by omega)]
    · rw [if_neg (by omega), if_neg q1]
theorem bend_l (c : cvz h d n K U T) (g : gdz K U T) (hp : 1 ≤ p) (hp2 : p ≤ 9) (ho : over ≤ 100000) : ∀ (f j : Nat) (v left : Int), j ≤ n → n < j + f → (0 ≤ left ∧ over = tbz (fun j => T j * p) j + left ∧ v = bbz K (fun j => U j / p) (fun j => T j * p) j (tbz (fun j => T j * p) j) ∨ left ≤ 0 ∧ v = bbz K (fun j => U j / p) (fun j => T j * p) n over) → fX0_bendBehind_8 N d over p f v left (j : Int) h = some (bbz K (fun j => U j / p) (fun j => T j * p) n over) := by
  have hF := gd_F (p := p) g hp
  have hB := gd_B (p := p) g hp
  have hF9 := gd_F9 g hp hp2
  intro f
  induction f with
  | zero => intro j v left h1 h2; omega
  | succ f ih =>
    intro j v left h1 h2 h3
    obtain ⟨c1, c2, c3⟩ := id c
    rw [fX0_bendBehind_8, c1]
    unfold fX0_bendBehind_73
    by_cases q : n ≤ j
    · rw [if_pos (by omega)]
      have : j = n := by omega
      subst this
      rcases h3 with ⟨a1, a2, a3⟩ | ⟨a1, a2⟩
      · rw [a3, bb_end hF (o := over) (by omega)]
      · rw [a2]
    · rw [if_neg (by omega)]
      by_cases q2 : left ≤ 0
      · rw [if_pos q2]
        rcases h3 with ⟨a1, a2, a3⟩ | ⟨a1, a2⟩
        · have : over = tbz (fun j => T j * p) j := by omega
          rw [a3, this, bb_le hF (Int.le_refl _) n h1]
        · rw [a2]
      · rcases h3 with ⟨a1, a2, a3⟩ | ⟨a1, a2⟩
        · obtain ⟨k1, k2, k3⟩ := c3 j (by omega)
          have hf := hF j
          have hf9 := hF9 j
          have bd := bb_b (K := K) (F := fun j => T j * p) hF hB j (tbz (fun j => T j * p) j)
          have hb := hB j (min left (T j * p)) (by omega) (by omega)
          have tn := tb_nn hF j
          obtain ⟨g1, g2, _⟩ := g j
          rw [if_neg q2, if_pos (by omega), bbs, if_pos (by omega), tnc, k3, k1, pv_w_id (x := T j * p) (by omega) (by omega), byTick_C c g hp (by omega), c1s, pv_w_id (x := U j / p * min left (T j * p)) (by omega) (by omega), step_C (by omega) (by omega) hb.1 hb.2 g1 g2, c1s, bbs, bbs, pv_w_id (x := left - min left (T j * p)) (by omega) (by omega), pws (by omega)]
          refine ih (j + 1) _ _ (by omega) (by omega) ?_
          by_cases z : left ≤ T j * p
          · right
            have e : min left (T j * p) = left := by omega
            rw [e]
            refine ⟨by omega, ?_⟩
            rw [a2, bb_at (K := K) (B := fun j => U j / p) hF hB (show j < n by omega) a1 z, a3]
          · left
            have e : min left (T j * p) = T j * p := by omega
            rw [e]
            refine ⟨by omega, by simp only [tbz]; omega, ?_⟩
            have := bb_at (K := K) (B := fun j => U j / p) (m := j + 1) hF hB (show j < j + 1 by omega) (i := T j * p) (by omega) (Int.le_refl _)
            simp only [tbz]
            rw [this, a3]
        · exact absurd a1 q2
theorem bend_C (hN : 100 ≤ N) (c : cvz h d n K U T) (g : gdz K U T) (hp : 1 ≤ p) (hp2 : p ≤ 9) (h0 : 0 ≤ over) (ho : over ≤ 100000) : fX0_bendBehind N d over p h = some (bbz K (fun j => U j / p) (fun j => T j * p) n over) :=
  bend_l c g hp hp2 ho N 0 0 over (by omega) (by have := c.2.1; omega) (Or.inl ⟨h0, by simp only [tbz]; omega, rfl⟩)
theorem turn_l (c : cvz h d n K U T) (g : gdz K U T) (hp : 1 ≤ p) (hp2 : p ≤ 9) (ho : over ≤ 100000) : ∀ (f j : Nat) (v left : Int), j ≤ n → n < j + f → (0 ≤ left ∧ over = tbz (fun j => T j * p) j + left ∧ v = btz K (fun j => U j / p) (fun j => T j * p) j (tbz (fun j => T j * p) j) ∨ left ≤ 0 ∧ v = btz K (fun j => U j / p) (fun j => T j * p) n over) → fX0_turnBehind_8 N d over p f v left (j : Int) h = some (btz K (fun j => U j / p) (fun j => T j * p) n over) := by
  have hF := gd_F (p := p) g hp
  have hB := gd_B (p := p) g hp
  have hF9 := gd_F9 g hp hp2
  intro f
  induction f with
  | zero => intro j v left h1 h2; omega
  | succ f ih =>
    intro j v left h1 h2 h3
    obtain ⟨c1, c2, c3⟩ := id c
    rw [fX0_turnBehind_8, c1]
    unfold fX0_turnBehind_76
    by_cases q : n ≤ j
    · rw [if_pos (by omega)]
      have : j = n := by omega
      subst this
      rcases h3 with ⟨a1, a2, a3⟩ | ⟨a1, a2⟩
      · rw [a3, bt_end hF (o := over) (by omega)]
      · rw [a2]
    · rw [if_neg (by omega)]
      by_cases q2 : left ≤ 0
      · rw [if_pos q2]
        rcases h3 with ⟨a1, a2, a3⟩ | ⟨a1, a2⟩
        · have : over = tbz (fun j => T j * p) j := by omega
          rw [a3, this, bt_le hF (Int.le_refl _) n h1]
        · rw [a2]
      · rcases h3 with ⟨a1, a2, a3⟩ | ⟨a1, a2⟩
        · obtain ⟨k1, k2, k3⟩ := c3 j (by omega)
          have hf := hF j
          have hf9 := hF9 j
          have bd := bt_b (K := K) (F := fun j => T j * p) hF hB j (tbz (fun j => T j * p) j)
          have hb := hB j (min left (T j * p)) (by omega) (by omega)
          have tn := tb_nn hF j
          obtain ⟨g1, g2, _⟩ := g j
          have fin : ∀ v', v' = v + (if K j = 2 then U j / p * min left (T j * p) else 0) → fX0_turnBehind_63 N (fun v3_ v4_ v5_ hh => fX0_turnBehind_8 N d over p f v3_ v4_ v5_ hh) d over p v' left (j : Int) (min left (T j * p)) h = some (btz K (fun j => U j / p) (fun j => T j * p) n over) := by
            intro v' hv
            unfold fX0_turnBehind_63
            rw [bbs, bbs, pv_w_id (x := left - min left (T j * p)) (by omega) (by omega), pws (by omega)]
            refine ih (j + 1) _ _ (by omega) (by omega) ?_
            by_cases z : left ≤ T j * p
            · right
              have e : min left (T j * p) = left := by omega
              rw [e] at hv ⊢
              refine ⟨by omega, ?_⟩
              rw [a2, bt_at (K := K) (B := fun j => U j / p) hF (show j < n by omega) a1 z, hv, a3]
            · left
              have e : min left (T j * p) = T j * p := by omega
              rw [e] at hv ⊢
              refine ⟨by omega, by simp only [tbz]; omega, ?_⟩
              have := bt_at (K := K) (B := fun j => U j / p) (m := j + 1) hF (show j < j + 1 by omega) (i := T j * p) (by omega) (Int.le_refl _)
              simp only [tbz]
              rw [this, hv, a3]
          rw [if_neg q2, if_pos (by omega), bbs, if_pos (by omega), tnc, k3, k1, pv_w_id (x := T j * p) (by omega) (by omega)]
          by_cases k : K j = 2
          · rw [if_pos (by omega), byTick_C c g hp (by omega), c1s, bbs, pv_w_id (x := U j / p * min left (T j * p)) (by omega) (by omega), pv_w_id (x := v + U j / p * min left (T j * p)) (by omega) (by omega)]
            exact fin _ (by rw [if_pos k])
          · rw [if_neg (by omega)]
            exact fin _ (by rw [if_neg k]; omega)
        · exact absurd a1 q2
theorem turn_C (hN : 100 ≤ N) (c : cvz h d n K U T) (g : gdz K U T) (hp : 1 ≤ p) (hp2 : p ≤ 9) (h0 : 0 ≤ over) (ho : over ≤ 100000) : fX0_turnBehind N d over p h = some (btz K (fun j => U j / p) (fun j => T j * p) n over) :=
  turn_l c g hp hp2 ho N 0 0 over (by omega) (by have := c.2.1; omega) (Or.inl ⟨h0, by simp only [tbz]; omega, rfl⟩)
theorem tb_p {T : Nat → Int} {p : Int} : ∀ n, tbz (fun j => T j * p) n = tbz T n * p := by
  intro n
  induction n with
  | zero => simp [tbz]
  | succ n ih => simp only [tbz, ih, Int.add_mul]
theorem tb_2400 (g : gdz K U T) : ∀ n : Nat, tbz T n ≤ 200 * (n : Int) := by
  intro n
  induction n with
  | zero => simp [tbz]
  | succ n ih =>
    have := (g n).2.2.2.2.2
    simp only [tbz]
    omega
theorem ticks_l (c : cvz h d n K U T) (g : gdz K U T) : ∀ (f j : Nat), j ≤ n → n < j + f → fX0_allTicks_4 N d f (tbz T j) (j : Int) h = some (tbz T n) := by
  intro f
  induction f with
  | zero => intro j h1 h2; omega
  | succ f ih =>
    intro j h1 h2
    obtain ⟨c1, c2, c3⟩ := id c
    rw [fX0_allTicks_4, c1]
    by_cases q : n ≤ j
    · rw [if_pos (by omega)]
      have : j = n := by omega
      subst this; rfl
    · have b := tb_2400 g j
      have b2 := tb_nn (F := T) (fun j => (g j).2.2.2.2.1) j
      have b3 := (g j).2.2.2.2
      rw [if_neg (by omega), if_pos (by omega), bbs, bbs, tnc, (c3 j (by omega)).2.2, pws (by omega), pv_w_id (by omega) (by omega)]
      exact ih (j + 1) (by omega) (by omega)
theorem ticks_C (hN : 100 ≤ N) (c : cvz h d n K U T) (g : gdz K U T) : fX0_allTicks N d h = some (tbz T n) := ticks_l c g N 0 (by omega) (by have := c.2.1; omega)
end DOC
