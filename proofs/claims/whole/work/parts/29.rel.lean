/-! what the two pictures have to do with one another -/
/-- SHAPE of cell i of n -/
def shp (n i : Int) : Int := (i + 1) * (n - i) * 400 / ((n + 1) * (n + 1))
/-- a ROD of the class (at d) and of the reference (at o) -/
def rodR (c : Nat → Nat → Int) (m : Nat → Int) (d o : Nat) : Prop :=
  c d 0 = m o ∧ c d 1 = m (o + 1) ∧ (m o = 0 ∨ 3 ≤ m o ∧ m o ≤ 60) ∧ 0 ≤ m (o + 1) ∧ m (o + 1) ≤ 99 ∧ ∀ i : Nat, (i : Int) < m o → c (d + 1) i = m (o + 2 + i) ∧ 1 ≤ m (o + 2 + i) ∧ m (o + 2 + i) ≤ 99 ∧ c (d + 2) i = m (o + 62 + i) ∧ 1 ≤ m (o + 62 + i) ∧ m (o + 62 + i) ≤ 999 ∧ c (d + 3) i = m (o + 122 + i) ∧ 0 ≤ m (o + 122 + i) ∧ m (o + 122 + i) ≤ 99 ∧ c (d + 4) i = m (o + 182 + i) ∧ 0 ≤ m (o + 182 + i) ∧ m (o + 182 + i) ≤ 2 ∧ c (d + 5) i = shp (m o) i
def doR (c : Nat → Nat → Int) (m : Nat → Int) (d o : Nat) : Prop :=
  c d 0 = m o ∧ 0 ≤ m o ∧ m o ≤ 12 ∧ ∀ i : Nat, (i : Int) < m o → c (d + 1) i = m (o + 1 + i) + 9 ∧ 0 ≤ m (o + 1 + i) ∧ m (o + 1 + i) ≤ 3 ∧ c (d + 2) i = m (o + 13 + i) ∧ 0 ≤ m (o + 13 + i) ∧ m (o + 13 + i) ≤ 99 ∧ c (d + 3) i = m (o + 25 + i) ∧ 1 ≤ m (o + 25 + i) ∧ m (o + 25 + i) ≤ 200
def lawB (m : Nat → Int) : Prop := 0 ≤ m 1116 ∧ m 1116 ≤ 200 ∧ 0 ≤ m 1117 ∧ m 1117 ≤ 99 ∧ 1 ≤ m 1118 ∧ m 1118 ≤ 9 ∧ 1 ≤ m 1119 ∧ m 1119 ≤ 9 ∧ 0 ≤ m 1120 ∧ m 1120 ≤ 100 ∧ 0 ≤ m 1121 ∧ m 1121 ≤ 100 ∧ 0 ≤ m 1122 ∧ m 1122 ≤ 100 ∧ 0 ≤ m 1123 ∧ m 1123 ≤ 100
def lawR (c : Nat → Nat → Int) (m : Nat → Int) : Prop :=
  c 3 0 = m 1124 ∧ (∀ j : Nat, j < 8 → c 4 j = m (1116 + j)) ∧ lawB m
/-- codes j, j + 1, .. (k of them), begun on n values: how many values lie there behind them -/
def wfs (g : Nat → Int) : Nat → Nat → Nat → Option Nat
  | 0, _, n => some n
  | k + 1, j, n => if g j = 26 then (if 1 ≤ n then wfs g k (j + 1) n else none) else if g j = 24 ∨ g j = 25 then (if 2 ≤ n then wfs g k (j + 1) (n - 1) else none) else if 27 ≤ g j ∧ g j ≤ 36 then wfs g k (j + 1) (n + 1) else none
def lookR (c : Nat → Nat → Int) (m : Nat → Int) : Prop :=
  c 5 0 = m 2636 ∧ 0 ≤ m 2636 ∧ m 2636 ≤ 8 ∧ ∀ l : Nat, (l : Int) < m 2636 → ∃ a b : Nat, a ≤ b ∧ b ≤ 200 ∧ c 6 l = a ∧ c 6 (l + 1) = b ∧ m (2637 + l) = a ∧ m (2645 + l) = b ∧ wfs (fun j => m (2653 + 2 * j)) (b - a) a 0 = some 1 ∧ ∀ j : Nat, a ≤ j → j < b → c 7 j = m (2653 + 2 * j) ∧ c 8 j = m (2653 + 2 * j + 1)
def keptR (c : Nat → Nat → Int) (m : Nat → Int) : Prop :=
  c 0 1 = m 1125 ∧ (m 1125 = 0 ∨ m 1125 = 1) ∧ (m 1125 = 1 → (∀ t : Nat, t < 8 → c 11 t = m (1126 + t)) ∧ 0 ≤ m 1126 ∧ m 1126 ≤ 60 ∧ 1 ≤ m 1127 ∧ m 1127 ≤ 60 ∧ 0 ≤ m 1128 ∧ m 1128 ≤ 200
    ∧ (∀ w i : Nat, w < 4 → (i : Int) < m 1126 → c 12 (60 * w + i) = m (1134 + 60 * w + i))
    ∧ (∀ i : Nat, (i : Int) < m 1126 → 0 ≤ m (1134 + i) ∧ m (1134 + i) < 60)
    ∧ (∀ i : Nat, (i : Int) < m 1127 → c 14 i = m (1374 + i) ∧ 1 ≤ m (1374 + i) ∧ m (1374 + i) ≤ 60)
    ∧ (∀ w i : Nat, w < 6 → (i : Int) < m 1128 → c 13 (200 * w + i) = m (1435 + 200 * w + i))
    ∧ -8 ≤ c 10 0 ∧ c 10 0 ≤ 8
    ∧ (m 1126 < 2 → m 2635 = 0) ∧ (2 ≤ m 1126 → m 2635 = c 10 0 * (if m 1134 ≤ m 1135 then m 1135 - m 1134 else m 1134 - m 1135)))
def Stz (c : Nat → Nat → Int) (m : Nat → Int) : Prop :=
  (∀ r : Nat, r < 4 → rodR c m (15 + 6 * r) (242 * r)) ∧ (∀ r : Nat, r < 4 → doR c m (39 + 4 * r) (968 + 37 * r)) ∧ lawR c m ∧ lookR c m ∧ keptR c m
/-- what of a state of the class counts -/
def relz (d k : Nat) : Prop := (d = 0 ∧ k = 1) ∨ (d = 3 ∧ k = 0) ∨ (d = 4 ∧ k < 8) ∨ (d = 5 ∧ k = 0) ∨ (d = 6 ∧ k < 9) ∨ ((d = 7 ∨ d = 8) ∧ k < 400) ∨ (d = 10 ∧ k = 0) ∨ (d = 11 ∧ k < 8) ∨ (d = 12 ∧ k < 240) ∨ (d = 13 ∧ k < 1200) ∨ (d = 14 ∧ k < 60) ∨ (15 ≤ d ∧ d < 39 ∧ ((d - 15) % 6 = 0 ∧ k < 2 ∨ (d - 15) % 6 ≠ 0 ∧ k < 60)) ∨ (39 ≤ d ∧ d < 55 ∧ ((d - 39) % 4 = 0 ∧ k = 0 ∨ (d - 39) % 4 ≠ 0 ∧ k < 12))
theorem rl_rod0 {r k : Nat} (hr : r < 4) (hk : k < 2) : relz (15 + 6 * r) k := by
  unfold relz
  iterate 11 right
  left
  exact ⟨by omega, by omega, Or.inl ⟨by omega, hk⟩⟩
theorem rl_rod {r j k : Nat} (hr : r < 4) (h1 : 1 ≤ j) (h2 : j ≤ 5) (hk : k < 60) : relz (15 + 6 * r + j) k := by
  unfold relz
  iterate 11 right
  left
  exact ⟨by omega, by omega, Or.inr ⟨by omega, hk⟩⟩
theorem rl_do0 {r : Nat} (hr : r < 4) : relz (39 + 4 * r) 0 := by
  unfold relz
  iterate 12 right
  exact ⟨by omega, by omega, Or.inl ⟨by omega, rfl⟩⟩
theorem rl_do {r j k : Nat} (hr : r < 4) (h1 : 1 ≤ j) (h2 : j ≤ 3) (hk : k < 12) : relz (39 + 4 * r + j) k := by
  unfold relz
  iterate 12 right
  exact ⟨by omega, by omega, Or.inr ⟨by omega, hk⟩⟩
theorem rl_0 : relz 0 1 := Or.inl ⟨rfl, rfl⟩
theorem rl_3 : relz 3 0 := Or.inr (Or.inl ⟨rfl, rfl⟩)
theorem rl_4 {k : Nat} (h : k < 8) : relz 4 k := Or.inr (Or.inr (Or.inl ⟨rfl, h⟩))
theorem rl_5 : relz 5 0 := Or.inr (Or.inr (Or.inr (Or.inl ⟨rfl, rfl⟩)))
theorem rl_6 {k : Nat} (h : k < 9) : relz 6 k := Or.inr (Or.inr (Or.inr (Or.inr (Or.inl ⟨rfl, h⟩))))
theorem rl_7 {k : Nat} (h : k < 400) : relz 7 k := Or.inr (Or.inr (Or.inr (Or.inr (Or.inr (Or.inl ⟨Or.inl rfl, h⟩)))))
theorem rl_8 {k : Nat} (h : k < 400) : relz 8 k := Or.inr (Or.inr (Or.inr (Or.inr (Or.inr (Or.inl ⟨Or.inr rfl, h⟩)))))
theorem rl_10 : relz 10 0 := by
  unfold relz
  iterate 6 right
  left
  exact ⟨rfl, rfl⟩
theorem rl_11 {k : Nat} (h : k < 8) : relz 11 k := by
  unfold relz
  iterate 7 right
  left
  exact ⟨rfl, h⟩
theorem rl_12 {k : Nat} (h : k < 240) : relz 12 k := by
  unfold relz
  iterate 8 right
  left
  exact ⟨rfl, h⟩
theorem rl_13 {k : Nat} (h : k < 1200) : relz 13 k := by
  unfold relz
  iterate 9 right
  left
  exact ⟨rfl, h⟩
theorem rl_14 {k : Nat} (h : k < 60) : relz 14 k := by
  unfold relz
  iterate 10 right
  left
  exact ⟨rfl, h⟩
section CONGR
variable {c c' : Nat → Nat → Int} {m m' : Nat → Int}
theorem rodR.congr (hc : ∀ d k, relz d k → c' d k = c d k) (hm : ∀ k, k < 3053 → m' k = m k) {r : Nat} (hr : r < 4) (h : rodR c m (15 + 6 * r) (242 * r)) : rodR c' m' (15 + 6 * r) (242 * r) := by
  obtain ⟨h1, h2, h3, h4, h5, h6⟩ := h
  have e0 : m' (242 * r) = m (242 * r) := hm _ (by omega)
  have e1 : m' (242 * r + 1) = m (242 * r + 1) := hm _ (by omega)
  refine ⟨?_, ?_, ?_, ?_, ?_, ?_⟩
  · rw [hc _ _ (rl_rod0 hr (by omega)), e0]; exact h1
  · rw [hc _ _ (rl_rod0 hr (by omega)), e1]; exact h2
  · rw [e0]; exact h3
  · rw [e1]; exact h4
  · rw [e1]; exact h5
  · intro i hi
    rw [e0] at hi
    have := h6 i hi
    rw [hc _ _ (rl_rod hr (by omega) (by omega) (by omega)), hc _ _ (rl_rod hr (by omega) (by omega) (by omega)), hc _ _ (rl_rod hr (by omega) (by omega) (by omega)), hc _ _ (rl_rod hr (by omega) (by omega) (by omega)), hc _ _ (rl_rod hr (by omega) (by omega) (by omega)), hm _ (by omega), hm _ (by omega), hm _ (by omega), hm _ (by omega), e0]
    exact this
theorem doR.congr (hc : ∀ d k, relz d k → c' d k = c d k) (hm : ∀ k, k < 3053 → m' k = m k) {r : Nat} (hr : r < 4) (h : doR c m (39 + 4 * r) (968 + 37 * r)) : doR c' m' (39 + 4 * r) (968 + 37 * r) := by
  obtain ⟨h1, h2, h3, h6⟩ := h
  have e0 : m' (968 + 37 * r) = m (968 + 37 * r) := hm _ (by omega)
  refine ⟨?_, ?_, ?_, ?_⟩
  · rw [hc _ _ (rl_do0 hr), e0]; exact h1
  · rw [e0]; exact h2
  · rw [e0]; exact h3
  · intro i hi
    rw [e0] at hi
    have := h6 i hi
    rw [hc _ _ (rl_do hr (by omega) (by omega) (by omega)), hc _ _ (rl_do hr (by omega) (by omega) (by omega)), hc _ _ (rl_do hr (by omega) (by omega) (by omega)), hm _ (by omega), hm _ (by omega), hm _ (by omega)]
    exact this
theorem lawB.congr (hm : ∀ k, k < 3053 → m' k = m k) (h : lawB m) : lawB m' := by
  unfold lawB at h ⊢
  rw [hm _ (by omega), hm _ (by omega), hm _ (by omega), hm _ (by omega), hm _ (by omega), hm _ (by omega), hm _ (by omega), hm _ (by omega)]
  exact h
theorem lawR.congr (hc : ∀ d k, relz d k → c' d k = c d k) (hm : ∀ k, k < 3053 → m' k = m k) (h : lawR c m) : lawR c' m' := by
  obtain ⟨h1, h2, h3⟩ := h
  refine ⟨?_, ?_, h3.congr hm⟩
  · rw [hc _ _ rl_3, hm _ (by omega)]; exact h1
  · intro j hj
    rw [hc _ _ (rl_4 (by omega)), hm _ (by omega)]; exact h2 j hj
theorem wfs_congr {g g' : Nat → Int} : ∀ (k j n : Nat), (∀ i, j ≤ i → i < j + k → g' i = g i) → wfs g' k j n = wfs g k j n := by
  intro k
  induction k with
  | zero => intro j n h; rfl
  | succ k ih =>
    intro j n h
    have e : g' j = g j := h j (Nat.le_refl _) (by omega)
    have h2 : ∀ i, j + 1 ≤ i → i < j + 1 + k → g' i = g i := fun i a b => h i (by omega) (by omega)
    simp only [wfs, e, ih _ _ h2]
theorem lookR.congr (hc : ∀ d k, relz d k → c' d k = c d k) (hm : ∀ k, k < 3053 → m' k = m k) (h : lookR c m) : lookR c' m' := by
  obtain ⟨h1, h2, h3, h4⟩ := h
  have e0 : m' 2636 = m 2636 := hm _ (by omega)
  refine ⟨?_, ?_, ?_, ?_⟩
  · rw [hc _ _ rl_5, e0]; exact h1
  · rw [e0]; exact h2
  · rw [e0]; exact h3
  · intro l hl
    rw [e0] at hl
    obtain ⟨a, b, q1, q2, q3, q4, q5, q6, q7, q8⟩ := h4 l hl
    refine ⟨a, b, q1, q2, ?_, ?_, ?_, ?_, ?_, ?_⟩
    · rw [hc _ _ (rl_6 (by omega))]; exact q3
    · rw [hc _ _ (rl_6 (by omega))]; exact q4
    · rw [hm _ (by omega)]; exact q5
    · rw [hm _ (by omega)]; exact q6
    · rw [wfs_congr (g := fun j => m (2653 + 2 * j)) _ _ _ (fun i a1 b1 => hm _ (by omega))]; exact q7
    · intro j a1 b1
      rw [hc _ _ (rl_7 (by omega)), hc _ _ (rl_8 (by omega)), hm _ (by omega), hm _ (by omega)]
      exact q8 j a1 b1
theorem keptR.congr (hc : ∀ d k, relz d k → c' d k = c d k) (hm : ∀ k, k < 3053 → m' k = m k) (h : keptR c m) : keptR c' m' := by
  obtain ⟨h1, h2, h3⟩ := h
  have e0 : m' 1125 = m 1125 := hm _ (by omega)
  refine ⟨?_, ?_, ?_⟩
  · rw [hc _ _ rl_0, e0]; exact h1
  · rw [e0]; exact h2
  · rw [e0]
    intro q
    obtain ⟨a1, a2, a3, a4, a5, a6, a7, a8, a9, a10, a11, a12, a13, a14, a15⟩ := h3 q
    have e1 : m' 1126 = m 1126 := hm _ (by omega)
    have e2 : m' 1127 = m 1127 := hm _ (by omega)
    have e3 : m' 1128 = m 1128 := hm _ (by omega)
    have e4 : m' 1134 = m 1134 := hm _ (by omega)
    have e5 : m' 1135 = m 1135 := hm _ (by omega)
    have e6 : m' 2635 = m 2635 := hm _ (by omega)
    have e7 : c' 10 0 = c 10 0 := hc _ _ rl_10
    rw [e1, e2, e3, e4, e5, e6, e7]
    refine ⟨?_, a2, a3, a4, a5, a6, a7, ?_, ?_, ?_, ?_, a12, a13, a14, a15⟩
    · intro t ht
      rw [hc _ _ (rl_11 (by omega)), hm _ (by omega)]; exact a1 t ht
    · intro w i hw hi
      rw [hc _ _ (rl_12 (by omega)), hm _ (by omega)]; exact a8 w i hw hi
    · intro i hi
      rw [hm _ (by omega)]; exact a9 i hi
    · intro i hi
      rw [hc _ _ (rl_14 (by omega)), hm _ (by omega)]; exact a10 i hi
    · intro w i hw hi
      rw [hc _ _ (rl_13 (by omega)), hm _ (by omega)]; exact a11 w i hw hi
theorem Stz.congr (hc : ∀ d k, relz d k → c' d k = c d k) (hm : ∀ k, k < 3053 → m' k = m k) (h : Stz c m) : Stz c' m' := by
  obtain ⟨h1, h2, h3, h4, h5⟩ := h
  exact ⟨fun r hr => (h1 r hr).congr hc hm hr, fun r hr => (h2 r hr).congr hc hm hr, h3.congr hc hm, h4.congr hc hm, h5.congr hc hm⟩
end CONGR
theorem rel_lt {d k : Nat} (h : relz d k) : d < 55 ∧ d ≠ 9 ∧ ¬ (d = 0 ∧ k = 0) := by
  unfold relz at h
  omega
def csz (b : Nat) (h : pv_H) : Nat → Nat → Int := fun d k => h (b + d) k
def msz (o : Nat) (h : pv_H) : Nat → Int := fun k => h 2 (o + k)
def byR (x y : Int) : Prop := 0 ≤ y ∧ y ≤ 255 ∧ x = if y < 128 then y else y - 256
def tapeR (hc hm : pv_H) : Prop := hc 1 0 = hm 0 6 ∧ 0 ≤ hm 0 6 ∧ hm 0 6 ≤ 400 ∧ ∀ i : Nat, (i : Int) < hm 0 6 → byR (hc 19 i) (hm 4 i)
def imgR (i : Nat) (hc hm : pv_H) : Prop := hc (106 + 55 * i) 0 = hm 3 i ∧ (hm 3 i = 0 ∨ hm 3 i = 1) ∧ (hm 3 i = 1 → Stz (csz (106 + 55 * i) hc) (msz (3053 * (i + 1)) hm))
def rowR (k : Nat) (hc hm : pv_H) : Prop := (hc (216 + 2 * k) 0 = 0 ∧ hm 33 k = -1) ∨ (hc (216 + 2 * k) 0 = 1 ∧ 0 ≤ hm 33 k ∧ hm 33 k ≤ 3 ∧ hc (216 + 2 * k) 3 = hm 33 k ∧ hc (216 + 2 * k) 1 = hm 34 k ∧ 0 ≤ hm 34 k ∧ hm 34 k ≤ 60 ∧ ∀ i : Nat, (i : Int) < hm 34 k → hc (217 + 2 * k) i = hm 35 (60 * k + i))
/-- the relation that every call keeps -/
def SSz (hc hm : pv_H) : Prop :=
  tapeR hc hm ∧ (hc 1 1 = hm 0 15 ∧ hc 1 2 = hm 0 16) ∧ Stz (csz 20 hc) (msz 0 hm) ∧ (∀ i, i < 2 → imgR i hc hm) ∧ (∀ k, k < 4 → rowR k hc hm) ∧ (∀ k, k < 8 → hc 77 k = hm 1 k) ∧ hm 0 43 = 0
/-- places that nothing rests on from call to call -/
def PCz (i k : Nat) : Prop := (2 ≤ i ∧ i ≤ 18) ∨ (i = 1 ∧ 8 ≤ k) ∨ (78 ≤ i ∧ i ≤ 105) ∨ i = 29
def PMz (i k : Nat) : Prop := (i = 0 ∧ k ≠ 6 ∧ k ≠ 15 ∧ k ≠ 16 ∧ k ≠ 43) ∨ (5 ≤ i ∧ i ≤ 32)
section FRAME
variable {hc hm hc' hm' : pv_H}
theorem tapeR.frz (a : tapeR hc hm) (f : frz PCz hc hc') (g : frz PMz hm hm') : tapeR hc' hm' := by
  obtain ⟨h1, h2, h3, h4⟩ := a
  have e : hm' 0 6 = hm 0 6 := g _ _ (by unfold PMz; omega)
  unfold tapeR
  rw [e, f _ _ (by unfold PCz; omega)]
  refine ⟨h1, h2, h3, fun i hi => ?_⟩
  rw [f _ _ (by unfold PCz; omega), g _ _ (by unfold PMz; omega)]
  exact h4 i hi
theorem imgR.frz {i : Nat} (hi : i < 2) (a : imgR i hc hm) (f : frz PCz hc hc') (g : frz PMz hm hm') : imgR i hc' hm' := by
  obtain ⟨h1, h2, h3⟩ := a
  unfold imgR
  rw [f _ _ (by unfold PCz; omega), g _ _ (by unfold PMz; omega)]
  refine ⟨h1, h2, fun q => (h3 q).congr (fun d k hr => ?_) (fun k hk => ?_)⟩
  · have := rel_lt hr
    exact f _ _ (by unfold PCz; omega)
  · exact g _ _ (by unfold PMz; omega)
theorem rowR.frz {k : Nat} (hk : k < 4) (a : rowR k hc hm) (f : frz PCz hc hc') (g : frz PMz hm hm') : rowR k hc' hm' := by
  unfold rowR at a ⊢
  have e0 : hc' (216 + 2 * k) 0 = hc (216 + 2 * k) 0 := f _ _ (by unfold PCz; omega)
  have e1 : hc' (216 + 2 * k) 1 = hc (216 + 2 * k) 1 := f _ _ (by unfold PCz; omega)
  have e3 : hc' (216 + 2 * k) 3 = hc (216 + 2 * k) 3 := f _ _ (by unfold PCz; omega)
  have e4 : hm' 33 k = hm 33 k := g _ _ (by unfold PMz; omega)
  have e5 : hm' 34 k = hm 34 k := g _ _ (by unfold PMz; omega)
  rw [e0, e1, e3, e4, e5]
  rcases a with a | ⟨a1, a2, a3, a4, a5, a6, a7, a8⟩
  · exact Or.inl a
  · refine Or.inr ⟨a1, a2, a3, a4, a5, a6, a7, fun i hi => ?_⟩
    rw [f _ _ (by unfold PCz; omega), g _ _ (by unfold PMz; omega)]
    exact a8 i hi
theorem SSz.frz (a : SSz hc hm) (f : frz PCz hc hc') (g : frz PMz hm hm') : SSz hc' hm' := by
  obtain ⟨a1, ⟨a2, a3⟩, a4, a5, a6, a7, a8⟩ := a
  refine ⟨a1.frz f g, ⟨?_, ?_⟩, a4.congr (fun d k hr => ?_) (fun k hk => ?_), fun i hi => (a5 i hi).frz hi f g, fun k hk => (a6 k hk).frz hk f g, fun k hk => ?_, ?_⟩
  · rw [f _ _ (by unfold PCz; omega), g _ _ (by unfold PMz; omega)]; exact a2
  · rw [f _ _ (by unfold PCz; omega), g _ _ (by unfold PMz; omega)]; exact a3
  · have := rel_lt hr
    exact f _ _ (by unfold PCz; omega)
  · exact g _ _ (by unfold PMz; omega)
  · rw [f _ _ (by unfold PCz; omega), g _ _ (by unfold PMz; omega)]; exact a7 k hk
  · rw [g _ _ (by unfold PMz; omega)]; exact a8
/-- a call that begins in the reference: 'thrown' is 0 -/
theorem SSz.th (a : SSz hc hm) : SSz hc (pv_up hm 0 0 0) := a.frz frz.rf (frz.rf.up (by unfold PMz; omega))
/-- a refused call -/
theorem SSz.no (a : SSz hc hm) {k : Nat} {x : Int} (hk : k < 8) : SSz (pv_up hc 77 k x) (pv_up hm 1 k x) := by
  obtain ⟨a1, a2, a4, a5, a6, a7, a8⟩ := a
  have f : ∀ i j, i ≠ 77 → pv_up hc 77 k x i j = hc i j := fun i j q => pv_up_ne (Or.inl q)
  have g : ∀ i j, i ≠ 1 → pv_up hm 1 k x i j = hm i j := fun i j q => pv_up_ne (Or.inl q)
  refine ⟨?_, ?_, a4.congr (fun d k hr => ?_) (fun k hk => ?_), fun i hi => ?_, fun k hk => ?_, fun j hj => ?_, ?_⟩
  · unfold tapeR
    rw [f _ _ (by omega), g _ _ (by omega)]
    obtain ⟨h1, h2, h3, h4⟩ := a1
    exact ⟨h1, h2, h3, fun i hi => by rw [f _ _ (by omega), g _ _ (by omega)]; exact h4 i hi⟩
  · rw [f _ _ (by omega), f _ _ (by omega), g _ _ (by omega), g _ _ (by omega)]; exact a2
  · have := rel_lt hr
    exact f _ _ (by omega)
  · exact g _ _ (by omega)
  · obtain ⟨h1, h2, h3⟩ := a5 i hi
    unfold imgR
    rw [f _ _ (by omega), g _ _ (by omega)]
    refine ⟨h1, h2, fun q => (h3 q).congr (fun d k hr => ?_) (fun k hk => ?_)⟩
    · have := rel_lt hr
      exact f _ _ (by omega)
    · exact g _ _ (by omega)
  · have b := a6 k hk
    unfold rowR at b ⊢
    rw [f _ _ (by omega), f _ _ (by omega), f _ _ (by omega), g _ _ (by omega), g _ _ (by omega)]
    rcases b with b | ⟨b1, b2, b3, b4, b5, b6, b7, b8⟩
    · exact Or.inl b
    · refine Or.inr ⟨b1, b2, b3, b4, b5, b6, b7, fun i hi => ?_⟩
      rw [f _ _ (by omega), g _ _ (by omega)]
      exact b8 i hi
  · by_cases e : j = k
    · subst e
      rw [pv_up_self, pv_up_self]
    · rw [pv_up_ne (Or.inr e), pv_up_ne (Or.inr e)]; exact a7 j hj
  · rw [g _ _ (by omega)]; exact a8
end FRAME
