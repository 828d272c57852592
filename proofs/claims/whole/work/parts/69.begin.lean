/-! the relation as both begin -/
set_option maxRecDepth 20000 in
theorem b0_a : hC_fin 1 0 = 0 ∧ hC_fin 1 1 = 0 ∧ hC_fin 1 2 = -1 ∧ hC_fin 23 0 = 0 ∧ hC_fin 25 0 = 0 ∧ hC_fin 20 1 = 0 := by decide +kernel
set_option maxRecDepth 20000 in
theorem b0_b : hM_fin 0 6 = 0 ∧ hM_fin 0 15 = 0 ∧ hM_fin 0 16 = -1 ∧ hM_fin 2 1124 = 0 ∧ hM_fin 2 2636 = 0 ∧ hM_fin 2 1125 = 0 ∧ hM_fin 0 43 = 0 := by decide +kernel
set_option maxRecDepth 20000 in
theorem b0_r : ∀ r : Nat, r < 4 → hC_fin (35 + 6 * r) 0 = 0 ∧ hC_fin (35 + 6 * r) 1 = 0 ∧ hC_fin (59 + 4 * r) 0 = 0 ∧ hC_fin (216 + 2 * r) 0 = 0 := by decide +kernel
set_option maxRecDepth 20000 in
theorem b0_s : ∀ r : Nat, r < 4 → hM_fin 2 (242 * r) = 0 ∧ hM_fin 2 (242 * r + 1) = 0 ∧ hM_fin 2 (968 + 37 * r) = 0 ∧ hM_fin 33 r = -1 := by decide +kernel
set_option maxRecDepth 20000 in
theorem b0_l : ∀ j : Nat, j < 8 → hC_fin 24 j = hM_fin 2 (1116 + j) := by decide +kernel
set_option maxRecDepth 20000 in
theorem b0_m : hM_fin 2 1116 = 100 ∧ hM_fin 2 1117 = 5 ∧ hM_fin 2 1118 = 2 ∧ hM_fin 2 1119 = 1 ∧ hM_fin 2 1120 = 50 ∧ hM_fin 2 1121 = 0 ∧ hM_fin 2 1122 = 20 ∧ hM_fin 2 1123 = 0 := by decide +kernel
set_option maxRecDepth 20000 in
theorem b0_i : ∀ i : Nat, i < 2 → hC_fin (106 + 55 * i) 0 = 0 ∧ hM_fin 3 i = 0 := by decide +kernel
set_option maxRecDepth 20000 in
theorem b0_n : ∀ k : Nat, k < 8 → hC_fin 77 k = 0 ∧ hM_fin 1 k = 0 := by decide +kernel
theorem s_begin : SSz hC_fin hM_fin := by
  obtain ⟨a1, a2, a3, a4, a5, a6⟩ := b0_a
  obtain ⟨m1, m2, m3, m4, m5, m6, m7⟩ := b0_b
  obtain ⟨l1, l2, l3, l4, l5, l6, l7, l8⟩ := b0_m
  refine ⟨⟨by rw [a1, m1], by omega, by omega, fun i hi => by omega⟩, ⟨by rw [a2, m2], by rw [a3, m3]⟩, ⟨fun r hr => ?_, fun r hr => ?_, ?_, ?_, ?_⟩, fun i hi => ?_, fun k hk => ?_, fun k hk => ?_, m7⟩
  · obtain ⟨c1, c2, _⟩ := b0_r r hr
    obtain ⟨d1, d2, _⟩ := b0_s r hr
    have e : 20 + (15 + 6 * r) = 35 + 6 * r := by omega
    unfold rodR csz msz
    rw [e, Nat.zero_add, Nat.zero_add, c1, c2, d1, d2]
    exact ⟨rfl, rfl, Or.inl rfl, by omega, by omega, fun i hi => by omega⟩
  · obtain ⟨_, _, c3, _⟩ := b0_r r hr
    obtain ⟨_, _, d3, _⟩ := b0_s r hr
    have e : 20 + (39 + 4 * r) = 59 + 4 * r := by omega
    unfold doR csz msz
    rw [e, Nat.zero_add, c3, d3]
    exact ⟨rfl, by omega, by omega, fun i hi => by omega⟩
  · unfold lawR lawB csz msz
    simp only [Nat.zero_add, Nat.reduceAdd]
    refine ⟨by rw [a4, m4], fun j hj => b0_l j hj, ?_⟩
    rw [l1, l2, l3, l4, l5, l6, l7, l8]
    omega
  · unfold lookR csz msz
    simp only [Nat.zero_add, Nat.reduceAdd]
    rw [a5, m5]
    exact ⟨rfl, by omega, by omega, fun l hl => by omega⟩
  · unfold keptR csz msz
    simp only [Nat.zero_add, Nat.reduceAdd]
    rw [a6, m6]
    exact ⟨rfl, Or.inl rfl, fun z => by omega⟩
  · obtain ⟨c1, c2⟩ := b0_i i hi
    exact ⟨by rw [c1, c2], Or.inl c2, fun z => by omega⟩
  · obtain ⟨_, _, _, c4⟩ := b0_r k hk
    obtain ⟨_, _, _, d4⟩ := b0_s k hk
    exact Or.inl ⟨c4, d4⟩
  · obtain ⟨c1, c2⟩ := b0_n k hk
    rw [c1, c2]
