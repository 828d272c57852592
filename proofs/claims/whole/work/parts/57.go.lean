/-! go: the run is kept -/
section CONG2
variable {c c' : Nat → Nat → Int} {m m' : Nat → Int}
theorem rodR.cong2 (hc : ∀ d k, relz d k → ¬ (d = 0 ∨ 10 ≤ d ∧ d ≤ 14) → c' d k = c d k) (hm : ∀ k, k < 3053 → ¬ (1125 ≤ k ∧ k < 2636) → m' k = m k) {r : Nat} (hr : r < 4) (h : rodR c m (15 + 6 * r) (242 * r)) : rodR c' m' (15 + 6 * r) (242 * r) := by
  obtain ⟨h1, h2, h3, h4, h5, h6⟩ := h
  have e0 : m' (242 * r) = m (242 * r) := hm _ (by omega) (by omega)
  have e1 : m' (242 * r + 1) = m (242 * r + 1) := hm _ (by omega) (by omega)
  refine ⟨?_, ?_, ?_, ?_, ?_, ?_⟩
  · rw [hc _ _ (rl_rod0 hr (by omega)) (by omega), e0]; exact h1
  · rw [hc _ _ (rl_rod0 hr (by omega)) (by omega), e1]; exact h2
  · rw [e0]; exact h3
  · rw [e1]; exact h4
  · rw [e1]; exact h5
  · intro i hi
    rw [e0] at hi
    have := h6 i hi
    rw [hc _ _ (rl_rod hr (by omega) (by omega) (by omega)) (by omega), hc _ _ (rl_rod hr (by omega) (by omega) (by omega)) (by omega), hc _ _ (rl_rod hr (by omega) (by omega) (by omega)) (by omega), hc _ _ (rl_rod hr (by omega) (by omega) (by omega)) (by omega), hc _ _ (rl_rod hr (by omega) (by omega) (by omega)) (by omega), hm _ (by omega) (by omega), hm _ (by omega) (by omega), hm _ (by omega) (by omega), hm _ (by omega) (by omega), e0]
    exact this
theorem doR.cong2 (hc : ∀ d k, relz d k → ¬ (d = 0 ∨ 10 ≤ d ∧ d ≤ 14) → c' d k = c d k) (hm : ∀ k, k < 3053 → ¬ (1125 ≤ k ∧ k < 2636) → m' k = m k) {r : Nat} (hr : r < 4) (h : doR c m (39 + 4 * r) (968 + 37 * r)) : doR c' m' (39 + 4 * r) (968 + 37 * r) := by
  obtain ⟨h1, h2, h3, h6⟩ := h
  have e0 : m' (968 + 37 * r) = m (968 + 37 * r) := hm _ (by omega) (by omega)
  refine ⟨?_, ?_, ?_, ?_⟩
  · rw [hc _ _ (rl_do0 hr) (by omega), e0]; exact h1
  · rw [e0]; exact h2
  · rw [e0]; exact h3
  · intro i hi
    rw [e0] at hi
    have := h6 i hi
    rw [hc _ _ (rl_do hr (by omega) (by omega) (by omega)) (by omega), hc _ _ (rl_do hr (by omega) (by omega) (by omega)) (by omega), hc _ _ (rl_do hr (by omega) (by omega) (by omega)) (by omega), hm _ (by omega) (by omega), hm _ (by omega) (by omega), hm _ (by omega) (by omega)]
    exact this
theorem lawB.cong2 (hm : ∀ k, k < 3053 → ¬ (1125 ≤ k ∧ k < 2636) → m' k = m k) (h : lawB m) : lawB m' := by
  unfold lawB at h ⊢
  rw [hm _ (by omega) (by omega), hm _ (by omega) (by omega), hm _ (by omega) (by omega), hm _ (by omega) (by omega), hm _ (by omega) (by omega), hm _ (by omega) (by omega), hm _ (by omega) (by omega), hm _ (by omega) (by omega)]
  exact h
theorem lawR.cong2 (hc : ∀ d k, relz d k → ¬ (d = 0 ∨ 10 ≤ d ∧ d ≤ 14) → c' d k = c d k) (hm : ∀ k, k < 3053 → ¬ (1125 ≤ k ∧ k < 2636) → m' k = m k) (h : lawR c m) : lawR c' m' := by
  obtain ⟨h1, h2, h3⟩ := h
  refine ⟨?_, ?_, h3.cong2 hm⟩
  · rw [hc _ _ rl_3 (by omega), hm _ (by omega) (by omega)]; exact h1
  · intro j hj
    rw [hc _ _ (rl_4 (by omega)) (by omega), hm _ (by omega) (by omega)]; exact h2 j hj
theorem lookR.cong2 (hc : ∀ d k, relz d k → ¬ (d = 0 ∨ 10 ≤ d ∧ d ≤ 14) → c' d k = c d k) (hm : ∀ k, k < 3053 → ¬ (1125 ≤ k ∧ k < 2636) → m' k = m k) (h : lookR c m) : lookR c' m' := by
  obtain ⟨h1, h2, h3, h4⟩ := h
  have e0 : m' 2636 = m 2636 := hm _ (by omega) (by omega)
  refine ⟨?_, ?_, ?_, ?_⟩
  · rw [hc _ _ rl_5 (by omega), e0]; exact h1
  · rw [e0]; exact h2
  · rw [e0]; exact h3
  · intro l hl
    rw [e0] at hl
    obtain ⟨a, b, q1, q2, q3, q4, q5, q6, q7, q8⟩ := h4 l hl
    refine ⟨a, b, q1, q2, ?_, ?_, ?_, ?_, ?_, ?_⟩
    · rw [hc _ _ (rl_6 (by omega)) (by omega)]; exact q3
    · rw [hc _ _ (rl_6 (by omega)) (by omega)]; exact q4
    · rw [hm _ (by omega) (by omega)]; exact q5
    · rw [hm _ (by omega) (by omega)]; exact q6
    · rw [wfs_congr (g := fun j => m (2653 + 2 * j)) _ _ _ (fun i a1 b1 => hm _ (by omega) (by omega))]; exact q7
    · intro j a1 b1
      rw [hc _ _ (rl_7 (by omega)) (by omega), hc _ _ (rl_8 (by omega)) (by omega), hm _ (by omega) (by omega), hm _ (by omega) (by omega)]
      exact q8 j a1 b1
end CONG2
section KEEP
variable {N : Nat} {a1 a2 a3 : Int}
theorem go_372 {W : Nat} (hW : W ≤ 200) : ∀ (f i : Nat) (h : pv_H), i ≤ W → W < i + f → h 0 39 = (W : Int) → ∃ h', fX10_go_372 N a1 a2 a3 f (i : Int) h = some (h', h 0 42) ∧ (∀ x y, ¬ (x = 2 ∧ 1435 ≤ y ∧ y < 2635 ∧ i ≤ (y - 1435) % 200) → h' x y = h x y) ∧ ∀ w k, w < 6 → i ≤ k → k < W → h' 2 (1435 + 200 * w + k) = h (25 + w) k := by
  intro f
  induction f with
  | zero => intro i h h1 h2; omega
  | succ f ih =>
    intro i h h1 h2 h3
    rw [fX10_go_372, h3]
    by_cases q : i = W
    · subst q
      rw [if_pos (by omega)]
      exact ⟨h, rfl, fun _ _ _ => rfl, fun w k _ _ _ => by omega⟩
    · have t0 : Int.toNat (1435 + (i : Int)) = 1435 + i := by omega
      have t1 : Int.toNat (1635 + (i : Int)) = 1635 + i := by omega
      have t2 : Int.toNat (1835 + (i : Int)) = 1835 + i := by omega
      have t3 : Int.toNat (2035 + (i : Int)) = 2035 + i := by omega
      have t4 : Int.toNat (2235 + (i : Int)) = 2235 + i := by omega
      have t5 : Int.toNat (2435 + (i : Int)) = 2435 + i := by omega
      simp (disch := omega) only [if_neg, if_pos, pv_w_id, tnc, t0, t1, t2, t3, t4, t5, bbs, pu_ne]
      generalize hg : pv_up (pv_up (pv_up (pv_up (pv_up (pv_up h 2 (1435 + i) (h 25 i)) 2 (1635 + i) (h 26 i)) 2 (1835 + i) (h 27 i)) 2 (2035 + i) (h 28 i)) 2 (2235 + i) (h 29 i)) 2 (2435 + i) (h 30 i) = g
      have F : ∀ x y, ¬ (x = 2 ∧ (y = 1435 + i ∨ y = 1635 + i ∨ y = 1835 + i ∨ y = 2035 + i ∨ y = 2235 + i ∨ y = 2435 + i)) → g x y = h x y := fun x y np => by
        rw [← hg]
        simp (disch := omega) only [pu_ne]
      have V : ∀ w, w < 6 → g 2 (1435 + 200 * w + i) = h (25 + w) i := fun w hw => by
        rcases (show w = 0 ∨ w = 1 ∨ w = 2 ∨ w = 3 ∨ w = 4 ∨ w = 5 by omega) with rfl | rfl | rfl | rfl | rfl | rfl
        · show g 2 (1435 + i) = h 25 i
          rw [← hg]; simp (disch := omega) only [pu_ne, pu_eq]
        · show g 2 (1635 + i) = h 26 i
          rw [← hg]; simp (disch := omega) only [pu_ne, pu_eq]
        · show g 2 (1835 + i) = h 27 i
          rw [← hg]; simp (disch := omega) only [pu_ne, pu_eq]
        · show g 2 (2035 + i) = h 28 i
          rw [← hg]; simp (disch := omega) only [pu_ne, pu_eq]
        · show g 2 (2235 + i) = h 29 i
          rw [← hg]; simp (disch := omega) only [pu_ne, pu_eq]
        · show g 2 (2435 + i) = h 30 i
          rw [← hg]; simp (disch := omega) only [pu_eq]
      obtain ⟨h', e1, e2, e3⟩ := ih (i + 1) g (by omega) (by omega) (by rw [F _ _ (by omega)]; exact h3)
      have e1 : fX10_go_372 N a1 a2 a3 f ((i : Int) + 1) g = some (h', h 0 42) := by
        rw [F 0 42 (by omega)] at e1
        exact e1
      refine ⟨h', e1, fun x y np => ?_, fun w k hw h4 h5 => ?_⟩
      · rw [e2 x y (by omega), F x y (by omega)]
      · by_cases y : k = i
        · subst y
          rw [e2 _ _ (by omega)]
          exact V w hw
        · rw [e3 w k hw (by omega) h5, F _ _ (by omega)]
theorem go_336 {W P : Nat} (hW : W ≤ 200) (hN : 1000 ≤ N) (hP : P ≤ 60) : ∀ (f i : Nat) (h : pv_H), i ≤ P → P < i + f → h 0 39 = (W : Int) → h 0 42 = (P : Int) → ∃ h', fX10_go_336 N a1 a2 a3 f (i : Int) h = some (h', (P : Int)) ∧ (∀ x y, ¬ (x = 2 ∧ 1435 ≤ y ∧ y < 2635) → ¬ (x = 2 ∧ 1374 + i ≤ y ∧ y < 1434) → h' x y = h x y) ∧ (∀ w k, w < 6 → k < W → h' 2 (1435 + 200 * w + k) = h (25 + w) k) ∧ ∀ k, i ≤ k → k < P → h' 2 (1374 + k) = h 24 k := by
  intro f
  induction f with
  | zero => intro i h h1 h2; omega
  | succ f ih =>
    intro i h h1 h2 h3 h4
    rw [fX10_go_336, h4]
    by_cases q : i = P
    · subst q
      rw [if_pos (by omega)]
      obtain ⟨h', e1, e2, e3⟩ := go_372 (N := N) (a1 := a1) (a2 := a2) (a3 := a3) hW N 0 h (by omega) (by omega) h3
      have e1 : fX10_go_372 N a1 a2 a3 N 0 h = some (h', h 0 42) := e1
      refine ⟨h', by rw [e1, h4], fun x y n1 n2 => e2 x y (by omega), fun w k hw hk => e3 w k hw (by omega) hk, fun k h5 h6 => by omega⟩
    · have t0 : Int.toNat (1374 + (i : Int)) = 1374 + i := by omega
      simp (disch := omega) only [if_neg, if_pos, pv_w_id, tnc, t0, bbs]
      obtain ⟨h', e1, e2, e3, e4⟩ := ih (i + 1) (pv_up h 2 (1374 + i) (h 24 i)) (by omega) (by omega) (by rw [pv_up_ne (by omega)]; exact h3) (by rw [pv_up_ne (by omega)]; exact h4)
      refine ⟨h', e1, fun x y n1 n2 => ?_, fun w k hw hk => ?_, fun k h5 h6 => ?_⟩
      · rw [e2 x y n1 (by omega), pv_up_ne (by omega)]
      · rw [e3 w k hw hk, pv_up_ne (by omega)]
      · by_cases y : k = i
        · subst y
          rw [e2 _ _ (by omega) (by omega), pv_up_self]
        · rw [e4 k (by omega) h6, pv_up_ne (by omega)]
theorem go_246 {W P B : Nat} (hW : W ≤ 200) (hN : 1000 ≤ N) (hP : P ≤ 60) (hB : B ≤ 60) : ∀ (f i : Nat) (h : pv_H), i ≤ B → B < i + f → h 0 38 = (B : Int) → h 0 39 = (W : Int) → h 0 42 = (P : Int) → ∃ h', fX10_go_246 N a1 a2 a3 f (i : Int) h = some (h', (P : Int)) ∧ (∀ x y, ¬ (x = 2 ∧ 1134 ≤ y ∧ y < 2635) → h' x y = h x y) ∧ (∀ w k, w < 6 → k < W → h' 2 (1435 + 200 * w + k) = h (25 + w) k) ∧ (∀ k, k < P → h' 2 (1374 + k) = h 24 k) ∧ (∀ w k, w < 4 → i ≤ k → k < B → h' 2 (1134 + 60 * w + k) = h (20 + w) k) ∧ ∀ w k, w < 4 → k < i → h' 2 (1134 + 60 * w + k) = h 2 (1134 + 60 * w + k) := by
  intro f
  induction f with
  | zero => intro i h h1 h2; omega
  | succ f ih =>
    intro i h h1 h2 h3 h4 h5
    rw [fX10_go_246, h3]
    by_cases q : i = B
    · subst q
      rw [if_pos (by omega)]
      obtain ⟨h', e1, e2, e3, e4⟩ := go_336 (N := N) (a1 := a1) (a2 := a2) (a3 := a3) hW hN hP N 0 h (by omega) (by omega) h4 h5
      have e1 : fX10_go_336 N a1 a2 a3 N 0 h = some (h', (P : Int)) := e1
      exact ⟨h', e1, fun x y n1 => e2 x y (by omega) (by omega), e3, fun k hk => e4 k (by omega) hk, fun w k _ h5 h6 => by omega, fun w k hw hk => e2 _ _ (by omega) (by omega)⟩
    · have t0 : Int.toNat (1134 + (i : Int)) = 1134 + i := by omega
      have t1 : Int.toNat (1194 + (i : Int)) = 1194 + i := by omega
      have t2 : Int.toNat (1254 + (i : Int)) = 1254 + i := by omega
      have t3 : Int.toNat (1314 + (i : Int)) = 1314 + i := by omega
      simp (disch := omega) only [if_neg, if_pos, pv_w_id, tnc, t0, t1, t2, t3, bbs, pu_ne]
      generalize hg : pv_up (pv_up (pv_up (pv_up h 2 (1134 + i) (h 20 i)) 2 (1194 + i) (h 21 i)) 2 (1254 + i) (h 22 i)) 2 (1314 + i) (h 23 i) = g
      have F : ∀ x y, ¬ (x = 2 ∧ (y = 1134 + i ∨ y = 1194 + i ∨ y = 1254 + i ∨ y = 1314 + i)) → g x y = h x y := fun x y np => by
        rw [← hg]
        simp (disch := omega) only [pu_ne]
      have V : ∀ w, w < 4 → g 2 (1134 + 60 * w + i) = h (20 + w) i := fun w hw => by
        rcases (show w = 0 ∨ w = 1 ∨ w = 2 ∨ w = 3 by omega) with rfl | rfl | rfl | rfl
        · show g 2 (1134 + i) = h 20 i
          rw [← hg]; simp (disch := omega) only [pu_ne, pu_eq]
        · show g 2 (1194 + i) = h 21 i
          rw [← hg]; simp (disch := omega) only [pu_ne, pu_eq]
        · show g 2 (1254 + i) = h 22 i
          rw [← hg]; simp (disch := omega) only [pu_ne, pu_eq]
        · show g 2 (1314 + i) = h 23 i
          rw [← hg]; simp (disch := omega) only [pu_eq]
      obtain ⟨h', e1, e2, e3, e4, e5, e6⟩ := ih (i + 1) g (by omega) (by omega) (by rw [F _ _ (by omega)]; exact h3) (by rw [F _ _ (by omega)]; exact h4) (by rw [F _ _ (by omega)]; exact h5)
      refine ⟨h', e1, fun x y np => ?_, fun w k hw hk => ?_, fun k hk => ?_, fun w k hw h7 h8 => ?_, fun w k hw hk => ?_⟩
      · rw [e2 x y np, F x y (by omega)]
      · rw [e3 w k hw hk, F _ _ (by omega)]
      · rw [e4 k hk, F _ _ (by omega)]
      · by_cases y : k = i
        · subst y
          rw [e6 w k hw (by omega)]
          exact V w hw
        · rw [e5 w k hw (by omega) h8, F _ _ (by omega)]
      · rw [e6 w k hw (by omega), F _ _ (by omega)]
theorem go_202 {n : Nat} (hn : n ≤ 60) : ∀ (f i : Nat) (h : pv_H), i ≤ n → n < i + f → h 0 19 = (n : Int) → (∀ k, k < n → h 18 k = 0 ∨ h 18 k = 1) → h 2 1133 = sumz (h 18) i → ∃ h', fX10_go_202 N a1 a2 a3 f (i : Int) h = fX10_go_246 N a1 a2 a3 N 0 h' ∧ (∀ x y, ¬ (x = 2 ∧ y = 1133) → h' x y = h x y) ∧ h' 2 1133 = sumz (h 18) n := by
  intro f
  induction f with
  | zero => intro i h h1 h2; omega
  | succ f ih =>
    intro i h h1 h2 h3 h4 h5
    rw [fX10_go_202, h3]
    by_cases q : i = n
    · subst q
      rw [if_pos (by omega)]
      exact ⟨h, rfl, fun _ _ _ => rfl, h5⟩
    · have t0 : Int.toNat 1133 = 1133 := rfl
      have sb := sumz_b (f := h 18) i (fun k hk => h4 k (by omega))
      have key : ∀ s0 : Int, s0 = h 18 i → ∃ h', fX10_go_235 N (fun v5_ hh => fX10_go_202 N a1 a2 a3 f v5_ hh) a1 a2 a3 (i : Int) s0 (h 2 1133) 1133 h = fX10_go_246 N a1 a2 a3 N 0 h' ∧ (∀ x y, ¬ (x = 2 ∧ y = 1133) → h' x y = h x y) ∧ h' 2 1133 = sumz (h 18) n := by
        intro s0 hs
        have b := h4 i (by omega)
        unfold fX10_go_235
        rw [if_pos (by omega), t0, h5, pv_w_id (x := sumz (h 18) i + s0) (by omega) (by omega), bbs, bbs, pws (by omega)]
        have e18 : pv_up h 2 1133 (sumz (h 18) i + s0) 18 = h 18 := by
          funext k
          exact pv_up_ne (by omega)
        obtain ⟨h', e1, e2, e3⟩ := ih (i + 1) (pv_up h 2 1133 (sumz (h 18) i + s0)) (by omega) (by omega) (by rw [pv_up_ne (by omega)]; exact h3) (fun k hk => by rw [e18]; exact h4 k hk) (by rw [pv_up_self, e18, hs]; rfl)
        rw [e18] at e3
        exact ⟨h', e1, fun x y np => by rw [e2 x y np, pv_up_ne (by omega)], e3⟩
      rw [if_neg (by omega), if_pos (by omega), tnc]
      by_cases z : h 18 i = 0
      · rw [if_pos z]; exact key 0 z.symm
      · rw [if_neg z]
        have b := h4 i (by omega)
        exact key 1 (by omega)
end KEEP
theorem s_go : sm_go SSz := by
  intro hc hm S a1 a2 a3 _ _ _
  refine two_th S fun hm S => ?_
  unfold fX9_go fX9_go_15
  by_cases hr : rodOk hm a1
  · obtain ⟨a, rfl⟩ := Int.eq_ofNat_of_zero_le hr.1
    have ha := hr.2.1
    have hA : 0 ≤ (a : Int) ∧ (a : Int) < 4 := ⟨by omega, ha⟩
    by_cases hd : 0 ≤ a2 ∧ a2 < 4
    · obtain ⟨b, rfl⟩ := Int.eq_ofNat_of_zero_le hd.1
      obtain ⟨h1, h2, hc', hm', np, n, e1, e2, e3, e4, S', R, en, n3, n60, e79, lb, e19, _, F, G⟩ := pcs_2 S (seed := a3) (p := 1) (t := -1) hr (show b < 4 by omega) (by omega) (by omega) (Or.inl rfl)
      obtain ⟨nb, nw, ng, B, W, p1, p2, q1, q2, P, q3, q4, q5, q6, q7, L⟩ := R
      have nb60 : nb ≤ 60 := by have := sumz_b (f := hm' 17) n (fun k hk => (B.2.2.2.1 k hk).2); have := B.2.2.1; omega
      obtain ⟨hc2, c1, c2, c3⟩ := cp7 (N := pv_NN) (tt := 30) (a := 79) (h := hc') (by omega)
      have eb : fX1_breakRod pv_NN (35 + 6 * a) (59 + 4 * b) 23 a3 hc = some (hc', (np : Int)) := by
        unfold fX1_breakRod
        rw [e1, c1s, e2, c1s, e3, c2s]
      -- the reference keeps it
      generalize hA0 : pv_up (pv_up (pv_up (pv_up (pv_up (pv_up (pv_up (pv_up hm' 2 1125 1) 2 1126 (hm' 0 38)) 2 1127 (hm' 0 42)) 2 1128 (hm' 0 39)) 2 1129 (hm' 0 40)) 2 1130 (hm' 0 41)) 2 1131 (hm' 0 36)) 2 1132 (hm' 0 37) = m1
      have f1 : ∀ x y, ¬ (x = 2 ∧ 1125 ≤ y ∧ y ≤ 1132) → m1 x y = hm' x y := fun x y np => by
        rw [← hA0]
        simp (disch := omega) only [pu_ne]
      have v1 : m1 2 1125 = 1 ∧ m1 2 1126 = hm' 0 38 ∧ m1 2 1127 = hm' 0 42 ∧ m1 2 1128 = hm' 0 39 ∧ m1 2 1129 = hm' 0 40 ∧ m1 2 1130 = hm' 0 41 ∧ m1 2 1131 = hm' 0 36 ∧ m1 2 1132 = hm' 0 37 := by
        rw [← hA0]
        simp (disch := omega) only [pu_ne, pu_eq]
        exact ⟨trivial, trivial, trivial, trivial, trivial, trivial, trivial, trivial⟩
      obtain ⟨ah, hah⟩ : ∃ ah : Int, ah = hm' 2 1118 - hm' 2 1119 := ⟨_, rfl⟩
      obtain ⟨df, hdf⟩ : ∃ df : Int, df = if 2 ≤ nb then (if hm' 20 0 ≤ hm' 20 1 then hm' 20 1 - hm' 20 0 else hm' 20 0 - hm' 20 1) else 0 := ⟨_, rfl⟩
      have dfb : 0 ≤ df ∧ df ≤ 60 := by
        rw [hdf]
        by_cases z : 2 ≤ nb
        · rw [if_pos z]
          obtain ⟨_, _, _, _, ca, ca1, ca2, _⟩ := B.2.2.2.2.1 0 (by omega)
          obtain ⟨_, _, _, _, cb, cb1, cb2, _⟩ := B.2.2.2.2.1 1 (by omega)
          by_cases y : hm' 20 0 ≤ hm' 20 1
          · rw [if_pos y]; omega
          · rw [if_neg y]; omega
        · rw [if_neg z]; omega
      have pb : -480 ≤ ah * df ∧ ah * df ≤ 480 := by
        have x1 : ah * df ≤ 8 * df := Int.mul_le_mul_of_nonneg_right (by omega) dfb.1
        have x2 : (-8) * df ≤ ah * df := Int.mul_le_mul_of_nonneg_right (by omega) dfb.1
        omega
      generalize hA2 : pv_up (pv_up m1 2 2635 (ah * df)) 2 1133 0 = m2
      have f2 : ∀ x y, ¬ (x = 2 ∧ (y = 2635 ∨ y = 1133)) → m2 x y = m1 x y := fun x y np => by rw [← hA2, pv_up_ne (by omega), pv_up_ne (by omega)]
      have v2 : m2 2 2635 = ah * df ∧ m2 2 1133 = 0 := by
        rw [← hA2, pv_up_ne (by omega), pv_up_self, pv_up_self]
        exact ⟨rfl, rfl⟩
      have k188 : ∀ s0 : Int, s0 = df → fX10_go_188 pv_NN (a : Int) (b : Int) a3 s0 (pv_w (m1 2 1118 - m1 2 1119)) 2635 m1 = fX10_go_202 pv_NN (a : Int) (b : Int) a3 pv_NN 0 m2 := by
        intro s0 hs
        unfold fX10_go_188
        rw [f1 2 1118 (by omega), f1 2 1119 (by omega), ← hah, pv_w_id (x := ah) (by omega) (by omega), if_pos (by omega), hs, pv_w_id (x := ah * df) (by omega) (by omega), bbs, show Int.toNat 2635 = 2635 from rfl, bbs, hA2]
      have k149 : ∀ s : Int, (0 ≤ s → s = df) → (s < 0 → -s = df) → fX10_go_149 pv_NN (a : Int) (b : Int) a3 s m1 = fX10_go_202 pv_NN (a : Int) (b : Int) a3 pv_NN 0 m2 := by
        intro s y1 y2
        unfold fX10_go_149
        by_cases z : 0 ≤ s
        · rw [if_pos z]; exact k188 s (y1 z)
        · rw [if_neg z, pv_w_id (x := -s) (by have := y2 (by omega); omega) (by have := y2 (by omega); omega)]; exact k188 _ (y2 (by omega))
      have eM : fX10_go pv_NN (a : Int) (b : Int) a3 hm = fX10_go pv_NN (a : Int) (b : Int) a3 hm := rfl
      obtain ⟨m3, g1, g2, g3⟩ := go_202 (N := pv_NN) (a1 := (a : Int)) (a2 := (b : Int)) (a3 := a3) n60 pv_NN 0 m2 (by omega) (by unfold pv_NN; omega) (by rw [f2 _ _ (by omega), f1 _ _ (by omega)]; exact e19) (fun k hk => by rw [f2 _ _ (by omega), f1 _ _ (by omega)]; exact L k hk) (by rw [v2.2]; rfl)
      have s18 : sumz (m2 18) n = sumz (hm' 18) n := sumz_congr n (fun k hk => by rw [f2 _ _ (by omega), f1 _ _ (by omega)])
      have f3 : ∀ x y, x ≠ 2 → m3 x y = hm' x y := fun x y q => by rw [g2 _ _ (by omega), f2 _ _ (by omega), f1 _ _ (by omega)]
      obtain ⟨m4, j1, j2, j3, j4, j5, j6⟩ := go_246 (N := pv_NN) (a1 := (a : Int)) (a2 := (b : Int)) (a3 := a3) W.2.2.1 (by decide) (show np ≤ 60 by omega) nb60 pv_NN 0 m3 (by omega) (by unfold pv_NN; omega) (by rw [f3 _ _ (by omega)]; exact B.2.1) (by rw [f3 _ _ (by omega)]; exact W.2.1) (by rw [f3 _ _ (by omega)]; exact q2)
      have f4 : ∀ x y, x ≠ 2 → m4 x y = hm' x y := fun x y q => by rw [j2 _ _ (by omega), f3 x y q]
      have o4 : ∀ y, ¬ (1125 ≤ y ∧ y < 2636) → m4 2 y = hm' 2 y := fun y q => by rw [j2 _ _ (by omega), g2 _ _ (by omega), f2 _ _ (by omega), f1 _ _ (by omega)]
      have t4 : ∀ y, 1125 ≤ y → y ≤ 1132 → m4 2 y = m1 2 y := fun y y1 y2 => by rw [j2 _ _ (by omega), g2 _ _ (by omega), f2 _ _ (by omega)]
      -- both
      rw [hasRod_1 S hr, c1s, if_neg n10, hasDo_1 hd, c1s, if_neg n10, if_pos hA, tnc, bbs, if_pos hd, tnc, bbs, eb, c2s, c1, c1s, bbs, isBoth_1 hr hd, c1s, if_neg n10, e4, c2s]
      simp (disch := omega) only [bbs, pu_ne, hA0]
      have hfin : (if 2 ≤ hm' 0 38 then fX10_go_149 pv_NN (a : Int) (b : Int) a3 (pv_w (hm' 20 0 - hm' 20 1)) m1 else fX10_go_149 pv_NN (a : Int) (b : Int) a3 0 m1) = some (m4, (np : Int)) := by
        have g1 : fX10_go_202 pv_NN (a : Int) (b : Int) a3 pv_NN 0 m2 = fX10_go_246 pv_NN (a : Int) (b : Int) a3 pv_NN 0 m3 := g1
        have j1 : fX10_go_246 pv_NN (a : Int) (b : Int) a3 pv_NN 0 m3 = some (m4, (np : Int)) := j1
        rw [B.2.1]
        by_cases z : 2 ≤ nb
        · rw [if_pos z] at hdf
          rw [if_pos (by omega)]
          obtain ⟨_, _, _, _, ca, ca1, ca2, _⟩ := B.2.2.2.2.1 0 (by omega)
          obtain ⟨_, _, _, _, cb, cb1, cb2, _⟩ := B.2.2.2.2.1 1 (by omega)
          rw [pv_w_id (x := hm' 20 0 - hm' 20 1) (by omega) (by omega), k149 _ (fun y => ?_) (fun y => ?_), g1, j1]
          · rw [hdf]
            by_cases w : hm' 20 0 ≤ hm' 20 1
            · rw [if_pos w]; omega
            · rw [if_neg w]
          · rw [hdf, if_pos (by omega)]; omega
        · rw [if_neg z] at hdf
          rw [if_neg (by omega), k149 _ (fun y => hdf.symm) (fun y => by omega), g1, j1]
      rw [hfin]
      refine wend rfl ?_
      -- the new state
      have FC : ∀ x y, ¬ (30 ≤ x ∧ x < 35) → ¬ (x = 20 ∧ y = 1) → pv_up hc2 20 1 1 x y = hc' x y := fun x y n1 n2 => by rw [pv_up_ne (by omega), c2 x y (by omega)]
      have K : ∀ j k, (j = 0 ∧ k = 0 ∨ j = 1 ∧ k < 8 ∨ j = 2 ∧ k < 240 ∨ j = 3 ∧ k < 1200 ∨ j = 4 ∧ k < 60) → pv_up hc2 20 1 1 (30 + j) k = hc' (79 + j) k := fun j k q => by rw [pv_up_ne (by omega)]; exact c3 j k q
      obtain ⟨s1, s2, s3, s4, s5, s6, s7⟩ := S'
      obtain ⟨r1, r2, r3, r4, r5⟩ := s3
      refine ⟨?_, ?_, ⟨?_, ?_, ?_, ?_, ?_⟩, fun i hi => ?_, fun k hk => ?_, fun k hk => ?_, ?_⟩
      · obtain ⟨z1, z2, z3, z4⟩ := s1
        unfold tapeR
        rw [FC _ _ (by omega) (by omega), f4 _ _ (by omega)]
        refine ⟨z1, z2, z3, fun i hi => ?_⟩
        rw [FC _ _ (by omega) (by omega), f4 _ _ (by omega)]
        exact z4 i hi
      · rw [FC _ _ (by omega) (by omega), FC _ _ (by omega) (by omega), f4 _ _ (by omega), f4 _ _ (by omega)]
        exact s2
      · exact fun q hq => (r1 q hq).cong2 (fun d k y n => by have := rel_lt y; exact FC _ _ (by omega) (by omega)) (fun k hk n => by unfold msz; rw [Nat.zero_add]; exact o4 k (by omega)) hq
      · exact fun q hq => (r2 q hq).cong2 (fun d k y n => by have := rel_lt y; exact FC _ _ (by omega) (by omega)) (fun k hk n => by unfold msz; rw [Nat.zero_add]; exact o4 k (by omega)) hq
      · exact r3.cong2 (fun d k y n => by have := rel_lt y; exact FC _ _ (by omega) (by omega)) (fun k hk n => by unfold msz; rw [Nat.zero_add]; exact o4 k (by omega))
      · exact r4.cong2 (fun d k y n => by have := rel_lt y; exact FC _ _ (by omega) (by omega)) (fun k hk n => by unfold msz; rw [Nat.zero_add]; exact o4 k (by omega))
      · -- what is kept
        have y0 : ∀ k, msz 0 m4 k = m4 2 k := fun k => by unfold msz; rw [Nat.zero_add]
        have z25 : m4 2 1125 = 1 := by rw [t4 _ (by omega) (by omega)]; exact v1.1
        have z26 : m4 2 1126 = (nb : Int) := by rw [t4 _ (by omega) (by omega), v1.2.1]; exact B.2.1
        have z27 : m4 2 1127 = (np : Int) := by rw [t4 _ (by omega) (by omega), v1.2.2.1]; exact q2
        have z28 : m4 2 1128 = (nw : Int) := by rw [t4 _ (by omega) (by omega), v1.2.2.2.1]; exact W.2.1
        have z33 : m4 2 1133 = sumz (hm' 18) n := by rw [j2 _ _ (by omega), g3, s18]
        have z2635 : m4 2 2635 = ah * df := by rw [j2 _ _ (by omega), g2 _ _ (by omega)]; exact v2.1
        have bk : ∀ w i, w < 4 → i < nb → m4 2 (1134 + 60 * w + i) = hm' (20 + w) i := fun w i hw hi => by rw [j5 w i hw (by omega) hi, f3 _ _ (by omega)]
        have ak : pv_up hc2 20 1 1 30 0 = ah := by rw [show (30 : Nat) = 30 + 0 from rfl, K 0 0 (by omega), hah]; exact e79
        unfold keptR
        simp only [y0]
        refine ⟨?_, Or.inr z25, fun _ => ⟨fun t ht => ?_, ?_, ?_, ?_, ?_, ?_, ?_, fun w i hw hi => ?_, fun i hi => ?_, fun i hi => ?_, fun w i hw hi => ?_, ?_, ?_, fun y => ?_, fun y => ?_⟩⟩
        · rw [z25]; exact pv_up_self _ _ _ _
        · show pv_up hc2 20 1 1 (30 + 1) t = _
          rw [K 1 t (by omega)]
          show hc' 80 t = _
          rcases (show t = 0 ∨ t = 1 ∨ t = 2 ∨ t = 3 ∨ t = 4 ∨ t = 5 ∨ t = 6 ∨ t = 7 by omega) with rfl | rfl | rfl | rfl | rfl | rfl | rfl | rfl
          · rw [z26]; exact B.1
          · rw [z27]; exact q1
          · rw [z28]; exact W.1
          · rw [t4 _ (by omega) (by omega), v1.2.2.2.2.1]; exact q3
          · rw [t4 _ (by omega) (by omega), v1.2.2.2.2.2.1]; exact q4
          · rw [t4 _ (by omega) (by omega), v1.2.2.2.2.2.2.1]; exact q5
          · rw [t4 _ (by omega) (by omega), v1.2.2.2.2.2.2.2]; exact q6
          · rw [z33]; exact q7
        · rw [z26]; omega
        · rw [z26]; omega
        · rw [z27]; omega
        · rw [z27]; omega
        · rw [z28]; omega
        · rw [z28]; have := W.2.2.1; omega
        · rw [z26] at hi
          rw [bk w i hw (by omega)]
          show pv_up hc2 20 1 1 (30 + 2) (60 * w + i) = _
          rw [K 2 _ (by omega)]
          show hc' 81 (60 * w + i) = _
          obtain ⟨x1, x2, x3, x4, _⟩ := B.2.2.2.2.1 i (by omega)
          rcases (show w = 0 ∨ w = 1 ∨ w = 2 ∨ w = 3 by omega) with rfl | rfl | rfl | rfl
          · rw [Nat.mul_zero, Nat.zero_add]; exact x1
          · exact x2
          · exact x3
          · exact x4
        · rw [z26] at hi
          have x := bk 0 i (by omega) (by omega)
          rw [Nat.mul_zero, Nat.add_zero, Nat.add_zero] at x
          obtain ⟨_, _, _, _, ca, ca1, ca2, _⟩ := B.2.2.2.2.1 i (by omega)
          rw [x, ca2]
          omega
        · rw [z27] at hi
          have x := P i (by omega)
          rw [j4 i (by omega), f3 _ _ (by omega)]
          refine ⟨?_, x.2.1, x.2.2⟩
          show pv_up hc2 20 1 1 (30 + 4) i = _
          rw [K 4 _ (by omega)]
          exact x.1
        · rw [z28] at hi
          rw [j3 w i hw (by omega), f3 _ _ (by omega)]
          show pv_up hc2 20 1 1 (30 + 3) (200 * w + i) = _
          rw [K 3 _ (by have := W.2.2.1; omega)]
          show hc' 82 (200 * w + i) = _
          obtain ⟨x1, x2, x3, x4, x5, x6, _⟩ := W.2.2.2.2.2 i (by omega)
          rcases (show w = 0 ∨ w = 1 ∨ w = 2 ∨ w = 3 ∨ w = 4 ∨ w = 5 by omega) with rfl | rfl | rfl | rfl | rfl | rfl
          · rw [Nat.mul_zero, Nat.zero_add]; exact x1
          · exact x2
          · exact x3
          · exact x4
          · exact x5
          · exact x6
        · show -8 ≤ pv_up hc2 20 1 1 30 0
          rw [ak]; omega
        · show pv_up hc2 20 1 1 30 0 ≤ 8
          rw [ak]; omega
        · rw [z26] at y
          rw [z2635, hdf, if_neg (by omega), Int.mul_zero]
        · rw [z26] at y
          have x0 := bk 0 0 (by omega) (by omega)
          have x1 := bk 0 1 (by omega) (by omega)
          have x0 : m4 2 1134 = hm' 20 0 := x0
          have x1 : m4 2 1135 = hm' 20 1 := x1
          show m4 2 2635 = pv_up hc2 20 1 1 30 0 * _
          rw [z2635, ak, hdf, if_pos (by omega), x0, x1]
      · -- an image
        obtain ⟨w1, w2, w3⟩ := s4 i hi
        unfold imgR
        rw [FC _ _ (by omega) (by omega), f4 _ _ (by omega)]
        refine ⟨w1, w2, fun q => (w3 q).congr (fun d k hr => ?_) (fun k hk => ?_)⟩
        · have := rel_lt hr
          exact FC _ _ (by omega) (by omega)
        · exact o4 _ (by omega)
      · -- a row
        have w := s5 k hk
        unfold rowR at w ⊢
        have b0 : pv_up hc2 20 1 1 (216 + 2 * k) 0 = hc' (216 + 2 * k) 0 := FC _ _ (by omega) (by omega)
        have b1 : pv_up hc2 20 1 1 (216 + 2 * k) 1 = hc' (216 + 2 * k) 1 := FC _ _ (by omega) (by omega)
        have b3 : pv_up hc2 20 1 1 (216 + 2 * k) 3 = hc' (216 + 2 * k) 3 := FC _ _ (by omega) (by omega)
        rw [b0, b1, b3, f4 33 k (by omega), f4 34 k (by omega)]
        rcases w with w | ⟨a1, a2, a3, a4, a5, a6, a7, a8⟩
        · exact Or.inl w
        · refine Or.inr ⟨a1, a2, a3, a4, a5, a6, a7, fun i hi => ?_⟩
          rw [FC _ _ (by omega) (by omega), f4 _ _ (by omega)]
          exact a8 i hi
      · rw [FC _ _ (by omega) (by omega), f4 _ _ (by omega)]; exact s6 k hk
      · rw [f4 _ _ (by omega)]; exact s7
    · rw [hasRod_1 S hr, c1s, if_neg n10, hasDo_0 hd, c1s, if_pos rfl, isBoth_0 (fun z => hd z.2), c1s, if_pos rfl]
      exact no2 S
  · rw [hasRod_0 S hr, c1s, if_pos rfl, isBoth_0 (fun z => hr z.1), c1s, if_pos rfl]
    exact no2 S
