/-! the reference lays BEND and TURN, TICK by TICK -/
def layz (h : pv_H) (K B F : Nat → Int) (n L : Nat) : Prop := h 0 29 = (L : Int) ∧ L ≤ 4000 ∧ 0 ≤ h 0 30 ∧ h 0 30 ≤ 237600 ∧ ∀ t : Nat, t < L → h 12 t = bbz K B F n ((t : Int) + 1) ∧ h 13 t = btz K B F n ((t : Int) + 1) ∧ bbz K B F n ((t : Int) + 1) ≤ h 0 30
def stpz (h : pv_H) (K B F : Nat → Int) (n : Nat) : Prop := h 0 27 = (n : Int) ∧ n ≤ 12 ∧ ∀ j, j < n → h 14 j = K j ∧ h 15 j = B j ∧ h 16 j = F j
def PLz (x y : Nat) : Prop := x = 0 ∧ (y = 29 ∨ y = 30 ∨ y = 36 ∨ y = 37) ∨ x = 12 ∨ x = 13
def PDz (x y : Nat) : Prop := x = 0 ∧ (y = 27 ∨ y = 28 ∨ y = 29 ∨ y = 30 ∨ y = 36 ∨ y = 37) ∨ (12 ≤ x ∧ x ≤ 16)
section LAY
variable {N n : Nat} {K B F : Nat → Int}
theorem stpz.frm {h h' : pv_H} (s : stpz h K B F n) (f : frz PLz h h') : stpz h' K B F n := by
  obtain ⟨s1, s2, s3⟩ := s
  unfold stpz
  rw [f _ _ (by unfold PLz; omega)]
  refine ⟨s1, s2, fun j hj => ?_⟩
  rw [f _ _ (by unfold PLz; omega), f _ _ (by unfold PLz; omega), f _ _ (by unfold PLz; omega)]
  exact s3 j hj
theorem lay_full (hN : 1 ≤ N) : ∀ (f k : Nat) (h : pv_H), k ≤ n → n < k + f → stpz h K B F n → 4000 ≤ h 0 29 → fX10_laysTicks_22 N f (k : Int) h = some h := by
  intro f
  induction f with
  | zero => intro k h h1 h2; omega
  | succ f ih =>
    intro k h h1 h2 s h3
    obtain ⟨s1, s2, s3⟩ := id s
    obtain ⟨M, rfl⟩ : ∃ M, N = M + 1 := ⟨N - 1, by omega⟩
    rw [fX10_laysTicks_22, s1]
    by_cases q : n ≤ k
    · rw [if_pos (by omega)]
    · rw [if_neg (by omega), fX10_laysTicks_32, if_pos (by omega)]
      unfold fX10_laysTicks_125
      rw [if_pos h3, ite_self, bbs, pws (by omega)]
      exact ih (k + 1) h (by omega) (by omega) s h3
theorem lay_in (hF : ∀ j, 1 ≤ F j) (hB : ∀ j x, 0 ≤ x → x ≤ F j → 0 ≤ B j * x ∧ B j * x ≤ 19800) (hB2 : ∀ j, 0 ≤ B j ∧ B j ≤ 99) {k : Nat} (hk : k < n) (hn : n ≤ 12) {h0 : pv_H} {k22 : Int → pv_H → Option pv_H} {Q : pv_H → Prop}
    (kn : ∀ (h' : pv_H) (L : Nat), frz PLz h0 h' → layz h' K B F n L → (L : Int) = tbz F (k + 1) → h' 0 36 = bbz K B F n (tbz F (k + 1)) → h' 0 37 = btz K B F n (tbz F (k + 1)) → wpz (k22 ((k + 1 : Nat) : Int) h') Q)
    (kf : ∀ (h' : pv_H), frz PLz h0 h' → layz h' K B F n 4000 → 4000 ≤ tbz F n → wpz (k22 ((k + 1 : Nat) : Int) h') Q) : ∀ (f i : Nat) (h : pv_H) (L : Nat), (i : Int) ≤ F k → F k < i + f → frz PLz h0 h → stpz h K B F n → layz h K B F n L → (L : Int) = tbz F k + i → h 0 36 = bbz K B F n (tbz F k + i) → h 0 37 = btz K B F n (tbz F k + i) → wpz (fX10_laysTicks_32 N k22 f (k : Int) (i : Int) h) Q := by
  intro f
  induction f with
  | zero => intro i h L h1 h2; omega
  | succ f ih =>
    intro i h L h1 h2 hf s ly hL hb ht
    obtain ⟨s1, s2, s3⟩ := id s
    obtain ⟨l1, l2, l3, l4, l5⟩ := id ly
    obtain ⟨k1, k2, k3⟩ := s3 k hk
    rw [fX10_laysTicks_32, if_pos (by omega), tnc, k3]
    unfold fX10_laysTicks_125
    by_cases q : F k ≤ i
    · have e : (i : Int) = F k := by omega
      rw [if_pos q, bbs, pws (by omega)]
      refine kn h L hf ly (by simp only [tbz]; omega) ?_ ?_
      · rw [hb]; simp only [tbz]; rw [e]
      · rw [ht]; simp only [tbz]; rw [e]
    · rw [if_neg q, l1]
      by_cases q2 : 4000 ≤ L
      · rw [if_pos (by omega), bbs, pws (by omega)]
        have e : L = 4000 := by omega
        subst e
        refine kf h hf ly ?_
        have := tb_le hF n (show k + 1 ≤ n by omega)
        simp only [tbz] at this
        omega
      · rw [if_neg (by omega)]
        have b1 := bb_b (K := K) hF hB n (tbz F k + i)
        have b2 := bt_b (K := K) hF hB n (tbz F k + i)
        have b3 := hB2 k
        have tn := tb_nn hF k
        have z1 : bbz K B F n (tbz F k + i) ≤ 300000 := by omega
        have z2 : btz K B F n (tbz F k + i) ≤ 300000 := by omega
        have A := acts_M (N := N) (show k < 12 by omega) k1 k2 hb ht b1.1 z1 b2.1 z2 b3.1 b3.2
        refine wp_c1I A ?_
        rintro g ⟨g1, g2, g3⟩
        have nb : stb (K k) (bbz K B F n (tbz F k + i)) (B k) = bbz K B F n (tbz F k + ((i + 1 : Nat) : Int)) := by
          rw [bb_at (K := K) hF hB hk (show (0 : Int) ≤ i by omega) (by omega), bb_at (K := K) hF hB hk (show (0 : Int) ≤ ((i + 1 : Nat) : Int) by omega) (by omega), stb_s (bb_b (K := K) hF hB k _).1 b3.1]
          rfl
        have nt : btz K B F n (tbz F k + i) + (if K k = 2 then B k else 0) = btz K B F n (tbz F k + ((i + 1 : Nat) : Int)) := by
          rw [bt_at (K := K) hF hk (show (0 : Int) ≤ i by omega) (by omega), bt_at (K := K) hF hk (show (0 : Int) ≤ ((i + 1 : Nat) : Int) by omega) (by omega)]
          by_cases z : K k = 2
          · rw [if_pos z, if_pos z, if_pos z]
            have : B k * ((i + 1 : Nat) : Int) = B k * i + B k := by
              have e : ((i + 1 : Nat) : Int) = (i : Int) + 1 := rfl
              rw [e, Int.mul_add, Int.mul_one]
            omega
          · rw [if_neg z, if_neg z, if_neg z]; omega
        rw [nb] at g2
        rw [nt] at g3
        have l1' : g 0 29 = (L : Int) := by rw [g1 _ _ (by omega)]; exact l1
        have l30 : g 0 30 = h 0 30 := g1 _ _ (by omega)
        have bn := bb_b (K := K) hF hB n (tbz F k + ((i + 1 : Nat) : Int))
        simp (disch := omega) only [l1', if_pos, tnc, bbs, pu_ne, g2, g3, l30, pws]
        have fin : ∀ z, z = max (h 0 30) (bbz K B F n (tbz F k + ((i + 1 : Nat) : Int))) → wpz (fX10_laysTicks_106 N k22 (fun v1_ v2_ hh => fX10_laysTicks_32 N k22 f v1_ v2_ hh) (k : Int) (i : Int) z (pv_up (pv_up g 12 L (bbz K B F n (tbz F k + ((i + 1 : Nat) : Int)))) 13 L (btz K B F n (tbz F k + ((i + 1 : Nat) : Int))))) Q := by
          intro z hz
          unfold fX10_laysTicks_106
          simp (disch := omega) only [bbs, pu_ne, l1', pws]
          refine ih (i + 1) _ (L + 1) (by omega) (by omega) ?_ ?_ ?_ (by omega) ?_ ?_
          · intro x y np
            have : ¬ (x = 0 ∧ (y = 36 ∨ y = 37)) := by unfold PLz at np; omega
            unfold PLz at np
            rw [pv_up_ne (by omega), pv_up_ne (by omega), pv_up_ne (by omega), pv_up_ne (by omega), g1 _ _ this]
            exact hf x y np
          · refine s.frm (h' := _) (fun x y np => ?_)
            have : ¬ (x = 0 ∧ (y = 36 ∨ y = 37)) := by unfold PLz at np; omega
            unfold PLz at np
            rw [pv_up_ne (by omega), pv_up_ne (by omega), pv_up_ne (by omega), pv_up_ne (by omega), g1 _ _ this]
          · refine ⟨pv_up_self _ _ _ _, by omega, ?_⟩
            rw [pv_up_ne (by omega), pv_up_self]
            refine ⟨by omega, by omega, fun t ht => ?_⟩
            by_cases e : t = L
            · subst e
              have e2 : (t : Int) + 1 = tbz F k + ((i + 1 : Nat) : Int) := by omega
              rw [e2]
              simp (disch := omega) only [pu_ne, pu_eq]
              exact ⟨trivial, trivial, by omega⟩
            · obtain ⟨z1, z2, z3⟩ := l5 t (by omega)
              simp (disch := omega) only [pu_ne]
              rw [g1 _ _ (by omega), g1 _ _ (by omega)]
              exact ⟨z1, z2, by omega⟩
          · simp (disch := omega) only [pu_ne]
            exact g2
          · simp (disch := omega) only [pu_ne]
            exact g3
        by_cases z : bbz K B F n (tbz F k + ((i + 1 : Nat) : Int)) ≤ h 0 30
        · rw [if_pos z]
          exact fin _ (by omega)
        · rw [if_neg z]
          exact fin _ (by omega)
theorem lay_out (hN : 2000 ≤ N) (hF : ∀ j, 1 ≤ F j) (hF2 : ∀ j, F j ≤ 1800) (hB : ∀ j x, 0 ≤ x → x ≤ F j → 0 ≤ B j * x ∧ B j * x ≤ 19800) (hB2 : ∀ j, 0 ≤ B j ∧ B j ≤ 99) (hn : n ≤ 12) {h0 : pv_H} : ∀ (f k : Nat) (h : pv_H) (L : Nat), k ≤ n → n < k + f → frz PLz h0 h → stpz h K B F n → layz h K B F n L → (L : Int) = tbz F k → h 0 36 = bbz K B F n (tbz F k) → h 0 37 = btz K B F n (tbz F k) → wpz (fX10_laysTicks_22 N f (k : Int) h) fun h' => frz PLz h0 h' ∧ ∃ L' : Nat, (L' : Int) = min (tbz F n) 4000 ∧ layz h' K B F n L' := by
  intro f
  induction f with
  | zero => intro k h L h1 h2; omega
  | succ f ih =>
    intro k h L h1 h2 hf s ly hL hb ht
    obtain ⟨s1, s2, s3⟩ := id s
    by_cases q : n ≤ k
    · rw [fX10_laysTicks_22, s1, if_pos (by omega)]
      have : k = n := by omega
      subst this
      exact wp_some.mpr ⟨hf, L, by have := ly.2.1; omega, ly⟩
    · rw [fX10_laysTicks_22, s1, if_neg (by omega)]
      refine lay_in (K := K) hF hB hB2 (show k < n by omega) hn (h0 := h0) (fun h' L' f' ly' e1 e2 e3 => ?_) (fun h' f' ly' e1 => ?_) N 0 h L (by have := hF k; omega) (by have := hF2 k; omega) hf s ly (by omega) (by rw [hb]; simp) (by rw [ht]; simp)
      · exact ih (k + 1) h' L' (by omega) (by omega) f' (by
          have hs0 : stpz h0 K B F n := by
            refine s.frm (fun x y np => (hf x y np).symm)
          exact hs0.frm f') ly' e1 e2 e3
      · have hs0 : stpz h0 K B F n := s.frm (fun x y np => (hf x y np).symm)
        have fl := lay_full (N := N) (by omega) f (k + 1) h' (by omega) (by omega) (hs0.frm f') (by rw [ly'.1]; omega)
        exact wp_of fl ⟨f', 4000, by omega, ly'⟩
end LAY
