/-! looks, and a call that runs its seeds the other way about: found -/
section FACTS
variable {n np : Nat} {hc hm : pv_H}
theorem kinds_R {nb : Nat} {x : Int} (h60 : nb ≤ 60) (b0 : hc 80 0 = (nb : Int)) (m0 : hm 0 38 = (nb : Int)) (k : ∀ k, k < nb → hc 81 (120 + k) = hm 22 k) : ∀ (f f' i : Nat) (v : Int), i ≤ nb → nb < i + f → nb < i + f' → 0 ≤ v → v ≤ i → ∃ c, fX7_breaksOfKind_4 pv_NN 79 x f v (i : Int) hc = some c ∧ fX10_kinds_4 pv_NN x f' v (i : Int) hm = some c := by
  intro f
  induction f with
  | zero => intro f' i v h1 h2; omega
  | succ f ih =>
    intro f' i v h1 h2 h3 h4 h5
    obtain ⟨f', rfl⟩ : ∃ g, f' = g + 1 := ⟨f' - 1, by omega⟩
    rw [fX7_breaksOfKind_4, fX10_kinds_4, m0]
    have b0 : hc (79 + 1) 0 = (nb : Int) := b0
    rw [b0]
    by_cases q : i = nb
    · subst q
      rw [if_pos (by omega), if_pos (by omega)]
      exact ⟨v, rfl, rfl⟩
    · have t0 : Int.toNat (120 + (i : Int)) = 120 + i := by omega
      have kk := k i (by omega)
      have kk : hc (79 + 2) (120 + i) = hm 22 i := kk
      unfold fX7_breaksOfKind_26 fX10_kinds_28 fX7_kindOf
      have ni : ¬ (nb : Int) ≤ (i : Int) := by omega
      rw [if_neg ni, if_neg ni, pv_w_id (x := 120 + (i : Int)) (by omega) (by omega), if_pos (show 0 ≤ 120 + (i : Int) ∧ 120 + (i : Int) < 240 by omega), t0, c1s, kk, if_pos (show 0 ≤ (i : Int) ∧ (i : Int) < 60 by omega), tnc]
      by_cases z : hm 22 i = x
      · rw [if_pos z, if_pos z, bbs, bbs, bbs, bbs, pws (by omega), pv_w_id (x := v + 1) (by omega) (by omega)]
        exact ih f' (i + 1) (v + 1) (by omega) (by omega) (by omega) (by omega) (by omega)
      · rw [if_neg z, if_neg z, bbs, bbs, bbs, pws (by omega), pv_w_id (x := v + 0) (by omega) (by omega), Int.add_zero]
        exact ih f' (i + 1) v (by omega) (by omega) (by omega) h4 (by omega)
theorem long_R (h60 : np ≤ 60) (b0 : hc 80 1 = (np : Int)) (m0 : hm 0 42 = (np : Int)) (P : ∀ k, k < np → hc 83 k = hm 24 k ∧ 1 ≤ hm 24 k ∧ hm 24 k ≤ 60) : ∀ (f f' i : Nat) (v : Int), i ≤ np → np < i + f → np < i + f' → (∃ c, fX7_longestPiece_9 pv_NN 79 f v (i : Int) hc = some c ∧ fX10_longest_9 pv_NN 1 f' v (i : Int) hm = some c) ∧ ∃ c, fX7_shortestPiece_9 pv_NN 79 f v (i : Int) hc = some c ∧ fX10_longest_9 pv_NN 0 f' v (i : Int) hm = some c := by
  intro f
  induction f with
  | zero => intro f' i v h1 h2; omega
  | succ f ih =>
    intro f' i v h1 h2 h3
    obtain ⟨f', rfl⟩ : ∃ g, f' = g + 1 := ⟨f' - 1, by omega⟩
    have b0 : hc (79 + 1) 1 = (np : Int) := b0
    by_cases q : i = np
    · subst q
      rw [fX7_longestPiece_9, fX7_shortestPiece_9, fX10_longest_9, fX10_longest_9, m0, b0]
      rw [if_pos (by omega), if_pos (by omega), if_pos (by omega), if_pos (by omega)]
      exact ⟨⟨v, rfl, rfl⟩, ⟨v, rfl, rfl⟩⟩
    · have kk := (P i (by omega)).1
      have kk : hc (79 + 4) i = hm 24 i := kk
      have ni : ¬ (np : Int) ≤ (i : Int) := by omega
      have i60 : 0 ≤ (i : Int) ∧ (i : Int) < 60 := by omega
      have i61 : 0 ≤ (i : Int) ∧ (i : Int) < 61 := by omega
      have L : fX7_longestPiece_9 pv_NN 79 (f + 1) v (i : Int) hc = fX7_longestPiece_9 pv_NN 79 f (max v (hm 24 i)) ((i + 1 : Nat) : Int) hc := by
        rw [fX7_longestPiece_9, b0, if_neg ni, if_pos i60, tnc, kk, bbs, bbs, pws (by omega)]
      have Sh : fX7_shortestPiece_9 pv_NN 79 (f + 1) v (i : Int) hc = fX7_shortestPiece_9 pv_NN 79 f (min v (hm 24 i)) ((i + 1 : Nat) : Int) hc := by
        rw [fX7_shortestPiece_9, b0, if_neg ni, if_pos i60, tnc, kk, bbs, bbs, pws (by omega)]
      have M1 : fX10_longest_9 pv_NN 1 (f' + 1) v (i : Int) hm = fX10_longest_9 pv_NN 1 f' (max v (hm 24 i)) ((i + 1 : Nat) : Int) hm := by
        rw [fX10_longest_9, m0, if_neg ni, if_neg n10, if_pos i61, tnc]
        unfold fX10_longest_64
        by_cases z : hm 24 i ≤ v
        · rw [if_pos z, pws (by omega), bbs, Int.max_eq_left z]
        · rw [if_neg z, if_pos i61, pws (by omega), bbs, Int.max_eq_right (by omega)]
      have M0 : fX10_longest_9 pv_NN 0 (f' + 1) v (i : Int) hm = fX10_longest_9 pv_NN 0 f' (min v (hm 24 i)) ((i + 1 : Nat) : Int) hm := by
        rw [fX10_longest_9, m0, if_neg ni, if_pos rfl, if_pos i61, tnc]
        unfold fX10_longest_64
        by_cases z : v ≤ hm 24 i
        · rw [if_pos z, pws (by omega), bbs, Int.min_eq_left z]
        · rw [if_neg z, if_pos i61, pws (by omega), bbs, Int.min_eq_right (by omega)]
      rw [L, Sh, M1, M0]
      exact ⟨(ih f' (i + 1) _ (by omega) (by omega) (by omega)).1, (ih f' (i + 1) _ (by omega) (by omega) (by omega)).2⟩
/-- a fact of a run, both -/
theorem fact_R (R : RESz n np hc hm) (h60 : n ≤ 60) {x y : Int} (hx : 27 ≤ x ∧ x ≤ 36) : ∃ t : Int, (t = 0 ∨ t = 1) ∧ fX3_isFact pv_NN x y 79 hc = some t ∧ fX10_fact pv_NN x y hm = some t := by
  have np60 := R.np60 h60
  obtain ⟨nb, _, _, ⟨b1, b2, b3, b4, b5, b6⟩, _, p1, p2, q1, q2, P, q3, _⟩ := R
  have nb60 : nb ≤ 60 := by have := sumz_b (f := hm 17) n (fun k hk => (b4 k hk).2); omega
  have e1 : hc (79 + 1) 1 = (np : Int) := q1
  have e3 : hc (79 + 1) 3 = hm 0 40 := q3
  have e0 : hc (79 + 1) 0 = (nb : Int) := b1
  have s0e : fX3_isFact pv_NN x y 79 hc = fX3_isFact_14 pv_NN x y 79 (if nb = 0 then 0 else 1) hc := by
    unfold fX3_isFact
    rw [e0]
    by_cases z : nb = 0
    · rw [if_pos (by omega), if_pos z]
    · rw [if_neg (by omega), if_neg z]
  have t120 : 0 < nb → fX7_kindOf pv_NN 79 0 hc = some (hm 22 0) := fun h => by
    unfold fX7_kindOf
    have := (b5 0 h).2.2.1
    have this : hc (79 + 2) 120 = hm 22 0 := this
    rw [if_pos (by decide), show Int.toNat (pv_w (120 + 0)) = 120 by decide, this]
  have t0 : 0 < nb → fX7_cellOf pv_NN 79 0 hc = some (hm 20 0) := fun h => by
    unfold fX7_cellOf
    have := (b5 0 h).1
    have this : hc (79 + 2) 0 = hm 20 0 := this
    rw [if_pos (by decide), show Int.toNat (pv_w (0 + 0)) = 0 by decide, this]
  have t60 : 0 < nb → fX7_tickOf pv_NN 79 0 hc = some (hm 21 0) := fun h => by
    unfold fX7_tickOf
    have := (b5 0 h).2.1
    have this : hc (79 + 2) 60 = hm 21 0 := this
    rw [if_pos (by decide), show Int.toNat (pv_w (60 + 0)) = 60 by decide, this]
  have kd : ∀ w : Int, ∃ c, fX7_breaksOfKind pv_NN 79 w hc = some c ∧ fX10_kinds pv_NN w hm = some c := fun w => kinds_R (x := w) nb60 b1 b2 (fun k hk => (b5 k hk).2.2.1) pv_NN pv_NN 0 0 (by omega) (by unfold pv_NN; omega) (by unfold pv_NN; omega) (by omega) (by omega)
  have lg := long_R np60.2 q1 q2 P pv_NN pv_NN 1 (hm 24 0) (by omega) (by unfold pv_NN; omega) (by unfold pv_NN; omega)
  have p0 : hc (79 + 4) 0 = hm 24 0 := (P 0 (by omega)).1
  have lc : fX7_longestPiece pv_NN 79 hc = fX7_longestPiece_9 pv_NN 79 pv_NN (hm 24 0) 1 hc := by
    unfold fX7_longestPiece
    rw [p0, bbs]
  have sc : fX7_shortestPiece pv_NN 79 hc = fX7_shortestPiece_9 pv_NN 79 pv_NN (hm 24 0) 1 hc := by
    unfold fX7_shortestPiece
    rw [p0, bbs]
  have lm : ∀ w, fX10_longest pv_NN w hm = fX10_longest_9 pv_NN w pv_NN (hm 24 0) 1 hm := fun w => rfl
  rw [s0e]
  unfold fX3_isFact_14 fX10_fact
  rw [b2, q2, e1, e3]
  have z0 : (0 : Int) = 0 ∨ (0 : Int) = 1 := Or.inl rfl
  have z1 : (1 : Int) = 0 ∨ (1 : Int) = 1 := Or.inr rfl
  have yes : ∃ t : Int, (t = 0 ∨ t = 1) ∧ some (1 : Int) = some t ∧ some (1 : Int) = some t := ⟨1, z1, rfl, rfl⟩
  have no : ∃ t : Int, (t = 0 ∨ t = 1) ∧ some (0 : Int) = some t ∧ some (0 : Int) = some t := ⟨0, z0, rfl, rfl⟩
  by_cases x27 : x = 27
  · rw [if_pos x27, if_pos x27]
    unfold fX3_isFact_89 fX3_isFact_90 fX10_fact_73 fX10_fact_74
    rw [if_pos z0, if_pos z1]
    by_cases z : nb = 0
    · rw [if_pos z, if_pos rfl, if_pos (by omega)]; exact no
    · rw [if_neg z, if_neg n10, if_neg (by omega), t120 (by omega), c1s]
      by_cases w : hm 22 0 = 4
      · rw [if_pos w]; exact yes
      · rw [if_neg w]; exact no
  rw [if_neg x27, if_neg x27]
  by_cases x28 : x = 28
  · rw [if_pos x28, if_pos x28]
    unfold fX3_isFact_108 fX3_isFact_109 fX10_fact_96 fX10_fact_97
    rw [if_pos z0, if_pos z1]
    by_cases z : nb = 0
    · rw [if_pos z, if_pos rfl, if_pos (by omega)]; exact no
    · rw [if_neg z, if_neg n10, if_neg (by omega), t120 (by omega), c1s]
      by_cases w : hm 22 0 = 3
      · rw [if_pos w]; exact yes
      · rw [if_neg w]; exact no
  rw [if_neg x28, if_neg x28]
  by_cases x29 : x = 29
  · rw [if_pos x29, if_pos x29]
    unfold fX3_isFact_125 fX10_fact_111
    rw [if_pos z0, if_pos z1]
    by_cases w : (np : Int) < y
    · rw [if_pos w]; exact no
    · rw [if_neg w]; exact yes
  rw [if_neg x29, if_neg x29]
  by_cases x30 : x = 30
  · obtain ⟨c, c1, c2⟩ := kd 1
    rw [if_pos x30, if_pos x30, c1, c2, c1s, c1s]
    unfold fX3_isFact_140 fX10_fact_126
    rw [if_pos z0, if_pos z1]
    by_cases w : c < y
    · rw [if_pos w]; exact no
    · rw [if_neg w]; exact yes
  rw [if_neg x30, if_neg x30]
  by_cases x31 : x = 31
  · obtain ⟨c, c1, c2⟩ := kd 2
    rw [if_pos x31, if_pos x31, c1, c2, c1s, c1s]
    unfold fX3_isFact_155 fX10_fact_141
    rw [if_pos z0, if_pos z1]
    by_cases w : c < y
    · rw [if_pos w]; exact no
    · rw [if_neg w]; exact yes
  rw [if_neg x31, if_neg x31]
  by_cases x32 : x = 32
  · rw [if_pos x32, if_pos x32]
    unfold fX3_isFact_171 fX10_fact_155
    rw [if_pos z0, if_pos z1]
    by_cases w : hm 0 40 < y
    · rw [if_pos w]; exact no
    · rw [if_neg w]; exact yes
  rw [if_neg x32, if_neg x32]
  by_cases x33 : x = 33
  · rw [if_pos x33, if_pos x33]
    unfold fX3_isFact_189 fX3_isFact_190 fX10_fact_177 fX10_fact_178
    rw [if_pos z0, if_pos z1]
    by_cases z : nb = 0
    · rw [if_pos z, if_pos rfl, if_pos (by omega)]; exact no
    · rw [if_neg z, if_neg n10, if_neg (by omega), t0 (by omega), c1s]
      by_cases w : hm 20 0 = y
      · rw [if_pos w]; exact yes
      · rw [if_neg w]; exact no
  rw [if_neg x33, if_neg x33]
  by_cases x34 : x = 34
  · obtain ⟨c, c1, c2⟩ := lg.1
    have c1 : fX7_longestPiece_9 pv_NN 79 pv_NN (hm 24 0) 1 hc = some c := c1
    have c2 : fX10_longest_9 pv_NN 1 pv_NN (hm 24 0) 1 hm = some c := c2
    rw [if_pos x34, if_pos x34, lc, lm, c1, c2, c1s, c1s]
    unfold fX3_isFact_204 fX10_fact_193
    rw [if_pos z0, if_pos z1]
    by_cases w : c < y
    · rw [if_pos w]; exact no
    · rw [if_neg w]; exact yes
  rw [if_neg x34, if_neg x34]
  by_cases x35 : x = 35
  · obtain ⟨c, c1, c2⟩ := lg.2
    have c1 : fX7_shortestPiece_9 pv_NN 79 pv_NN (hm 24 0) 1 hc = some c := c1
    have c2 : fX10_longest_9 pv_NN 0 pv_NN (hm 24 0) 1 hm = some c := c2
    rw [if_pos x35, if_pos x35, sc, lm, c1, c2, c1s, c1s]
    unfold fX3_isFact_218 fX10_fact_208
    rw [if_pos z0, if_pos z1]
    by_cases w : y < c
    · rw [if_pos w]; exact no
    · rw [if_neg w]; exact yes
  rw [if_neg x35, if_neg x35, if_pos (show x = 36 by omega)]
  unfold fX3_isFact_236 fX3_isFact_237 fX10_fact_230 fX10_fact_231
  rw [if_pos z0, if_pos z1]
  by_cases z : nb = 0
  · rw [if_pos z, if_pos rfl, if_pos (by omega)]; exact no
  · rw [if_neg z, if_neg n10, if_neg (by omega), t60 (by omega), c1s]
    by_cases w : hm 21 0 < y
    · rw [if_pos w]; exact no
    · rw [if_neg w]; exact yes
end FACTS
theorem RESz.frm {n np : Nat} {hc hm hc' hm' : pv_H} (R : RESz n np hc hm) (f : ∀ x y, x ≠ 29 → hc' x y = hc x y) (g : ∀ x y, x ≠ 32 → hm' x y = hm x y) : RESz n np hc' hm' := by
  obtain ⟨nb, nw, ng, B, W, p1, p2, q1, q2, P, q3, q4, q5, q6, q7, L⟩ := R
  refine ⟨nb, nw, ng, B.frm (fun x y q => f x y (by unfold BCz at q; omega)) (fun x y q => g x y (by unfold BMz at q; omega)), W.frm (fun x y q => f x y (by unfold FCz at q; omega)) (fun x y q => g x y (by unfold FMz at q; omega)), p1, p2, ?_, ?_, fun k hk => ?_, ?_, ?_, ?_, ?_, ?_, fun i hi => ?_⟩
  · rw [f _ _ (by omega)]; exact q1
  · rw [g _ _ (by omega)]; exact q2
  · rw [f _ _ (by omega), g _ _ (by omega)]; exact P k hk
  · rw [f _ _ (by omega), g _ _ (by omega)]; exact q3
  · rw [f _ _ (by omega), g _ _ (by omega)]; exact q4
  · rw [f _ _ (by omega), g _ _ (by omega)]; exact q5
  · rw [f _ _ (by omega), g _ _ (by omega)]; exact q6
  · rw [f _ _ (by omega), q7]
    exact sumz_congr n (fun i _ => (g 18 i (by omega)).symm)
  · rw [g _ _ (by omega)]; exact L i hi
theorem and_01 {x y : Int} (hx : x = 0 ∨ x = 1) (hy : y = 0 ∨ y = 1) : pv_and x y = if x = 0 then 0 else y := by
  rcases hx with rfl | rfl <;> rcases hy with rfl | rfl <;> decide +kernel
theorem or_01 {x y : Int} (hx : x = 0 ∨ x = 1) (hy : y = 0 ∨ y = 1) : pv_or x y = if x = 0 then y else 1 := by
  rcases hx with rfl | rfl <;> rcases hy with rfl | rfl <;> decide +kernel
section SO
variable {n np l a b : Nat} {hc0 hm0 : pv_H}
theorem so_l (R : RESz n np hc0 hm0) (h60 : n ≤ 60) (hl : l < 8) (hb : b ≤ 200) (ec : hc0 26 (l + 1) = (b : Int)) (em : hm0 2 (2645 + l) = (b : Int)) (g : ∀ j, a ≤ j → j < b → hc0 27 j = hm0 2 (2653 + 2 * j) ∧ hc0 28 j = hm0 2 (2653 + 2 * j + 1)) : ∀ (k j d f f' : Nat) (hc hm : pv_H), j + k = b → a ≤ j → d ≤ j → k < f → k < f' → wfs (fun j => hm0 2 (2653 + 2 * j)) k j d = some 1 → (∀ x y, x ≠ 29 → hc x y = hc0 x y) → (∀ x y, x ≠ 32 → hm x y = hm0 x y) → (∀ i, i < d → hc 29 i = hm 32 i ∧ (hm 32 i = 0 ∨ hm 32 i = 1)) → ∃ (hc' hm' : pv_H) (t : Int), fX3_isSo_10 pv_NN 25 (l : Int) 79 f (d : Int) (j : Int) hc = some (hc', t) ∧ fX10_isSo_13 pv_NN (l : Int) f' (d : Int) (j : Int) hm = some (hm', t) ∧ (t = 0 ∨ t = 1) ∧ (∀ x y, x ≠ 29 → hc' x y = hc0 x y) ∧ ∀ x y, x ≠ 32 → hm' x y = hm0 x y := by
  intro k
  induction k with
  | zero =>
    intro j d f f' hc hm h1 h2 h3 h4 h5 h6 F G st
    obtain ⟨f, rfl⟩ : ∃ g, f = g + 1 := ⟨f - 1, by omega⟩
    obtain ⟨f', rfl⟩ : ∃ g, f' = g + 1 := ⟨f' - 1, by omega⟩
    have d1 : d = 1 := by
      have : wfs (fun j => hm0 2 (2653 + 2 * j)) 0 j d = some d := rfl
      rw [this] at h6
      exact Option.some.inj h6
    subst d1
    obtain ⟨s1, s2⟩ := st 0 (by omega)
    have tl : Int.toNat (pv_w ((l : Int) + 1)) = l + 1 := by rw [pws (by omega), tnc]
    have tm : Int.toNat (2645 + (l : Int)) = 2645 + l := by omega
    have ec' : hc (25 + 1) (l + 1) = (b : Int) := by rw [F _ _ (by omega)]; exact ec
    have s1' : hc (25 + 4) 0 = hm 32 0 := s1
    refine ⟨hc, hm, hm 32 0, ?_, ?_, s2, F, G⟩
    · unfold fX3_isSo_10 fX3_isSo_201 fX3_isSo_202
      rw [tl, ec', s1', if_pos (by rw [pws (by omega)]; omega), if_pos (by omega), if_neg (by omega)]
      rcases s2 with z | z
      · rw [z, if_neg (by omega), if_pos (Or.inl rfl)]
      · rw [z, if_pos rfl, if_pos (Or.inr rfl)]
    · rw [fX10_isSo_13, pv_w_id (x := 2645 + (l : Int)) (by omega) (by omega), if_pos (by omega), tm, G _ _ (by omega), em, if_pos (by omega), if_pos s2]
  | succ k ih =>
    intro j d f f' hc hm h1 h2 h3 h4 h5 h6 F G st
    obtain ⟨f, rfl⟩ : ∃ g, f = g + 1 := ⟨f - 1, by omega⟩
    obtain ⟨f', rfl⟩ : ∃ g, f' = g + 1 := ⟨f' - 1, by omega⟩
    have tl : Int.toNat (pv_w ((l : Int) + 1)) = l + 1 := by rw [pws (by omega), tnc]
    have tm : Int.toNat (2645 + (l : Int)) = 2645 + l := by omega
    have tj : Int.toNat (2653 + 2 * (j : Int)) = 2653 + 2 * j := by omega
    have tj1 : Int.toNat (2653 + 2 * (j : Int) + 1) = 2653 + 2 * j + 1 := by omega
    have ec' : hc (25 + 1) (l + 1) = (b : Int) := by rw [F _ _ (by omega)]; exact ec
    obtain ⟨g1, g2⟩ := g j h2 (by omega)
    have j400 : 0 ≤ (j : Int) ∧ (j : Int) < 400 := by omega
    obtain ⟨x, hx⟩ : ∃ x : Int, x = hm0 2 (2653 + 2 * j) := ⟨_, rfl⟩
    obtain ⟨y, hy⟩ : ∃ y : Int, y = hm0 2 (2653 + 2 * j + 1) := ⟨_, rfl⟩
    have cx : hc (25 + 2) j = x := by rw [F _ _ (by omega), hx]; exact g1
    have cy : hc (25 + 3) j = y := by rw [F _ _ (by omega), hy]; exact g2
    -- the class's step
    have eC : fX3_isSo_10 pv_NN 25 (l : Int) 79 (f + 1) (d : Int) (j : Int) hc = (if x = 26 then (if (d : Int) < 1 then (fX3_isSo_61 pv_NN (fun v3_ v4_ hh => fX3_isSo_10 pv_NN 25 (l : Int) 79 f v3_ v4_ hh) 25 (l : Int) 79 (d : Int) (j : Int) hc) else (if 0 ≤ pv_w ((d : Int) - 1) ∧ pv_w ((d : Int) - 1) < 401 then (if 0 ≤ pv_w ((d : Int) - 1) ∧ pv_w ((d : Int) - 1) < 401 then (pv_b (pv_up hc (25 + 4) (Int.toNat (pv_w ((d : Int) - 1))) (pv_w (1 - (hc (25 + 4) (Int.toNat (pv_w ((d : Int) - 1))))))) fun h12 => fX3_isSo_176 pv_NN (fun v3_ v4_ hh => fX3_isSo_10 pv_NN 25 (l : Int) 79 f v3_ v4_ hh) 25 (l : Int) 79 (d : Int) (j : Int) h12) else none) else none)) else (fX3_isSo_61 pv_NN (fun v3_ v4_ hh => fX3_isSo_10 pv_NN 25 (l : Int) 79 f v3_ v4_ hh) 25 (l : Int) 79 (d : Int) (j : Int) hc)) := by
      rw [fX3_isSo_10, tl, ec', if_pos (show 0 ≤ pv_w ((l : Int) + 1) ∧ pv_w ((l : Int) + 1) < 9 by rw [pws (by omega)]; omega), if_neg (show ¬ (b : Int) ≤ (j : Int) by omega), if_pos j400, tnc, cx]
    have eM : fX10_isSo_13 pv_NN (l : Int) (f' + 1) (d : Int) (j : Int) hm = (if x = 26 then (if 0 ≤ pv_w ((d : Int) - 1) ∧ pv_w ((d : Int) - 1) < 220 then (if (hm 32 (Int.toNat (pv_w ((d : Int) - 1)))) = 0 then (fX10_isSo_71 pv_NN (fun v2_ v3_ hh => fX10_isSo_13 pv_NN (l : Int) f' v2_ v3_ hh) (l : Int) (d : Int) (j : Int) (1) (pv_w ((d : Int) - 1)) hm) else (fX10_isSo_71 pv_NN (fun v2_ v3_ hh => fX10_isSo_13 pv_NN (l : Int) f' v2_ v3_ hh) (l : Int) (d : Int) (j : Int) (0) (pv_w ((d : Int) - 1)) hm)) else none) else (if x = 25 then (fX10_isSo_89 pv_NN (fun v2_ v3_ hh => fX10_isSo_13 pv_NN (l : Int) f' v2_ v3_ hh) (l : Int) (d : Int) (j : Int) x hm) else (if x = 24 then (fX10_isSo_89 pv_NN (fun v2_ v3_ hh => fX10_isSo_13 pv_NN (l : Int) f' v2_ v3_ hh) (l : Int) (d : Int) (j : Int) x hm) else (pv_c1 (fX10_fact pv_NN x y hm) fun r13 => if 0 ≤ (d : Int) ∧ (d : Int) < 220 then (if r13 = 0 ∨ r13 = 1 then (pv_b (pv_up hm 32 d r13) fun h16 => pv_b (pv_w ((d : Int) + 1)) fun x17 => fX10_isSo_192 pv_NN (fun v2_ v3_ hh => fX10_isSo_13 pv_NN (l : Int) f' v2_ v3_ hh) (l : Int) (x17) (j : Int) h16) else none) else none)))) := by
      rw [fX10_isSo_13, pv_w_id (x := 2645 + (l : Int)) (by omega) (by omega), if_pos (show 0 ≤ 2645 + (l : Int) ∧ 2645 + (l : Int) < 9159 by omega), tm, G 2 _ (by omega), em, if_neg (show ¬ (b : Int) ≤ (j : Int) by omega), pv_w_id (x := 2 * (j : Int)) (by omega) (by omega), pv_w_id (x := 2653 + 2 * (j : Int)) (by omega) (by omega), if_pos (show 0 ≤ 2653 + 2 * (j : Int) ∧ 2653 + 2 * (j : Int) < 9159 by omega), tj, G 2 _ (by omega), ← hx, bbs, pv_w_id (x := 2653 + 2 * (j : Int) + 1) (by omega) (by omega), if_pos (show 0 ≤ 2653 + 2 * (j : Int) + 1 ∧ 2653 + 2 * (j : Int) + 1 < 9159 by omega), tj1, G 2 _ (by omega), ← hy, tnc]
    have hw : wfs (fun j => hm0 2 (2653 + 2 * j)) (k + 1) j d = (if x = 26 then (if 1 ≤ d then wfs (fun j => hm0 2 (2653 + 2 * j)) k (j + 1) d else none) else if x = 24 ∨ x = 25 then (if 2 ≤ d then wfs (fun j => hm0 2 (2653 + 2 * j)) k (j + 1) (d - 1) else none) else if 27 ≤ x ∧ x ≤ 36 then wfs (fun j => hm0 2 (2653 + 2 * j)) k (j + 1) (d + 1) else none) := by
      rw [wfs, ← hx]
    rw [hw] at h6
    rw [eC, eM]
    -- a write on top of both stacks, then on
    have go : ∀ (p d' : Nat) (v : Int), (v = 0 ∨ v = 1) → d' ≤ j + 1 → p + 1 = d' → p ≤ d → wfs (fun j => hm0 2 (2653 + 2 * j)) k (j + 1) d' = some 1 → ∃ (hc' hm' : pv_H) (t : Int), fX3_isSo_10 pv_NN 25 (l : Int) 79 f (d' : Int) ((j + 1 : Nat) : Int) (pv_up hc 29 p v) = some (hc', t) ∧ fX10_isSo_13 pv_NN (l : Int) f' (d' : Int) ((j + 1 : Nat) : Int) (pv_up hm 32 p v) = some (hm', t) ∧ (t = 0 ∨ t = 1) ∧ (∀ x y, x ≠ 29 → hc' x y = hc0 x y) ∧ ∀ x y, x ≠ 32 → hm' x y = hm0 x y := by
      intro p d' v hv q1 q2 q3 q4
      refine ih (j + 1) d' f f' _ _ (by omega) (by omega) q1 (by omega) (by omega) q4 (fun x y ne => by rw [pv_up_ne (Or.inl ne)]; exact F x y ne) (fun x y ne => by rw [pv_up_ne (Or.inl ne)]; exact G x y ne) (fun i hi => ?_)
      by_cases e : i = p
      · subst e
        rw [pv_up_self, pv_up_self]
        exact ⟨rfl, hv⟩
      · rw [pv_up_ne (by omega), pv_up_ne (by omega)]
        exact st i (by omega)
    have w1 : pv_w ((j : Int) + 1) = ((j + 1 : Nat) : Int) := pws (by omega)
    by_cases x26 : x = 26
    · rw [if_pos x26] at h6
      by_cases dd : 1 ≤ d
      · rw [if_pos dd] at h6
        have ed : pv_w ((d : Int) - 1) = ((d - 1 : Nat) : Int) := by rw [pv_w_id (by omega) (by omega)]; omega
        obtain ⟨s1, s2⟩ := st (d - 1) (by omega)
        have s1' : hc (25 + 4) (d - 1) = hm 32 (d - 1) := s1
        have b1 : 0 ≤ ((d - 1 : Nat) : Int) ∧ ((d - 1 : Nat) : Int) < 401 := by omega
        have b2 : 0 ≤ ((d - 1 : Nat) : Int) ∧ ((d - 1 : Nat) : Int) < 220 := by omega
        rw [if_pos x26, if_pos x26, if_neg (show ¬ (d : Int) < 1 by omega), ed, if_pos b1, if_pos b1, tnc, s1', if_pos b2]
        unfold fX3_isSo_176 fX10_isSo_71 fX10_isSo_192
        rw [if_pos b2, if_pos (Or.inr rfl), if_pos b2, if_pos (Or.inl rfl), tnc]
        simp only [bbs, w1]
        have ed2 : d - 1 + 1 = d := by omega
        rcases s2 with z | z
        · rw [z, if_pos rfl]
          exact go (d - 1) d 1 (Or.inr rfl) (by omega) ed2 (by omega) h6
        · rw [z, if_neg (by omega)]
          exact go (d - 1) d 0 (Or.inl rfl) (by omega) ed2 (by omega) h6
      · rw [if_neg dd] at h6; cases h6
    · rw [if_neg x26] at h6
      rw [if_neg x26, if_neg x26]
      unfold fX3_isSo_61
      rw [if_pos j400, tnc, cx]
      by_cases x2 : x = 24 ∨ x = 25
      · rw [if_pos x2] at h6
        by_cases dd : 2 ≤ d
        · rw [if_pos dd] at h6
          have ed : pv_w ((d : Int) + -1) = ((d - 1 : Nat) : Int) := by rw [pv_w_id (by omega) (by omega)]; omega
          have ed2 : pv_w (((d - 1 : Nat) : Int) - 1) = ((d - 2 : Nat) : Int) := by rw [pv_w_id (by omega) (by omega)]; omega
          obtain ⟨s1, s2⟩ := st (d - 1) (by omega)
          obtain ⟨r1, r2⟩ := st (d - 2) (by omega)
          have s1' : hc (25 + 4) (d - 1) = hm 32 (d - 1) := s1
          have r1' : hc (25 + 4) (d - 2) = hm 32 (d - 2) := r1
          have b1 : 0 ≤ ((d - 1 : Nat) : Int) ∧ ((d - 1 : Nat) : Int) < 401 := by omega
          have b2 : 0 ≤ ((d - 2 : Nat) : Int) ∧ ((d - 2 : Nat) : Int) < 401 := by omega
          have b3 : 0 ≤ ((d - 1 : Nat) : Int) ∧ ((d - 1 : Nat) : Int) < 220 := by omega
          have b4 : 0 ≤ ((d - 2 : Nat) : Int) ∧ ((d - 2 : Nat) : Int) < 220 := by omega
          have go2 := fun v hv => go (d - 2) (d - 1) v hv (by omega) (by omega) (by omega) h6
          have m159 : ∀ v : Int, (v = 0 ∨ v = 1) → fX10_isSo_159 pv_NN (fun v2_ v3_ hh => fX10_isSo_13 pv_NN (l : Int) f' v2_ v3_ hh) (l : Int) ((d - 1 : Nat) : Int) (j : Int) v ((d - 2 : Nat) : Int) hm = fX10_isSo_13 pv_NN (l : Int) f' ((d - 1 : Nat) : Int) ((j + 1 : Nat) : Int) (pv_up hm 32 (d - 2) v) := by
            intro v hv
            unfold fX10_isSo_159 fX10_isSo_192
            rw [if_pos b4, if_pos hv, tnc, bbs, bbs, w1]
          by_cases x25 : x = 25
          · rw [if_pos x25, if_neg (show ¬ (d : Int) < 2 by omega), ed, bbs, ed2, if_pos b2, if_pos b1, if_pos b2, tnc, tnc, r1', s1', and_01 r2 s2, bbs, if_pos x25]
            unfold fX3_isSo_176 fX10_isSo_89 fX10_isSo_130
            rw [ed, bbs, bbs, w1, ed2, if_pos x25, if_pos b4, if_pos b3, tnc, tnc]
            by_cases z : hm 32 (d - 2) = 0
            · rw [if_pos z, if_pos z, m159 0 (Or.inl rfl)]
              exact go2 0 (Or.inl rfl)
            · rw [if_neg z, if_neg z]
              by_cases z2 : hm 32 (d - 1) = 0
              · rw [if_pos z2, m159 0 (Or.inl rfl), z2]
                exact go2 0 (Or.inl rfl)
              · rw [if_neg z2, m159 1 (Or.inr rfl), show hm 32 (d - 1) = 1 by omega]
                exact go2 1 (Or.inr rfl)
          · have x24 : x = 24 := by omega
            unfold fX3_isSo_101
            rw [if_neg x25, if_pos j400, tnc, cx, if_pos x24, if_neg (show ¬ (d : Int) < 2 by omega), ed, bbs, ed2, if_pos b2, if_pos b1, if_pos b2, tnc, tnc, r1', s1', or_01 r2 s2, bbs, if_neg x25, if_pos x24]
            unfold fX3_isSo_176 fX10_isSo_89 fX10_isSo_154
            rw [ed, bbs, bbs, w1, ed2, if_neg x25, if_pos b4, if_pos b3, tnc, tnc]
            by_cases z : hm 32 (d - 2) = 0
            · rw [if_pos z, if_pos z]
              by_cases z2 : hm 32 (d - 1) = 0
              · rw [if_pos z2, m159 0 (Or.inl rfl), z2]
                exact go2 0 (Or.inl rfl)
              · rw [if_neg z2, m159 1 (Or.inr rfl), show hm 32 (d - 1) = 1 by omega]
                exact go2 1 (Or.inr rfl)
            · rw [if_neg z, if_neg z, m159 1 (Or.inr rfl)]
              exact go2 1 (Or.inr rfl)
        · rw [if_neg dd] at h6; cases h6
      · rw [if_neg x2] at h6
        by_cases xf : 27 ≤ x ∧ x ≤ 36
        · rw [if_pos xf] at h6
          obtain ⟨t, t01, tC, tM⟩ := fact_R (R.frm F G) h60 (x := x) (y := y) xf
          unfold fX3_isSo_101
          rw [if_neg (show ¬ x = 25 by omega), if_pos j400, tnc, cx, if_neg (show ¬ x = 24 by omega), if_neg (show ¬ x = 25 by omega), if_neg (show ¬ x = 24 by omega)]
          unfold fX3_isSo_141
          rw [if_pos j400, if_pos j400, tnc, cx, cy, tC, c1s, tM, c1s, if_pos (show 0 ≤ (d : Int) ∧ (d : Int) < 220 by omega), if_pos t01, bbs, bbs]
          unfold fX3_isSo_172 fX3_isSo_176 fX10_isSo_192
          have b1 : 0 ≤ (d : Int) ∧ (d : Int) < 401 := by omega
          rw [if_pos b1, if_pos b1, tnc, w1]
          simp only [bbs, pws (show d < 2000000000 by omega)]
          have fin := go d (d + 1) t t01 (by omega) rfl (Nat.le_refl _) h6
          rcases t01 with z | z
          · rw [if_pos z]
            rw [z] at fin ⊢
            exact fin
          · rw [if_neg (by omega)]
            rw [z] at fin ⊢
            exact fin
        · rw [if_neg xf] at h6; cases h6
theorem so_R {hc hm : pv_H} (S : SSz hc hm) (R : RESz n np hc hm) (h60 : n ≤ 60) {l : Nat} (hl : (l : Int) < hm 2 2636) : ∃ (hc' hm' : pv_H) (t : Int), fX3_isSo pv_NN 25 (l : Int) 79 hc = some (hc', t) ∧ fX10_isSo pv_NN (l : Int) hm = some (hm', t) ∧ (t = 0 ∨ t = 1) ∧ (∀ x y, x ≠ 29 → hc' x y = hc x y) ∧ ∀ x y, x ≠ 32 → hm' x y = hm x y := by
  obtain ⟨k1, k2, k3, k4⟩ := S.lookv
  obtain ⟨a, b, q1, q2, q3, q4, q5, q6, q7, q8⟩ := k4 l hl
  obtain ⟨hc', hm', t, e1, e2, e3, e4, e5⟩ := so_l (a := a) (b := b) (l := l) R h60 (by omega) q2 q4 q6 q8 (b - a) a 0 pv_NN pv_NN hc hm (by omega) (Nat.le_refl _) (by omega) (by unfold pv_NN; omega) (by unfold pv_NN; omega) q7 (fun _ _ _ => rfl) (fun _ _ _ => rfl) (fun i hi => by omega)
  refine ⟨hc', hm', t, ?_, ?_, e3, e4, e5⟩
  · unfold fX3_isSo
    have : hc (25 + 1) l = (a : Int) := q3
    rw [if_pos (by omega), tnc, this, bbs]
    exact e1
  · unfold fX10_isSo
    rw [pv_w_id (x := 2637 + (l : Int)) (by omega) (by omega), if_pos (by omega), show Int.toNat (2637 + (l : Int)) = 2637 + l by omega, q5, bbs]
    exact e2
end SO
theorem s_found : sm_found SSz := by
  intro hc hm S a1 a2 a3 a4 a5 _ _ _ _ _
  refine two_th S fun hm S => ?_
  unfold fX9_found fX9_found_44 fX10_found_45
  obtain ⟨k1, k2, k3, _⟩ := S.lookv
  rw [k1, pv_w_id (x := hm 2 2636 - 1) (by omega) (by omega)]
  by_cases hlo : 0 ≤ a1 ∧ a1 < hm 2 2636
  · obtain ⟨l, rfl⟩ := Int.eq_ofNat_of_zero_le hlo.1
    have hl := hlo.2
    rw [if_neg (show ¬ (l : Int) < 0 by omega), if_neg (show ¬ hm 2 2636 ≤ (l : Int) by omega), wn_1 (show 0 ≤ (l : Int) ∧ (l : Int) ≤ hm 2 2636 - 1 by omega), c1s, if_neg n10]
    by_cases hr : rodOk hm a2
    · obtain ⟨a, rfl⟩ := Int.eq_ofNat_of_zero_le hr.1
      have hA : 0 ≤ (a : Int) ∧ (a : Int) < 4 := ⟨by omega, hr.2.1⟩
      rw [hasRod_1 S hr, c1s, if_neg n10]
      by_cases hd : 0 ≤ a3 ∧ a3 < 4
      · obtain ⟨b, rfl⟩ := Int.eq_ofNat_of_zero_le hd.1
        rw [hasDo_1 hd, c1s, if_neg n10, isBoth_1 hr hd, c1s, if_neg n10]
        by_cases h4 : 0 ≤ a5 ∧ a5 ≤ 1
        · rw [wn_1 h4, c1s, if_neg n10, if_neg (show ¬ a5 < 0 by omega), if_pos (show a5 ≤ 1 by omega)]
          by_cases hp : 1 ≤ a4 ∧ a4 ≤ 100
          · obtain ⟨m, rfl⟩ := Int.eq_ofNat_of_zero_le (show 0 ≤ a4 by omega)
            rw [seeds_1 hp, c1s, if_neg n10, wn_1 hp, c1s, if_neg n10, bbs, bbs]
            -- one seed, from any state that differs in places that nothing rests on
            have one : ∀ (s : Nat) (hc1 hm1 : pv_H), frz PCz hc hc1 → frz PMz hm hm1 → ∃ (hc' hm' hc2 hm2 : pv_H) (np : Nat) (t : Int), fX1_breakRod pv_NN (35 + 6 * a) (59 + 4 * b) 23 (s : Int) hc1 = some (hc', (np : Int)) ∧ fX10_piecesOf pv_NN (a : Int) (b : Int) (s : Int) 1 (-1) hm1 = some (hm', (np : Int)) ∧ frz PCz hc hc2 ∧ frz PMz hm hm2 ∧ (t = 0 ∨ t = 1) ∧ fX3_isSo pv_NN 25 (l : Int) 79 hc' = some (hc2, t) ∧ fX10_isSo pv_NN (l : Int) hm' = some (hm2, t) := by
              intro s hc1 hm1 f1 g1
              have hr1 : rodOk hm1 (a : Int) := ⟨hr.1, hr.2.1, by rw [g1 _ _ (by unfold PMz; omega)]; exact hr.2.2⟩
              obtain ⟨hc', hm', np, n, e1, e2, S', _, R, n3, n60, _, _, F, G⟩ := brk_R (S.frz f1 g1) (b := b) (seed := (s : Int)) hr1 (by omega)
              obtain ⟨hc2, hm2, t, t1, t2, t3, t4, t5⟩ := so_R S' R n60 (l := l) (by rw [G _ _ (by unfold PMz; omega), g1 _ _ (by unfold PMz; omega)]; exact hl)
              exact ⟨hc', hm', hc2, hm2, np, t, e1, e2, (f1.tr F).tr (fun x y np' => t4 x y (by unfold PCz at np'; omega)), (g1.tr G).tr (fun x y np' => t5 x y (by unfold PMz at np'; omega)), t3, t1, t2⟩
            obtain ⟨T, hT⟩ : ∃ T : Nat → Int, ∀ s : Nat, ∃ (hc' hm' hc2 hm2 : pv_H) (np : Nat), fX1_breakRod pv_NN (35 + 6 * a) (59 + 4 * b) 23 (s : Int) hc = some (hc', (np : Int)) ∧ fX10_piecesOf pv_NN (a : Int) (b : Int) (s : Int) 1 (-1) hm = some (hm', (np : Int)) ∧ (T s = 0 ∨ T s = 1) ∧ fX3_isSo pv_NN 25 (l : Int) 79 hc' = some (hc2, T s) ∧ fX10_isSo pv_NN (l : Int) hm' = some (hm2, T s) := by
              have : ∀ s : Nat, ∃ t : Int, ∃ (hc' hm' hc2 hm2 : pv_H) (np : Nat), fX1_breakRod pv_NN (35 + 6 * a) (59 + 4 * b) 23 (s : Int) hc = some (hc', (np : Int)) ∧ fX10_piecesOf pv_NN (a : Int) (b : Int) (s : Int) 1 (-1) hm = some (hm', (np : Int)) ∧ (t = 0 ∨ t = 1) ∧ fX3_isSo pv_NN 25 (l : Int) 79 hc' = some (hc2, t) ∧ fX10_isSo pv_NN (l : Int) hm' = some (hm2, t) := fun s => by
                obtain ⟨hc', hm', hc2, hm2, np, t, e1, e2, _, _, e5, e6, e7⟩ := one s hc hm frz.rf frz.rf
                exact ⟨t, hc', hm', hc2, hm2, np, e1, e2, e5, e6, e7⟩
              exact ⟨fun s => (this s).choose, fun s => (this s).choose_spec⟩
            have T01 : ∀ s, T s = 0 ∨ T s = 1 := fun s => (hT s).choose_spec.choose_spec.choose_spec.choose_spec.choose_spec.2.2.1
            have cC : ∀ (s : Nat) (h : pv_H), frz PCz hc h → ∃ (h' h'' : pv_H) (np : Int), fX1_breakRod pv_NN (35 + 6 * a) (59 + 4 * b) 23 (s : Int) h = some (h', np) ∧ frz PCz hc h'' ∧ fX3_isSo pv_NN 25 (l : Int) 79 h' = some (h'', T s) := by
              intro s h f
              obtain ⟨hc', hm', hc2, hm2, np, t, e1, e2, f1, _, _, e6, e7⟩ := one s h hm f frz.rf
              obtain ⟨_, hm3, _, hm4, np2, _, x2, _, _, x5⟩ := hT s
              rw [e2] at x2
              cases x2
              rw [e7] at x5
              cases x5
              exact ⟨hc', hc2, np, e1, f1, e6⟩
            have cM : ∀ (s : Nat) (h : pv_H), frz PMz hm h → ∃ (h' h'' : pv_H) (np : Int), fX10_piecesOf pv_NN (a : Int) (b : Int) (s : Int) 1 (-1) h = some (h', np) ∧ frz PMz hm h'' ∧ fX10_isSo pv_NN (l : Int) h' = some (h'', T s) := by
              intro s h f
              obtain ⟨hc', hm', hc2, hm2, np, t, e1, e2, _, f1, _, e6, e7⟩ := one s hc h frz.rf f
              obtain ⟨hc3, _, hc4, _, np2, x1, _, _, x4, _⟩ := hT s
              rw [e1] at x1
              cases x1
              rw [e6] at x4
              cases x4
              exact ⟨hm', hm2, np, e2, f1, e7⟩
            obtain ⟨hcE, w, eC, lC, FC⟩ := desc_l (T := T) (m := m) (a5 := a5) (LC := fun f v6 v7 v8 h => fX9_found_76 pv_NN (l : Int) (a : Int) (b : Int) (m : Int) a5 f v6 v7 v8 h) (h0 := hc) T01 (by omega) (fun f v6 v7 h => by
              show fX9_found_76 pv_NN (l : Int) (a : Int) (b : Int) (m : Int) a5 (f + 1) v6 v7 0 h = _
              rw [fX9_found_76, if_pos (by omega)]
              unfold fX9_found_163
              by_cases z : a5 = 0
              · rw [if_pos z, if_pos z]
              · rw [if_neg z, if_neg z]) (fun f s v6 v7 h h1 h2 h3 h4' h5 => by
              obtain ⟨h', h2', np, e1, f1, e2⟩ := cC s h h3
              refine ⟨h2', f1, ?_⟩
              show fX9_found_76 pv_NN (l : Int) (a : Int) (b : Int) (m : Int) a5 (f + 1) v6 v7 (s : Int) h = _
              have es : pv_w ((s : Int) + -1) = ((s - 1 : Nat) : Int) := by rw [pv_w_id (by omega) (by omega)]; omega
              rw [fX9_found_76, if_neg (show ¬ (s : Int) < 1 by omega), if_pos hA, tnc, bbs, if_pos hd, tnc, bbs, e1, c2s, e2, c2s]
              unfold fX9_found_145
              by_cases z : T s = 0
              · rw [if_pos z, if_pos z, bbs, es]
              · rw [if_neg z, if_neg z, bbs, bbs, es, pv_w_id (by omega) (by omega)]) m pv_NN hc 0 (-1) (Nat.le_refl _) (by unfold pv_NN; omega) frz.rf (by omega) (by omega) (by omega) (Or.inl ⟨rfl, fun j j1 j2 => by omega⟩)
            obtain ⟨hmE, w', eM, lM, FM⟩ := asc_l (T := T) (m := m) (a5 := a5) (LM := fun f v6 v7 v8 h => fX10_found_81 pv_NN (l : Int) (a : Int) (b : Int) (m : Int) a5 f v6 v7 v8 h) (h0 := hm) T01 (by omega) (fun f v6 v7 h => by
              show fX10_found_81 pv_NN (l : Int) (a : Int) (b : Int) (m : Int) a5 (f + 1) v6 v7 ((m + 1 : Nat) : Int) h = _
              rw [fX10_found_81, if_pos (by omega)]
              unfold fX10_found_146
              by_cases z : a5 = 0
              · rw [if_pos z, if_pos z]
              · rw [if_neg z, if_neg z]) (fun f s v6 v7 h h1 h2 h3 h4' h5 => by
              obtain ⟨h', h2', np, e1, f1, e2⟩ := cM s h h3
              refine ⟨h2', f1, ?_⟩
              show fX10_found_81 pv_NN (l : Int) (a : Int) (b : Int) (m : Int) a5 (f + 1) v6 v7 (s : Int) h = _
              rw [fX10_found_81, if_neg (show ¬ (m : Int) < (s : Int) by omega), e1, c2s, e2, c2s]
              unfold fX10_found_126 fX10_found_128
              by_cases z : T s = 0
              · rw [if_pos z, if_pos z, bbs, pws (by omega)]
              · rw [if_neg z, if_neg z, bbs]
                by_cases z7 : v7 = -1
                · rw [if_pos z7, if_pos z7, bbs, pws (by omega), pv_w_id (by omega) (by omega)]
                · rw [if_neg z7, if_neg z7, bbs, pws (by omega), pv_w_id (by omega) (by omega)]) m 1 pv_NN hm 0 (-1) (by omega) (by omega) (by unfold pv_NN; omega) frz.rf (by omega) (by omega) rfl (Or.inl ⟨rfl, fun j j1 j2 => by omega⟩)
            have ww := lsdz_1 lC lM
            subst ww
            have eC : fX9_found_76 pv_NN (l : Int) (a : Int) (b : Int) (m : Int) a5 pv_NN 0 (-1) (m : Int) hc = _ := eC
            have eM : fX10_found_81 pv_NN (l : Int) (a : Int) (b : Int) (m : Int) a5 pv_NN 0 (-1) 1 hm = _ := eM
            rw [eC, eM]
            exact wend rfl (S.frz FC FM)
          · rw [seeds_0 hp, c1s, if_pos rfl, wn_0 hp, c1s, if_pos rfl]
            exact no3 S
        · rw [wn_0 h4, c1s, if_pos rfl]
          by_cases z : a5 < 0
          · rw [if_pos z]; exact no2 S
          · rw [if_neg z, if_neg (show ¬ a5 ≤ 1 by omega)]; exact no2 S
      · rw [hasDo_0 hd, c1s, if_pos rfl, isBoth_0 (fun z => hd z.2), c1s, if_pos rfl]
        exact no2 S
    · rw [hasRod_0 S hr, c1s, if_pos rfl, isBoth_0 (fun z => hr z.1), c1s, if_pos rfl]
      exact no2 S
  · rw [wn_0 (show ¬ (0 ≤ a1 ∧ a1 ≤ hm 2 2636 - 1) by omega), c1s, if_pos rfl]
    by_cases z : a1 < 0
    · rw [if_pos z]; exact no2 S
    · rw [if_neg z, if_pos (show hm 2 2636 ≤ a1 by omega)]; exact no2 S
