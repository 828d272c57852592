/-! looks, and a call that runs its seeds the other way about: found -/
section FACTS
variable {n np : Nat} {hc hm : pv_H}
theorem kinds_R {nb : Nat} {x : Int} (h60 : nb ≤ 60) (b0 : hc 80 0 = (nb : Int)) (m0 : hm 0 38 = (nb : Int)) (k : ∀ k, k < nb → hc 81 (120 + k) = hm 22 k) : ∀ (f f' i : Nat) (v : Int), i ≤ nb → nb < i + f → nb < i + f' → 0 ≤ v → v ≤ i → ∃ c, fX7_breaksOfKind_4 pv_NN 79 x f v (i : Int) hc = some c ∧ fX10_kinds_4 pv_NN x f' v (i : Int) hm = some c := by
  intro f
  induction f with
  | zero => intro f' i v h1 h2; omega
  | succ f ih =>
    intro f' i v h1 h2 h3 h4 h5
    obtain ⟨f', rfl⟩ : ∃ g, f' = g + 1 := ⟨f' - 1, by omega⟩
    rw [fX7_breaksOfKind_4, fX10_kinds_4, m0]
    have b0 : hc (79 + 1) 0 = (nb : Int) := b0
    rw [b0]
    by_cases q : i = nb
    · subst q
      rw [if_pos (by omega), if_pos (by omega)]
      exact ⟨v, rfl, rfl⟩
    · have t0 : Int.toNat (120 + (i : Int)) = 120 + i := by omega
      have kk := k i (by omega)
      have kk : hc (79 + 2) (120 + i) = hm 22 i := kk
      unfold fX7_breaksOfKind_26 fX10_kinds_28 fX7_kindOf
      have ni : ¬ (nb : Int) ≤ (i : Int) := by omega
      rw [if_neg ni, if_neg ni, pv_w_id (x := 120 + (i : Int)) (by omega) (by omega), if_pos (show 0 ≤ 120 + (i : Int) ∧ 120 + (i : Int) < 240 by omega), t0, c1s, kk, if_pos (show 0 ≤ (i : Int) ∧ (i : Int) < 60 by omega), tnc]
      by_cases z : hm 22 i = x
      · rw [if_pos z, if_pos z, bbs, bbs, bbs, bbs, pws (by omega), pv_w_id (x := v + 1) (by omega) (by omega)]
        exact ih f' (i + 1) (v + 1) (by omega) (by omega) (by omega) (by omega) (by omega)
      · rw [if_neg z, if_neg z, bbs, bbs, bbs, pws (by omega), pv_w_id (x := v + 0) (by omega) (by omega), Int.add_zero]
        exact ih f' (i + 1) v (by omega) (by omega) (by omega) h4 (by omega)
theorem long_R (h60 : np ≤ 60) (b0 : hc 80 1 = (np : Int)) (m0 : hm 0 42 = (np : Int)) (P : ∀ k, k < np → hc 83 k = hm 24 k ∧ 1 ≤ hm 24 k ∧ hm 24 k ≤ 60) : ∀ (f f' i : Nat) (v : Int), i ≤ np → np < i + f → np < i + f' → (∃ c, fX7_longestPiece_9 pv_NN 79 f v (i : Int) hc = some c ∧ fX10_longest_9 pv_NN 1 f' v (i : Int) hm = some c) ∧ ∃ c, fX7_shortestPiece_9 pv_NN 79 f v (i : Int) hc = some c ∧ fX10_longest_9 pv_NN 0 f' v (i : Int) hm = some c := by
  intro f
  induction f with
  | zero => intro f' i v h1 h2; omega
  | succ f ih =>
    intro f' i v h1 h2 h3
    obtain ⟨f', rfl⟩ : ∃ g, f' = g + 1 := ⟨f' - 1, by omega⟩
    have b0 : hc (79 + 1) 1 = (np : Int) := b0
    by_cases q : i = np
    · subst q
      rw [fX7_longestPiece_9, fX7_shortestPiece_9, fX10_longest_9, fX10_longest_9, m0, b0]
      rw [if_pos (by omega), if_pos (by omega), if_pos (by omega), if_pos (by omega)]
      exact ⟨⟨v, rfl, rfl⟩, ⟨v, rfl, rfl⟩⟩
    · have kk := (P i (by omega)).1
      have kk : hc (79 + 4) i = hm 24 i := kk
      have ni : ¬ (np : Int) ≤ (i : Int) := by omega
      have i60 : 0 ≤ (i : Int) ∧ (i : Int) < 60 := by omega
      have i61 : 0 ≤ (i : Int) ∧ (i : Int) < 61 := by omega
      have L : fX7_longestPiece_9 pv_NN 79 (f + 1) v (i : Int) hc = fX7_longestPiece_9 pv_NN 79 f (max v (hm 24 i)) ((i + 1 : Nat) : Int) hc := by
        rw [fX7_longestPiece_9, b0, if_neg ni, if_pos i60, tnc, kk, bbs, bbs, pws (by omega)]
      have Sh : fX7_shortestPiece_9 pv_NN 79 (f + 1) v (i : Int) hc = fX7_shortestPiece_9 pv_NN 79 f (min v (hm 24 i)) ((i + 1 : Nat) : Int) hc := by
        rw [fX7_shortestPiece_9, b0, if_neg ni, if_pos i60, tnc, kk, bbs, bbs, pws (by omega)]
      have M1 : fX10_longest_9 pv_NN 1 (f' + 1) v (i : Int) hm = fX10_longest_9 pv_NN 1 f' (max v (hm 24 i)) ((i + 1 : Nat) : Int) hm := by
        rw [fX10_longest_9, m0, if_neg ni, if_neg n10, if_pos i61, tnc]
        unfold fX10_longest_64
        by_cases z : hm 24 i ≤ v
        · rw [if_pos z, pws (by omega), bbs, Int.max_eq_left z]
        · rw [if_neg z, if_pos i61, pws (by omega), bbs, Int.max_eq_right (by omega)]
      have M0 : fX10_longest_9 pv_NN 0 (f' + 1) v (i : Int) hm = fX10_longest_9 pv_NN 0 f' (min v (hm 24 i)) ((i + 1 : Nat) : Int) hm := by
        rw [fX10_longest_9, m0, if_neg ni, if_pos rfl, if_pos i61, tnc]
        unfold fX10_longest_64
        by_cases z : v ≤ hm 24 i
        · rw [if_pos z, pws (by omega), bbs, Int.min_eq_left z]
        · rw [if_neg z, if_pos i61, pws (by omega), bbs, Int.min_eq_right (by omega)]
      rw [L, Sh, M1, M0]
      exact ⟨(ih f' (i + 1) _ (by omega) (by omega) (by omega)).1, (ih f' (i + 1) _ (by omega) (by omega) (by omega)).2⟩
/-- a fact of a run, both -/
theorem fact_R (R : RESz n np hc hm) (h60 : n ≤ 60) {x y : Int} (hx : 27 ≤ x ∧ x ≤ 36) : ∃ t : Int, (t = 0 ∨ t = 1) ∧ fX3_isFact pv_NN x y 79 hc = some t ∧ fX10_fact pv_NN x y hm = some t := by
  have np60 := R.np60 h60
  obtain ⟨nb, _, _, ⟨b1, b2, b3, b4, b5, b6⟩, _, p1, p2, q1, q2, P, q3, _⟩ := R
  have nb60 : nb ≤ 60 := by have := sumz_b (f := hm 17) n (fun k hk => (b4 k hk).2); omega
  have e1 : hc (79 + 1) 1 = (np : Int) := q1
  have e3 : hc (79 + 1) 3 = hm 0 40 := q3
  have e0 : hc (79 + 1) 0 = (nb : Int) := b1
  have s0e : fX3_isFact pv_NN x y 79 hc = fX3_isFact_14 pv_NN x y 79 (if nb = 0 then 0 else 1) hc := by
    unfold fX3_isFact
    rw [e0]
    by_cases z : nb = 0
    · rw [if_pos (by omega), if_pos z]
    · rw [if_neg (by omega), if_neg z]
  have t120 : 0 < nb → fX7_kindOf pv_NN 79 0 hc = some (hm 22 0) := fun h => by
    unfold fX7_kindOf
    have := (b5 0 h).2.2.1
    have this : hc (79 + 2) 120 = hm 22 0 := this
    rw [if_pos (by decide), show Int.toNat (pv_w (120 + 0)) = 120 by decide, this]
  have t0 : 0 < nb → fX7_cellOf pv_NN 79 0 hc = some (hm 20 0) := fun h => by
    unfold fX7_cellOf
    have := (b5 0 h).1
    have this : hc (79 + 2) 0 = hm 20 0 := this
    rw [if_pos (by decide), show Int.toNat (pv_w (0 + 0)) = 0 by decide, this]
  have t60 : 0 < nb → fX7_tickOf pv_NN 79 0 hc = some (hm 21 0) := fun h => by
    unfold fX7_tickOf
    have := (b5 0 h).2.1
    have this : hc (79 + 2) 60 = hm 21 0 := this
    rw [if_pos (by decide), show Int.toNat (pv_w (60 + 0)) = 60 by decide, this]
  have kd : ∀ w : Int, ∃ c, fX7_breaksOfKind pv_NN 79 w hc = some c ∧ fX10_kinds pv_NN w hm = some c := fun w => kinds_R (x := w) nb60 b1 b2 (fun k hk => (b5 k hk).2.2.1) pv_NN pv_NN 0 0 (by omega) (by unfold pv_NN; omega) (by unfold pv_NN; omega) (by omega) (by omega)
  have lg := long_R np60.2 q1 q2 P pv_NN pv_NN 1 (hm 24 0) (by omega) (by unfold pv_NN; omega) (by unfold pv_NN; omega)
  have p0 : hc (79 + 4) 0 = hm 24 0 := (P 0 (by omega)).1
  have lc : fX7_longestPiece pv_NN 79 hc = fX7_longestPiece_9 pv_NN 79 pv_NN (hm 24 0) 1 hc := by
    unfold fX7_longestPiece
    rw [p0, bbs]
  have sc : fX7_shortestPiece pv_NN 79 hc = fX7_shortestPiece_9 pv_NN 79 pv_NN (hm 24 0) 1 hc := by
    unfold fX7_shortestPiece
    rw [p0, bbs]
  have lm : ∀ w, fX10_longest pv_NN w hm = fX10_longest_9 pv_NN w pv_NN (hm 24 0) 1 hm := fun w => rfl
  rw [s0e]
  unfold fX3_isFact_14 fX10_fact
  rw [b2, q2, e1, e3]
  have z0 : (0 : Int) = 0 ∨ (0 : Int) = 1 := Or.inl rfl
  have z1 : (1 : Int) = 0 ∨ (1 : Int) = 1 := Or.inr rfl
  have yes : ∃ t : Int, (t = 0 ∨ t = 1) ∧ some (1 : Int) = some t ∧ some (1 : Int) = some t := ⟨1, z1, rfl, rfl⟩
  have no : ∃ t : Int, (t = 0 ∨ t = 1) ∧ some (0 : Int) = some t ∧ some (0 : Int) = some t := ⟨0, z0, rfl, rfl⟩
  by_cases x27 : x = 27
  · rw [if_pos x27, if_pos x27]
    unfold fX3_isFact_89 fX3_isFact_90 fX10_fact_73 fX10_fact_74
    rw [if_pos z0, if_pos z1]
    by_cases z : nb = 0
    · rw [if_pos z, if_pos rfl, if_pos (by omega)]; exact no
    · rw [if_neg z, if_neg n10, if_neg (by omega), t120 (by omega), c1s]
      by_cases w : hm 22 0 = 4
      · rw [if_pos w]; exact yes
      · rw [if_neg w]; exact no
  rw [if_neg x27, if_neg x27]
  by_cases x28 : x = 28
  · rw [if_pos x28, if_pos x28]
    unfold fX3_isFact_108 fX3_isFact_109 fX10_fact_96 fX10_fact_97
    rw [if_pos z0, if_pos z1]
    by_cases z : nb = 0
    · rw [if_pos z, if_pos rfl, if_pos (by omega)]; exact no
    · rw [if_neg z, if_neg n10, if_neg (by omega), t120 (by omega), c1s]
      by_cases w : hm 22 0 = 3
      · rw [if_pos w]; exact yes
      · rw [if_neg w]; exact no
  rw [if_neg x28, if_neg x28]
  by_cases x29 : x = 29
  · rw [if_pos x29, if_pos x29]
    unfold fX3_isFact_125 fX10_fact_111
    rw [if_pos z0, if_pos z1]
    by_cases w : (np : Int) < y
    · rw [if_pos w]; exact no
    · rw [if_neg w]; exact yes
  rw [if_neg x29, if_neg x29]
  by_cases x30 : x = 30
  · obtain ⟨c, c1, c2⟩ := kd 1
    rw [if_pos x30, if_pos x30, c1, c2, c1s, c1s]
    unfold fX3_isFact_140 fX10_fact_126
    rw [if_pos z0, if_pos z1]
    by_cases w : c < y
    · rw [if_pos w]; exact no
    · rw [if_neg w]; exact yes
  rw [if_neg x30, if_neg x30]
  by_cases x31 : x = 31
  · obtain ⟨c, c1, c2⟩ := kd 2
    rw [if_pos x31, if_pos x31, c1, c2, c1s, c1s]
    unfold fX3_isFact_155 fX10_fact_141
    rw [if_pos z0, if_pos z1]
    by_cases w : c < y
    · rw [if_pos w]; exact no
    · rw [if_neg w]; exact yes
  rw [if_neg x31, if_neg x31]
  by_cases x32 : x = 32
  · rw [if_pos x32, if_pos x32]
    unfold fX3_isFact_171 fX10_fact_155
    rw [if_pos z0, if_pos z1]
    by_cases w : hm 0 40 < y
    · rw [if_pos w]; exact no
    · rw [if_neg w]; exact yes
  rw [if_neg x32, if_neg x32]
  by_cases x33 : x = 33
  · rw [if_pos x33, if_pos x33]
    unfold fX3_isFact_189 fX3_isFact_190 fX10_fact_177 fX10_fact_178
    rw [if_pos z0, if_pos z1]
    by_cases z : nb = 0
    · rw [if_pos z, if_pos rfl, if_pos (by omega)]; exact no
    · rw [if_neg z, if_neg n10, if_neg (by omega), t0 (by omega), c1s]
      by_cases w : hm 20 0 = y
      · rw [if_pos w]; exact yes
      · rw [if_neg w]; exact no
  rw [if_neg x33, if_neg x33]
  by_cases x34 : x = 34
  · obtain ⟨c, c1, c2⟩ := lg.1
    have c1 : fX7_longestPiece_9 pv_NN 79 pv_NN (hm 24 0) 1 hc = some c := c1
    have c2 : fX10_longest_9 pv_NN 1 pv_NN (hm 24 0) 1 hm = some c := c2
    rw [if_pos x34, if_pos x34, lc, lm, c1, c2, c1s, c1s]
    unfold fX3_isFact_204 fX10_fact_193
    rw [if_pos z0, if_pos z1]
    by_cases w : c < y
    · rw [if_pos w]; exact no
    · rw [if_neg w]; exact yes
  rw [if_neg x34, if_neg x34]
  by_cases x35 : x = 35
  · obtain ⟨c, c1, c2⟩ := lg.2
    have c1 : fX7_shortestPiece_9 pv_NN 79 pv_NN (hm 24 0) 1 hc = some c := c1
    have c2 : fX10_longest_9 pv_NN 0 pv_NN (hm 24 0) 1 hm = some c := c2
    rw [if_pos x35, if_pos x35, sc, lm, c1, c2, c1s, c1s]
    unfold fX3_isFact_218 fX10_fact_208
    rw [if_pos z0, if_pos z1]
    by_cases w : y < c
    · rw [if_pos w]; exact no
    · rw [if_neg w]; exact yes
  rw [if_neg x35, if_neg x35, if_pos (show x = 36 by omega)]
  unfold fX3_isFact_236 fX3_isFact_237 fX10_fact_230 fX10_fact_231
  rw [if_pos z0, if_pos z1]
  by_cases z : nb = 0
  · rw [if_pos z, if_pos rfl, if_pos (by omega)]; exact no
  · rw [if_neg z, if_neg n10, if_neg (by omega), t60 (by omega), c1s]
    by_cases w : hm 21 0 < y
    · rw [if_pos w]; exact no
    · rw [if_neg w]; exact yes
end FACTS
