/-! a call that runs its seeds the other way about: filmed -/
section ISFM
variable {N a : Nat} {h : pv_H} {z sz B : Nat}
theorem isfm_2 (ha : a < 4) (hz : z ≤ 60) : ∀ (f i : Nat), i ≤ z → z < i + f → (∀ k, k < i → h 35 (60 * a + k) = h 21 k) → ((∀ k, k < z → h 35 (60 * a + k) = h 21 k) → fX10_isFilmed_46 N (a : Int) f (z : Int) (i : Int) h = some 1) ∧ (¬ (∀ k, k < z → h 35 (60 * a + k) = h 21 k) → fX10_isFilmed_46 N (a : Int) f (z : Int) (i : Int) h = some 0) := by
  intro f
  induction f with
  | zero => intro i h1 h2; omega
  | succ f ih =>
    intro i h1 h2 h3
    rw [fX10_isFilmed_46]
    by_cases q : z ≤ i
    · rw [if_pos (by omega)]
      exact ⟨fun _ => rfl, fun y => absurd (fun k hk => h3 k (by omega)) y⟩
    · have x : Int.toNat (60 * (a : Int) + (i : Int)) = 60 * a + i := by omega
      rw [if_neg (by omega), pv_w_id (x := 60 * (a : Int)) (by omega) (by omega), pv_w_id (x := 60 * (a : Int) + i) (by omega) (by omega), if_pos (by omega), if_pos (by omega), x, tnc]
      by_cases q4 : h 35 (60 * a + i) = h 21 i
      · rw [if_pos (cmp_eq.mpr q4), bbs, pws (by omega)]
        exact ih (i + 1) (by omega) (by omega) (fun k hk => by
          by_cases w : k = i
          · subst w; exact q4
          · exact h3 k (by omega))
      · rw [if_neg (fun y => q4 (cmp_eq.mp y))]
        exact ⟨fun y => absurd (y i (by omega)) q4, fun _ => rfl⟩
theorem isfm_M (hN : 100 ≤ N) (ha : a < 4) (e1 : h 34 a = (sz : Int)) (hs : sz ≤ 60) (z1 : z ≤ sz) (z2 : ∀ k, k < z → 0 ≤ h 35 (60 * a + k)) (z3 : z = sz ∨ ¬ 0 ≤ h 35 (60 * a + z)) (eB : h 0 38 = (B : Int)) : ∀ (f i : Nat), i ≤ z → z < i + f → ((z = B ∧ ∀ k, k < z → h 35 (60 * a + k) = h 21 k) → fX10_isFilmed_2 N (a : Int) f (i : Int) h = some 1) ∧ (¬ (z = B ∧ ∀ k, k < z → h 35 (60 * a + k) = h 21 k) → fX10_isFilmed_2 N (a : Int) f (i : Int) h = some 0) := by
  intro f
  induction f with
  | zero => intro i h1 h2; omega
  | succ f ih =>
    intro i h1 h2
    have fin : i = z → ((z = B ∧ ∀ k, k < z → h 35 (60 * a + k) = h 21 k) → fX10_isFilmed_34 N (a : Int) (i : Int) h = some 1) ∧ (¬ (z = B ∧ ∀ k, k < z → h 35 (60 * a + k) = h 21 k) → fX10_isFilmed_34 N (a : Int) (i : Int) h = some 0) := by
      intro e
      subst e
      unfold fX10_isFilmed_34
      rw [eB]
      by_cases q : i = B
      · have r := isfm_2 (N := N) (a := a) (h := h) (z := i) ha (by omega) N 0 (by omega) (by omega) (fun k hk => by omega)
        rw [if_pos (by omega)]
        exact ⟨fun y => r.1 y.2, fun y => r.2 (fun w => y ⟨q, w⟩)⟩
      · rw [if_neg (by omega)]
        exact ⟨fun y => absurd y.1 q, fun _ => rfl⟩
    rw [fX10_isFilmed_2, if_pos (by omega), tnc, e1]
    by_cases q : sz ≤ i
    · rw [if_pos (by omega)]
      exact fin (by omega)
    · have x : Int.toNat (60 * (a : Int) + (i : Int)) = 60 * a + i := by omega
      rw [if_neg (by omega), pv_w_id (x := 60 * (a : Int)) (by omega) (by omega), pv_w_id (x := 60 * (a : Int) + i) (by omega) (by omega), if_pos (by omega), x]
      by_cases q2 : h 35 (60 * a + i) < 0
      · rw [if_pos (cmp_lt.mpr q2)]
        refine fin ?_
        by_cases y : i = z
        · exact y
        · have := z2 i (by omega); omega
      · have iz : i < z := by
          rcases z3 with y | y
          · omega
          · by_cases w : i = z
            · subst w; omega
            · omega
        rw [if_neg (fun y => q2 (cmp_lt.mp y)), bbs, pws (by omega)]
        exact ih (i + 1) (by omega) (by omega)
end ISFM
/-- the least seed with the property, or NONE -/
def lsdz (T : Nat → Int) (m : Nat) (w : Int) : Prop := (w = -1 ∧ ∀ j, 1 ≤ j → j ≤ m → T j = 0) ∨ ∃ k : Nat, w = (k : Int) ∧ 1 ≤ k ∧ k ≤ m ∧ T k ≠ 0 ∧ ∀ j, 1 ≤ j → j < k → T j = 0
theorem lsdz_1 {T : Nat → Int} {m : Nat} {w w' : Int} (h : lsdz T m w) (h' : lsdz T m w') : w = w' := by
  rcases h with ⟨a1, a2⟩ | ⟨k, a1, a2, a3, a4, a5⟩
  · rcases h' with ⟨b1, b2⟩ | ⟨k', b1, b2, b3, b4, b5⟩
    · omega
    · exact absurd (a2 k' b2 b3) b4
  · rcases h' with ⟨b1, b2⟩ | ⟨k', b1, b2, b3, b4, b5⟩
    · exact absurd (b2 k a2 a3) a4
    · by_cases e : k = k'
      · omega
      · by_cases l : k < k'
        · exact absurd (b5 k a2 l) a4
        · exact absurd (a5 k' b2 (by omega)) b4
/-- downwards -/
theorem desc_l {T : Nat → Int} {m : Nat} {a5 : Int} {LC : Nat → Int → Int → Int → pv_H → Option (pv_H × Int)} {h0 : pv_H} (T01 : ∀ s, T s = 0 ∨ T s = 1) (hm : m ≤ 100)
  (e0 : ∀ f v6 v7 h, LC (f + 1) v6 v7 0 h = some (h, if a5 = 0 then v6 else v7))
  (eS : ∀ (f s : Nat) (v6 v7 : Int) (h : pv_H), 1 ≤ s → s ≤ m → frz PCz h0 h → 0 ≤ v6 → v6 ≤ 1000 → ∃ h', frz PCz h0 h' ∧ LC (f + 1) v6 v7 (s : Int) h = if T s = 0 then LC f v6 v7 ((s - 1 : Nat) : Int) h' else LC f (v6 + 1) (s : Int) ((s - 1 : Nat) : Int) h') :
  ∀ (s f : Nat) (h : pv_H) (v6 v7 : Int), s ≤ m → s < f → frz PCz h0 h → 0 ≤ v6 → v6 + s ≤ m → v6 + sumz (fun k => T (k + 1)) s = sumz (fun k => T (k + 1)) m → ((v7 = -1 ∧ ∀ j, s < j → j ≤ m → T j = 0) ∨ ∃ k : Nat, v7 = (k : Int) ∧ s < k ∧ k ≤ m ∧ T k ≠ 0 ∧ ∀ j, s < j → j < k → T j = 0) → ∃ h' w, LC f v6 v7 (s : Int) h = some (h', if a5 = 0 then sumz (fun k => T (k + 1)) m else w) ∧ lsdz T m w ∧ frz PCz h0 h' := by
  intro s
  induction s with
  | zero =>
    intro f h v6 v7 h1 h2 h3 h4 h5 h6 h7
    obtain ⟨f, rfl⟩ : ∃ g, f = g + 1 := ⟨f - 1, by omega⟩
    refine ⟨h, v7, ?_, ?_, h3⟩
    · have := e0 f v6 v7 h
      rw [show ((0 : Nat) : Int) = 0 from rfl, this]
      have e : v6 = sumz (fun k => T (k + 1)) m := by
        have : sumz (fun k => T (k + 1)) 0 = 0 := rfl
        omega
      rw [e]
    · rcases h7 with ⟨a1, a2⟩ | ⟨k, a1, a2, a3, a4, a5⟩
      · exact Or.inl ⟨a1, fun j j1 j2 => a2 j (by omega) j2⟩
      · exact Or.inr ⟨k, a1, by omega, a3, a4, fun j j1 j2 => a5 j (by omega) j2⟩
  | succ s ih =>
    intro f h v6 v7 h1 h2 h3 h4 h5 h6 h7
    obtain ⟨f, rfl⟩ : ∃ g, f = g + 1 := ⟨f - 1, by omega⟩
    obtain ⟨h', F, e⟩ := eS f (s + 1) v6 v7 h (by omega) h1 h3 h4 (by omega)
    rw [Nat.add_sub_cancel] at e
    have es : sumz (fun k => T (k + 1)) (s + 1) = sumz (fun k => T (k + 1)) s + T (s + 1) := rfl
    rcases T01 (s + 1) with t | t
    · rw [if_pos t] at e
      rw [e]
      refine ih f h' v6 v7 (by omega) (by omega) F h4 (by omega) (by omega) ?_
      rcases h7 with ⟨a1, a2⟩ | ⟨k, a1, a2, a3, a4, a5⟩
      · refine Or.inl ⟨a1, fun j j1 j2 => ?_⟩
        by_cases y : j = s + 1
        · subst y; exact t
        · exact a2 j (by omega) j2
      · refine Or.inr ⟨k, a1, by omega, a3, a4, fun j j1 j2 => ?_⟩
        by_cases y : j = s + 1
        · subst y; exact t
        · exact a5 j (by omega) j2
    · rw [if_neg (by omega)] at e
      rw [e]
      exact ih f h' (v6 + 1) ((s + 1 : Nat) : Int) (by omega) (by omega) F (by omega) (by omega) (by omega) (Or.inr ⟨s + 1, rfl, by omega, h1, by omega, fun j j1 j2 => by omega⟩)
/-- upwards -/
theorem asc_l {T : Nat → Int} {m : Nat} {a5 : Int} {LM : Nat → Int → Int → Int → pv_H → Option (pv_H × Int)} {h0 : pv_H} (T01 : ∀ s, T s = 0 ∨ T s = 1) (hm : m ≤ 100)
  (e0 : ∀ f v6 v7 h, LM (f + 1) v6 v7 ((m + 1 : Nat) : Int) h = some (h, if a5 = 0 then v6 else v7))
  (eS : ∀ (f s : Nat) (v6 v7 : Int) (h : pv_H), 1 ≤ s → s ≤ m → frz PMz h0 h → 0 ≤ v6 → v6 ≤ 1000 → ∃ h', frz PMz h0 h' ∧ LM (f + 1) v6 v7 (s : Int) h = if T s = 0 then LM f v6 v7 ((s + 1 : Nat) : Int) h' else LM f (v6 + 1) (if v7 = -1 then (s : Int) else v7) ((s + 1 : Nat) : Int) h') :
  ∀ (d s f : Nat) (h : pv_H) (v6 v7 : Int), s + d = m + 1 → 1 ≤ s → d < f → frz PMz h0 h → 0 ≤ v6 → v6 < s → v6 = sumz (fun k => T (k + 1)) (s - 1) → ((v7 = -1 ∧ ∀ j, 1 ≤ j → j < s → T j = 0) ∨ ∃ k : Nat, v7 = (k : Int) ∧ 1 ≤ k ∧ k < s ∧ T k ≠ 0 ∧ ∀ j, 1 ≤ j → j < k → T j = 0) → ∃ h' w, LM f v6 v7 (s : Int) h = some (h', if a5 = 0 then sumz (fun k => T (k + 1)) m else w) ∧ lsdz T m w ∧ frz PMz h0 h' := by
  intro d
  induction d with
  | zero =>
    intro s f h v6 v7 h1 h2 h3 h4 h5 h6 h7 h8
    obtain ⟨f, rfl⟩ : ∃ g, f = g + 1 := ⟨f - 1, by omega⟩
    have : s = m + 1 := by omega
    subst this
    rw [Nat.add_sub_cancel] at h7
    refine ⟨h, v7, ?_, ?_, h4⟩
    · rw [e0, h7]
    · rcases h8 with ⟨a1, a2⟩ | ⟨k, a1, a2, a3, a4, a5⟩
      · exact Or.inl ⟨a1, fun j j1 j2 => a2 j j1 (by omega)⟩
      · exact Or.inr ⟨k, a1, a2, by omega, a4, a5⟩
  | succ d ih =>
    intro s f h v6 v7 h1 h2 h3 h4 h5 h6 h7 h8
    obtain ⟨f, rfl⟩ : ∃ g, f = g + 1 := ⟨f - 1, by omega⟩
    obtain ⟨h', F, e⟩ := eS f s v6 v7 h h2 (by omega) h4 h5 (by omega)
    have es : sumz (fun k => T (k + 1)) s = sumz (fun k => T (k + 1)) (s - 1) + T s := by
      obtain ⟨u, rfl⟩ : ∃ u, s = u + 1 := ⟨s - 1, by omega⟩
      rfl
    rcases T01 s with t | t
    · rw [if_pos t] at e
      rw [e]
      refine ih (s + 1) f h' v6 v7 (by omega) (by omega) (by omega) F h5 (by omega) (by rw [Nat.add_sub_cancel]; omega) ?_
      rcases h8 with ⟨a1, a2⟩ | ⟨k, a1, a2, a3, a4, a5⟩
      · refine Or.inl ⟨a1, fun j j1 j2 => ?_⟩
        by_cases y : j = s
        · subst y; exact t
        · exact a2 j j1 (by omega)
      · exact Or.inr ⟨k, a1, a2, by omega, a4, a5⟩
    · rw [if_neg (by omega)] at e
      rw [e]
      refine ih (s + 1) f h' (v6 + 1) _ (by omega) (by omega) (by omega) F (by omega) (by omega) (by rw [Nat.add_sub_cancel]; omega) ?_
      rcases h8 with ⟨a1, a2⟩ | ⟨k, a1, a2, a3, a4, a5⟩
      · rw [if_pos a1]
        exact Or.inr ⟨s, rfl, h2, by omega, by omega, a2⟩
      · rw [if_neg (by omega)]
        exact Or.inr ⟨k, a1, a2, by omega, a4, a5⟩
/-- whether a row is the TICKS of a run, both -/
theorem film_R {hc hm : pv_H} {n np a : Nat} (S : SSz hc hm) (R : RESz n np hc hm) (h60 : n ≤ 60) (ha : a < 4) (hrow : ¬ hm 33 a = -1) : ∃ t : Int, (t = 0 ∨ t = 1) ∧ fX7_holdsTicks pv_NN 79 (216 + 2 * a) hc = some t ∧ fX10_isFilmed pv_NN (a : Int) hm = some t := by
  obtain ⟨nb, _, _, ⟨q1, q2, q3, q4, q5, _⟩, _⟩ := R
  rcases S.2.2.2.2.1 a ha with ⟨r1, r2⟩ | ⟨r1, r2, r3, r4, r5, r6, r7, r8⟩
  · exact absurd r2 hrow
  · obtain ⟨sz, es⟩ := Int.eq_ofNat_of_zero_le r6
    obtain ⟨z, z1, z2, z3⟩ := fst_ex (fun k => 0 ≤ hm 35 (60 * a + k)) sz
    have y : ∀ k, k < sz → hc (216 + 2 * a + 1) k = hm 35 (60 * a + k) := fun k hk => by
      have := r8 k (by omega)
      have x2 : 217 + 2 * a = 216 + 2 * a + 1 := by omega
      rw [x2] at this
      exact this
    have hC := holds_C (N := pv_NN) (this := 79) (rw' := 216 + 2 * a) (h := hc) (z := z) (sz := sz) (B := nb) (by decide) (by rw [r5]; exact es) (by omega) z1 (fun k hk => by rw [y k (by omega)]; exact z2 k hk) (by
      by_cases e : z = sz
      · exact Or.inl e
      · rw [y z (by omega)]; exact z3) q1
    have hM := isfm_M (N := pv_NN) (a := a) (h := hm) (z := z) (sz := sz) (B := nb) (by decide) ha es (by omega) z1 z2 z3 q2 pv_NN 0 (by omega) (by unfold pv_NN; omega)
    have hM : ((z = nb ∧ ∀ k, k < z → hm 35 (60 * a + k) = hm 21 k) → fX10_isFilmed pv_NN (a : Int) hm = some 1) ∧ (¬ (z = nb ∧ ∀ k, k < z → hm 35 (60 * a + k) = hm 21 k) → fX10_isFilmed pv_NN (a : Int) hm = some 0) := hM
    have iff' : (z = nb ∧ ∀ k, k < z → hc (216 + 2 * a + 1) k = hc (79 + 2) (60 + k)) ↔ (z = nb ∧ ∀ k, k < z → hm 35 (60 * a + k) = hm 21 k) := by
      constructor
      · rintro ⟨w1, w2⟩
        refine ⟨w1, fun k hk => ?_⟩
        rw [← y k (by omega), w2 k hk]
        exact (q5 k (by omega)).2.1
      · rintro ⟨w1, w2⟩
        refine ⟨w1, fun k hk => ?_⟩
        rw [y k (by omega), w2 k hk]
        exact ((q5 k (by omega)).2.1).symm
    by_cases w : z = nb ∧ ∀ k, k < z → hm 35 (60 * a + k) = hm 21 k
    · exact ⟨1, Or.inr rfl, hC.1 (iff'.mpr w), hM.1 w⟩
    · exact ⟨0, Or.inl rfl, hC.2 (fun v => w (iff'.mp v)), hM.2 w⟩
theorem s_filmed : sm_filmed SSz := by
  intro hc hm S a1 a2 a3 a4 a5 _ _ _ _ _
  refine two_th S fun hm S => ?_
  unfold fX9_filmed fX9_filmed_33 fX10_filmed_37
  by_cases hr : rodOk hm a1
  · obtain ⟨a, rfl⟩ := Int.eq_ofNat_of_zero_le hr.1
    have hA : 0 ≤ (a : Int) ∧ (a : Int) < 4 := ⟨by omega, hr.2.1⟩
    rw [hasRod_1 S hr, c1s, if_neg n10]
    by_cases hd : 0 ≤ a2 ∧ a2 < 4
    · obtain ⟨b, rfl⟩ := Int.eq_ofNat_of_zero_le hd.1
      rw [hasDo_1 hd, c1s, if_neg n10, isBoth_1 hr hd, c1s, if_neg n10]
      by_cases hd3 : 0 ≤ a3 ∧ a3 < 4
      · obtain ⟨q, rfl⟩ := Int.eq_ofNat_of_zero_le hd3.1
        rw [isRow_1 hd3, c1s, if_neg n10, wn_1 (show 0 ≤ (q : Int) ∧ (q : Int) ≤ 3 by omega), c1s, if_neg n10]
        by_cases h4 : 0 ≤ a5 ∧ a5 ≤ 1
        · rw [wn_1 h4, c1s, if_neg n10, if_neg (show ¬ a5 < 0 by omega), if_pos (show a5 ≤ 1 by omega)]
          by_cases hp : 1 ≤ a4 ∧ a4 ≤ 100
          · obtain ⟨m, rfl⟩ := Int.eq_ofNat_of_zero_le (show 0 ≤ a4 by omega)
            have r0 := row_0 S (q := q) (by omega)
            rw [seeds_1 hp, c1s, if_neg n10, wn_1 hp, c1s, if_neg n10, if_pos hd3, tnc, bbs, if_pos hd3]
            by_cases y : hm 33 q = -1
            · rw [if_pos (r0.mpr y), if_pos y]; exact no6 S
            · rw [if_neg (fun w => y (r0.mp w)), if_neg y, bbs, bbs]
              -- one seed, from any state that differs in places that nothing rests on
              have one : ∀ (s : Nat) (hc1 hm1 : pv_H), frz PCz hc hc1 → frz PMz hm hm1 → ∃ (hc' hm' : pv_H) (np : Nat) (t : Int), fX1_breakRod pv_NN (35 + 6 * a) (59 + 4 * b) 23 (s : Int) hc1 = some (hc', (np : Int)) ∧ fX10_piecesOf pv_NN (a : Int) (b : Int) (s : Int) 1 (-1) hm1 = some (hm', (np : Int)) ∧ frz PCz hc hc' ∧ frz PMz hm hm' ∧ (t = 0 ∨ t = 1) ∧ fX7_holdsTicks pv_NN 79 (216 + 2 * q) hc' = some t ∧ fX10_isFilmed pv_NN (q : Int) hm' = some t := by
                intro s hc1 hm1 f1 g1
                have hr1 : rodOk hm1 (a : Int) := ⟨hr.1, hr.2.1, by rw [g1 _ _ (by unfold PMz; omega)]; exact hr.2.2⟩
                obtain ⟨hc', hm', np, n, e1, e2, S', _, R, n3, n60, _, _, F, G⟩ := brk_R (S.frz f1 g1) (b := b) (seed := (s : Int)) hr1 (by omega)
                obtain ⟨t, t1, t2, t3⟩ := film_R S' R n60 (show q < 4 by omega) (by rw [G _ _ (by unfold PMz; omega), g1 _ _ (by unfold PMz; omega)]; exact y)
                exact ⟨hc', hm', np, t, e1, e2, f1.tr F, g1.tr G, t1, t2, t3⟩
              obtain ⟨T, hT⟩ : ∃ T : Nat → Int, ∀ s : Nat, ∃ (hc' hm' : pv_H) (np : Nat), fX1_breakRod pv_NN (35 + 6 * a) (59 + 4 * b) 23 (s : Int) hc = some (hc', (np : Int)) ∧ fX10_piecesOf pv_NN (a : Int) (b : Int) (s : Int) 1 (-1) hm = some (hm', (np : Int)) ∧ (T s = 0 ∨ T s = 1) ∧ fX7_holdsTicks pv_NN 79 (216 + 2 * q) hc' = some (T s) ∧ fX10_isFilmed pv_NN (q : Int) hm' = some (T s) := by
                have : ∀ s : Nat, ∃ t : Int, ∃ (hc' hm' : pv_H) (np : Nat), fX1_breakRod pv_NN (35 + 6 * a) (59 + 4 * b) 23 (s : Int) hc = some (hc', (np : Int)) ∧ fX10_piecesOf pv_NN (a : Int) (b : Int) (s : Int) 1 (-1) hm = some (hm', (np : Int)) ∧ (t = 0 ∨ t = 1) ∧ fX7_holdsTicks pv_NN 79 (216 + 2 * q) hc' = some t ∧ fX10_isFilmed pv_NN (q : Int) hm' = some t := fun s => by
                  obtain ⟨hc', hm', np, t, e1, e2, _, _, e5, e6, e7⟩ := one s hc hm frz.rf frz.rf
                  exact ⟨t, hc', hm', np, e1, e2, e5, e6, e7⟩
                exact ⟨fun s => (this s).choose, fun s => (this s).choose_spec⟩
              have T01 : ∀ s, T s = 0 ∨ T s = 1 := fun s => (hT s).choose_spec.choose_spec.choose_spec.2.2.1
              have cC : ∀ (s : Nat) (h : pv_H), frz PCz hc h → ∃ (h' : pv_H) (np : Int), fX1_breakRod pv_NN (35 + 6 * a) (59 + 4 * b) 23 (s : Int) h = some (h', np) ∧ frz PCz hc h' ∧ fX7_holdsTicks pv_NN 79 (216 + 2 * q) h' = some (T s) := by
                intro s h f
                obtain ⟨hc', hm', np, t, e1, e2, f1, _, _, e6, e7⟩ := one s h hm f frz.rf
                obtain ⟨_, hm2, np2, _, x2, _, _, x5⟩ := hT s
                rw [e2] at x2
                cases x2
                rw [e7] at x5
                cases x5
                exact ⟨hc', np, e1, f1, e6⟩
              have cM : ∀ (s : Nat) (h : pv_H), frz PMz hm h → ∃ (h' : pv_H) (np : Int), fX10_piecesOf pv_NN (a : Int) (b : Int) (s : Int) 1 (-1) h = some (h', np) ∧ frz PMz hm h' ∧ fX10_isFilmed pv_NN (q : Int) h' = some (T s) := by
                intro s h f
                obtain ⟨hc', hm', np, t, e1, e2, _, f1, _, e6, e7⟩ := one s hc h frz.rf f
                obtain ⟨hc2, _, np2, x1, _, _, x4, _⟩ := hT s
                rw [e1] at x1
                cases x1
                rw [e6] at x4
                cases x4
                exact ⟨hm', np, e2, f1, e7⟩
              obtain ⟨hcE, w, eC, lC, FC⟩ := desc_l (T := T) (m := m) (a5 := a5) (LC := fun f v6 v7 v8 h => fX9_filmed_84 pv_NN (a : Int) (b : Int) (q : Int) (m : Int) a5 f v6 v7 v8 h) (h0 := hc) T01 (by omega) (fun f v6 v7 h => by
                show fX9_filmed_84 pv_NN (a : Int) (b : Int) (q : Int) (m : Int) a5 (f + 1) v6 v7 0 h = _
                rw [fX9_filmed_84, if_pos (by omega)]
                unfold fX9_filmed_169
                by_cases z : a5 = 0
                · rw [if_pos z, if_pos z]
                · rw [if_neg z, if_neg z]) (fun f s v6 v7 h h1 h2 h3 h4' h5 => by
                obtain ⟨h', np, e1, f1, e2⟩ := cC s h h3
                refine ⟨h', f1, ?_⟩
                show fX9_filmed_84 pv_NN (a : Int) (b : Int) (q : Int) (m : Int) a5 (f + 1) v6 v7 (s : Int) h = _
                have es : pv_w ((s : Int) + -1) = ((s - 1 : Nat) : Int) := by rw [pv_w_id (by omega) (by omega)]; omega
                rw [fX9_filmed_84, if_neg (show ¬ (s : Int) < 1 by omega), if_pos hA, tnc, bbs, if_pos hd, tnc, bbs, e1, c2s, if_pos hd3, tnc, bbs, e2, c1s]
                unfold fX9_filmed_151
                by_cases z : T s = 0
                · rw [if_pos z, if_pos z, bbs, es]
                · rw [if_neg z, if_neg z, bbs, bbs, es, pv_w_id (by omega) (by omega)]) m pv_NN hc 0 (-1) (Nat.le_refl _) (by unfold pv_NN; omega) frz.rf (by omega) (by omega) (by omega) (Or.inl ⟨rfl, fun j j1 j2 => by omega⟩)
              obtain ⟨hmE, w', eM, lM, FM⟩ := asc_l (T := T) (m := m) (a5 := a5) (LM := fun f v6 v7 v8 h => fX10_filmed_90 pv_NN (a : Int) (b : Int) (q : Int) (m : Int) a5 f v6 v7 v8 h) (h0 := hm) T01 (by omega) (fun f v6 v7 h => by
                show fX10_filmed_90 pv_NN (a : Int) (b : Int) (q : Int) (m : Int) a5 (f + 1) v6 v7 ((m + 1 : Nat) : Int) h = _
                rw [fX10_filmed_90, if_pos (by omega)]
                unfold fX10_filmed_155
                by_cases z : a5 = 0
                · rw [if_pos z, if_pos z]
                · rw [if_neg z, if_neg z]) (fun f s v6 v7 h h1 h2 h3 h4' h5 => by
                obtain ⟨h', np, e1, f1, e2⟩ := cM s h h3
                refine ⟨h', f1, ?_⟩
                show fX10_filmed_90 pv_NN (a : Int) (b : Int) (q : Int) (m : Int) a5 (f + 1) v6 v7 (s : Int) h = _
                rw [fX10_filmed_90, if_neg (show ¬ (m : Int) < (s : Int) by omega), e1, c2s, e2, c1s]
                unfold fX10_filmed_135 fX10_filmed_137
                by_cases z : T s = 0
                · rw [if_pos z, if_pos z, bbs, pws (by omega)]
                · rw [if_neg z, if_neg z, bbs]
                  by_cases z7 : v7 = -1
                  · rw [if_pos z7, if_pos z7, bbs, pws (by omega), pv_w_id (by omega) (by omega)]
                  · rw [if_neg z7, if_neg z7, bbs, pws (by omega), pv_w_id (by omega) (by omega)]) m 1 pv_NN hm 0 (-1) (by omega) (by omega) (by unfold pv_NN; omega) frz.rf (by omega) (by omega) rfl (Or.inl ⟨rfl, fun j j1 j2 => by omega⟩)
              have ww := lsdz_1 lC lM
              subst ww
              have eC : fX9_filmed_84 pv_NN (a : Int) (b : Int) (q : Int) (m : Int) a5 pv_NN 0 (-1) (m : Int) hc = _ := eC
              have eM : fX10_filmed_90 pv_NN (a : Int) (b : Int) (q : Int) (m : Int) a5 pv_NN 0 (-1) 1 hm = _ := eM
              rw [eC, eM]
              exact wend rfl (S.frz FC FM)
          · rw [seeds_0 hp, c1s, if_pos rfl, wn_0 hp, c1s, if_pos rfl]
            exact no3 S
        · rw [wn_0 h4, c1s, if_pos rfl]
          by_cases z : a5 < 0
          · rw [if_pos z]; exact no2 S
          · rw [if_neg z, if_neg (show ¬ a5 ≤ 1 by omega)]; exact no2 S
      · rw [isRow_0 hd3, c1s, if_pos rfl, wn_0 (show ¬ (0 ≤ a3 ∧ a3 ≤ 3) by omega), c1s, if_pos rfl]
        exact no2 S
    · rw [hasDo_0 hd, c1s, if_pos rfl, isBoth_0 (fun z => hd z.2), c1s, if_pos rfl]
      exact no2 S
  · rw [hasRod_0 S hr, c1s, if_pos rfl, isBoth_0 (fun z => hr z.1), c1s, if_pos rfl]
    exact no2 S
