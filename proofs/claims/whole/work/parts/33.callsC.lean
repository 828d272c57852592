/-! calls: keep, flies -/
section KEEP
variable {N a w : Nat} {a2 s : Int} {h0 : pv_H}
theorem keep_C (ha : a < 4) (hw : w ≤ 60) (es : h0 (216 + 2 * a) 3 = s) : ∀ (f i : Nat) (h : pv_H), i ≤ w → w < i + f → (∀ x y, ¬ (x = 217 + 2 * a ∧ y < i) → h x y = h0 x y) → (∀ j, j < i → h (217 + 2 * a) j = cutf s (if a2 = 0 then h0 34 j else h0 32 (60 + j))) → wpz (fX9_keep_109 N (a : Int) a2 f (w : Int) (i : Int) h) fun r => r.2 = w ∧ (∀ x y, ¬ (x = 217 + 2 * a ∧ y < w) → r.1 x y = h0 x y) ∧ ∀ j, j < w → r.1 (217 + 2 * a) j = cutf s (if a2 = 0 then h0 34 j else h0 32 (60 + j)) := by
  intro f
  induction f with
  | zero => intro i h h1 h2; omega
  | succ f ih =>
    intro i h h1 h2 h3 h4
    rw [fX9_keep_109]
    by_cases q : w ≤ i
    · rw [if_pos (by omega)]
      have : i = w := by omega
      subst this
      exact wp_some.mpr ⟨rfl, h3, h4⟩
    · rw [if_neg (by omega), if_pos (by omega), bbs]
      simp only [tnc]
      have x2 : 216 + 2 * a + 1 = 217 + 2 * a := by omega
      have es2 : h (216 + 2 * a) 3 = s := by rw [h3 _ _ (by omega)]; exact es
      have step : ∀ v : Int, v = (if a2 = 0 then h0 34 i else h0 32 (60 + i)) → wpz (fX9_keep_158 N (fun v4_ v5_ hh => fX9_keep_109 N (a : Int) a2 f v4_ v5_ hh) (a : Int) a2 (w : Int) (i : Int) v (i : Int) (216 + 2 * a) h) fun r => r.2 = w ∧ (∀ x y, ¬ (x = 217 + 2 * a ∧ y < w) → r.1 x y = h0 x y) ∧ ∀ j, j < w → r.1 (217 + 2 * a) j = cutf s (if a2 = 0 then h0 34 j else h0 32 (60 + j)) := by
        intro v hv
        unfold fX9_keep_158
        rw [put_C (by omega) (by omega), c2s, bbs, pws (by omega), tnc, x2, es2]
        refine ih (i + 1) _ (by omega) (by omega) (fun x y n => ?_) (fun j hj => ?_)
        · rw [pv_up_ne (by omega)]
          exact h3 x y (by omega)
        · by_cases e : j = i
          · subst e
            rw [pv_up_self, hv]
          · rw [pv_up_ne (by omega)]
            exact h4 j (by omega)
      by_cases q2 : a2 = 0
      · rw [if_pos q2, if_pos (by omega)]
        refine step _ ?_
        rw [if_pos q2]
        exact h3 _ _ (by omega)
      · rw [if_neg q2]
        unfold fX7_tickOf
        simp (disch := omega) only [pv_w_id, if_pos, c1s]
        have x : Int.toNat (60 + (i : Int)) = 60 + i := by omega
        rw [x]
        refine step _ ?_
        rw [if_neg q2]
        exact h3 _ _ (by omega)
theorem keep_M (ha : a < 4) (hw : w ≤ 60) (es : h0 33 a = s) : ∀ (f i : Nat) (h : pv_H), i ≤ w → w < i + f → (∀ x y, ¬ (x = 35 ∧ 60 * a ≤ y ∧ y < 60 * a + i) → h x y = h0 x y) → (∀ j, j < i → h 35 (60 * a + j) = cutf s (if a2 = 0 then h0 2 (1374 + j) else h0 2 (1194 + j))) → wpz (fX10_keep_108 N (a : Int) a2 f (w : Int) (i : Int) h) fun r => r.2 = w ∧ (∀ x y, ¬ (x = 35 ∧ 60 * a ≤ y ∧ y < 60 * a + w) → r.1 x y = h0 x y) ∧ ∀ j, j < w → r.1 35 (60 * a + j) = cutf s (if a2 = 0 then h0 2 (1374 + j) else h0 2 (1194 + j)) := by
  intro f
  induction f with
  | zero => intro i h h1 h2; omega
  | succ f ih =>
    intro i h h1 h2 h3 h4
    rw [fX10_keep_108]
    by_cases q : w ≤ i
    · rw [if_pos (by omega)]
      have : i = w := by omega
      subst this
      exact wp_some.mpr ⟨rfl, h3, h4⟩
    · rw [if_neg (by omega)]
      have es2 : h 33 a = s := by rw [h3 _ _ (by omega)]; exact es
      have step : ∀ s0 : Nat, (s0 = 1374 ∧ a2 = 0 ∨ s0 = 1194 ∧ ¬ a2 = 0) → wpz (fX10_keep_142 N (fun v3_ v4_ hh => fX10_keep_108 N (a : Int) a2 f v3_ v4_ hh) (a : Int) a2 (w : Int) (i : Int) (s0 : Int) (pv_w (pv_w (60 * (a : Int)) + (i : Int))) h) fun r => r.2 = w ∧ (∀ x y, ¬ (x = 35 ∧ 60 * a ≤ y ∧ y < 60 * a + w) → r.1 x y = h0 x y) ∧ ∀ j, j < w → r.1 35 (60 * a + j) = cutf s (if a2 = 0 then h0 2 (1374 + j) else h0 2 (1194 + j)) := by
        intro s0 hs
        unfold fX10_keep_142
        simp (disch := omega) only [pv_w_id (x := (s0 : Int) + (i : Int)), pv_w_id (x := 60 * (a : Int)), pv_w_id (x := 60 * (a : Int) + (i : Int)), if_pos, cut_M, c1s, bbs, pws]
        have x : Int.toNat (60 * (a : Int) + (i : Int)) = 60 * a + i := by omega
        have x2 : Int.toNat ((s0 : Int) + (i : Int)) = s0 + i := by omega
        rw [x, x2, tnc, es2]
        refine ih (i + 1) _ (by omega) (by omega) (fun x y n => ?_) (fun j hj => ?_)
        · rw [pv_up_ne (by omega)]
          exact h3 x y (by omega)
        · by_cases e : j = i
          · subst e
            rw [pv_up_self, h3 _ _ (by omega)]
            rcases hs with ⟨z1, z2⟩ | ⟨z1, z2⟩
            · rw [if_pos z2, z1]
            · rw [if_neg z2, z1]
          · rw [pv_up_ne (by omega)]
            exact h4 j (by omega)
      by_cases q2 : a2 = 0
      · rw [if_pos q2]
        exact step 1374 (Or.inl ⟨rfl, q2⟩)
      · rw [if_neg q2]
        exact step 1194 (Or.inr ⟨rfl, q2⟩)
end KEEP
theorem s_keep : sm_keep SSz := by
  intro hc hm S a1 a2 _ _
  refine two_th S fun hm S => ?_
  unfold fX9_keep
  obtain ⟨k1, k2⟩ := S.kept
  by_cases h1 : 0 ≤ a1 ∧ a1 < 4
  · rw [isRow_1 h1]
    by_cases h2 : 0 ≤ a2 ∧ a2 ≤ 1
    · obtain ⟨a, rfl⟩ := Int.eq_ofNat_of_zero_le h1.1
      have r := S.2.2.2.2.1 a (by omega)
      simp only [tnc]
      by_cases hk : hm 2 1125 = 1
      · obtain ⟨b1, b2, b3, b4, b5, b6, b7, b8, b9, b10, b11, _⟩ := S.keptv hk
        rcases id r with ⟨r1, r2⟩ | ⟨r1, r2, r3, r4, r5, r6, r7, r8⟩
        · simp (disch := omega) only [if_pos, if_neg, c1s, bbs, wn_1, isKept_1]
          exact no6 S
        · have c0 : hc 31 0 = hm 2 1126 := b1 0 (by omega)
          have c1 : hc 31 1 = hm 2 1127 := b1 1 (by omega)
          have fin : ∀ w : Nat, w ≤ 60 → (w : Int) ≤ hm 34 a → (a2 = 0 → (w : Int) ≤ hm 2 1127) → (¬ a2 = 0 → (w : Int) ≤ hm 2 1126) → wpz (fX9_keep_109 pv_NN (a : Int) a2 pv_NN (w : Int) 0 hc) fun c => wpz (fX10_keep_108 pv_NN (a : Int) a2 pv_NN (w : Int) 0 hm) fun m => c.2 = m.2 ∧ SSz c.1 m.1 := by
            intro w hw hs v1 v2
            refine wp_mono (keep_C (a := a) (w := w) (h0 := hc) (s := hm 33 a) (by omega) hw r4 pv_NN 0 hc (by omega) (by unfold pv_NN; omega) (fun x y n => rfl) (fun j hj => absurd hj (Nat.not_lt_zero j))) ?_
            rintro ⟨hc', rc⟩ ⟨e1, e2, e3⟩
            refine wp_mono (keep_M (a := a) (w := w) (h0 := hm) (s := hm 33 a) (by omega) hw rfl pv_NN 0 hm (by omega) (by unfold pv_NN; omega) (fun x y n => rfl) (fun j hj => absurd hj (Nat.not_lt_zero j))) ?_
            rintro ⟨hm', rm⟩ ⟨f1, f2, f3⟩
            dsimp only at e1 e2 e3 f1 f2 f3 ⊢
            refine ⟨by omega, S.row (a := a) (by omega) (fun i k n1 n2 => e2 _ _ (by omega)) (fun i k n1 n2 => f2 _ _ (by omega)) (Or.inr ?_)⟩
            rw [e2 _ _ (by omega), e2 _ _ (by omega), e2 _ _ (by omega), f2 _ _ (by omega), f2 _ _ (by omega)]
            refine ⟨r1, r2, r3, r4, r5, r6, r7, fun i hi => ?_⟩
            by_cases q : i < w
            · rw [e3 i q, f3 i q]
              by_cases q2 : a2 = 0
              · rw [if_pos q2, if_pos q2, (b10 i (by have := v1 q2; omega)).1]
              · rw [if_neg q2, if_neg q2]
                have := b8 1 i (by omega) (by have := v2 q2; omega)
                have e1 : 60 * 1 + i = 60 + i := by omega
                have e2 : 1134 + 60 * 1 + i = 1194 + i := by omega
                rw [e1, e2] at this
                rw [this]
            · rw [e2 _ _ (by omega), f2 _ _ (by omega)]
              exact r8 i hi
          unfold fX9_keep_90 fX10_keep_82 fX10_keep_104
          by_cases q2 : a2 = 0
          · have x : Int.toNat 1127 = 1127 := rfl
            simp (disch := omega) only [if_pos, if_neg, c1s, bbs, wn_1, isKept_1, x, tnc, c1, r5]
            by_cases q3 : hm 2 1127 ≤ hm 34 a
            · obtain ⟨w, hw⟩ := Int.eq_ofNat_of_zero_le (show 0 ≤ hm 2 1127 by omega)
              rw [if_pos q3, Int.min_eq_left q3, hw]
              exact fin w (by omega) (by omega) (fun _ => by omega) (fun z => absurd q2 z)
            · obtain ⟨w, hw⟩ := Int.eq_ofNat_of_zero_le r6
              rw [if_neg q3, Int.min_eq_right (by omega), hw]
              exact fin w (by omega) (by omega) (fun _ => by omega) (fun z => absurd q2 z)
          · have x : Int.toNat 1126 = 1126 := rfl
            simp (disch := omega) only [if_pos, if_neg, c1s, bbs, wn_1, isKept_1, x, tnc, c0, r5]
            by_cases q3 : hm 2 1126 ≤ hm 34 a
            · obtain ⟨w, hw⟩ := Int.eq_ofNat_of_zero_le (show 0 ≤ hm 2 1126 by omega)
              rw [if_pos q3, Int.min_eq_left q3, hw]
              exact fin w (by omega) (by omega) (fun z => absurd z q2) (fun _ => by omega)
            · obtain ⟨w, hw⟩ := Int.eq_ofNat_of_zero_le r6
              rw [if_neg q3, Int.min_eq_right (by omega), hw]
              exact fin w (by omega) (by omega) (fun z => absurd z q2) (fun _ => by omega)
      · simp (disch := omega) only [if_pos, if_neg, c1s, bbs, wn_1, isKept_0]
        exact no5 S
    · by_cases h4 : a2 < 0
      · simp (disch := omega) only [if_pos, if_neg, c1s, bbs, wn_1, wn_0]
        exact no2 S
      · simp (disch := omega) only [if_pos, if_neg, c1s, bbs, wn_1, wn_0]
        exact no2 S
  · rw [isRow_0 h1]
    simp (disch := omega) only [if_pos, if_neg, c1s, bbs, wn_1, wn_0]
    exact no2 S
/-- sums as the machine makes them -/
def wsum (p : Nat → Int) : Nat → Int
  | 0 => 0
  | k + 1 => pv_w (wsum p k + p k)
theorem wsum_congr {p q : Nat → Int} : ∀ n, (∀ k, k < n → p k = q k) → wsum p n = wsum q n := by
  intro n
  induction n with
  | zero => intro h; rfl
  | succ n ih => intro h; simp only [wsum, ih (fun k hk => h k (by omega)), h n (by omega)]
section CAUSE
variable {N z B : Nat} {c : Int} {h : pv_H}
theorem brkAt_C {this : Nat} (eB : h (this + 1) 0 = B) (hB : B ≤ 60) (z1 : z ≤ B) (z2 : ∀ k, k < z → h (this + 2) k ≠ c) (z3 : z = B ∨ ¬ h (this + 2) z ≠ c) : ∀ (f i : Nat), i ≤ z → z < i + f → fX7_breakAt_2 N this c f (i : Int) h = some (if z = B then -1 else (z : Int)) := by
  intro f
  induction f with
  | zero => intro i h1 h2; omega
  | succ f ih =>
    intro i h1 h2
    rw [fX7_breakAt_2, eB]
    by_cases q : B ≤ i
    · rw [if_pos (by omega), if_pos (by omega)]
    · rw [if_neg (by omega)]
      unfold fX7_cellOf
      simp (disch := omega) only [pv_w_id, if_pos, c1s]
      have x : Int.toNat (0 + (i : Int)) = i := by omega
      rw [x]
      by_cases e : i = z
      · subst e
        have : h (this + 2) i = c := by
          rcases z3 with z3 | z3
          · omega
          · exact Classical.byContradiction z3
        rw [if_pos this, if_neg (by omega)]
      · rw [if_neg (z2 i (by omega)), bbs]
        exact ih (i + 1) (by omega) (by omega)
theorem brkBy_M (eB : h 2 1126 = B) (hB : B ≤ 60) (z1 : z ≤ B) (z2 : ∀ k, k < z → h 2 (1134 + k) ≠ c) (z3 : z = B ∨ ¬ h 2 (1134 + z) ≠ c) : ∀ (f i : Nat), i ≤ z → z < i + f → fX10_brokenBy_2 N c f (i : Int) h = some (if z = B then 0 else h 2 (1314 + z)) := by
  intro f
  induction f with
  | zero => intro i h1 h2; omega
  | succ f ih =>
    intro i h1 h2
    rw [fX10_brokenBy_2, eB]
    by_cases q : B ≤ i
    · rw [if_pos (by omega), if_pos (by omega)]
    · rw [if_neg (by omega)]
      simp (disch := omega) only [pv_w_id, if_pos]
      have x : Int.toNat (1134 + (i : Int)) = 1134 + i := by omega
      have x2 : Int.toNat (1314 + (i : Int)) = 1314 + i := by omega
      rw [x, x2]
      by_cases e : i = z
      · subst e
        have : h 2 (1134 + i) = c := by
          rcases z3 with z3 | z3
          · omega
          · exact Classical.byContradiction z3
        rw [if_pos this, if_neg (by omega)]
      · rw [if_neg (z2 i (by omega)), bbs]
        exact ih (i + 1) (by omega) (by omega)
end CAUSE
/-- what broke a cell, told by both -/
theorem cause_two {hc hm : pv_H} (S : SSz hc hm) (hk : hm 2 1125 = 1) (c : Int) : ∃ v, fX7_causeAt pv_NN 30 c hc = some v ∧ fX10_brokenBy pv_NN c hm = some v := by
  obtain ⟨b1, b2, b3, b4, b5, b6, b7, b8, b9, b10, b11, _⟩ := S.keptv hk
  obtain ⟨B, eB⟩ := Int.eq_ofNat_of_zero_le b2
  have b0 : hc 31 0 = hm 2 1126 := b1 0 (by omega)
  obtain ⟨z, z1, z2, z3⟩ := fst_ex (fun k => hm 2 (1134 + k) ≠ c) B
  have y : ∀ k, k < B → hc (30 + 2) k = hm 2 (1134 + k) := fun k hk => by
    have := b8 0 k (by omega) (by omega)
    have e1 : 60 * 0 + k = k := by omega
    have e2 : 1134 + 60 * 0 + k = 1134 + k := by omega
    rw [e1, e2] at this
    exact this
  have m := brkBy_M (N := pv_NN) (h := hm) eB (by omega) z1 z2 z3 pv_NN 0 (by omega) (by unfold pv_NN; omega)
  have q := brkAt_C (N := pv_NN) (h := hc) (this := 30) (c := c) (z := z) (B := B) (show hc 31 0 = (B : Int) by omega) (by omega) z1 (fun k hk => by rw [y k (by omega)]; exact z2 k hk) (by
    rcases z3 with z3 | z3
    · exact Or.inl z3
    · by_cases e : z = B
      · exact Or.inl e
      · exact Or.inr (by rw [y z (by omega)]; exact z3)) pv_NN 0 (by omega) (by unfold pv_NN; omega)
  have q : fX7_breakAt pv_NN 30 c hc = some (if z = B then -1 else (z : Int)) := q
  refine ⟨if z = B then 0 else hm 2 (1314 + z), ?_, m⟩
  unfold fX7_causeAt fX7_causeAt_25
  rw [q, c1s]
  by_cases e : z = B
  · rw [if_pos e, if_pos rfl, if_pos e]
  · rw [if_neg e, if_neg e, if_neg (by omega)]
    simp (disch := omega) only [pv_w_id, if_pos]
    have x : Int.toNat (180 + (z : Int)) = 180 + z := by omega
    rw [x]
    have := b8 3 z (by omega) (by omega)
    have e1 : 60 * 3 + z = 180 + z := by omega
    have e2 : 1134 + 60 * 3 + z = 1314 + z := by omega
    rw [e1, e2] at this
    exact congrArg some this
theorem s_flies : sm_flies SSz := by
  intro hc hm S a1 _
  refine two_th S fun hm S => ?_
  unfold fX9_flies
  by_cases h1 : a1 < 0
  · rw [code_2 S (Or.inl h1)]
    simp (disch := omega) only [if_pos, if_neg, c1s]
    exact no2 S
  · by_cases hk : hm 2 1125 = 1
    · obtain ⟨b1, b2, b3, b4, b5, b6, b7, b8, b9, b10, _⟩ := S.keptv hk
      by_cases h2 : a1 < hm 2 1127
      · rw [code_0 S (by omega) hk h2]
        unfold fX10_flies_35
        simp (disch := omega) only [if_pos, if_neg, c1s, isKept_1]
        obtain ⟨a, rfl⟩ := Int.eq_ofNat_of_zero_le (show 0 ≤ a1 by omega)
        have y : ∀ k : Nat, k ≤ a → hc 34 k = hm 2 (1374 + k) := fun k hk => (b10 k (by omega)).1
        obtain ⟨p1, p2, p3⟩ := b10 a (by omega)
        have lc : ∀ (f i : Nat), i ≤ a → a < i + f → fX7_flightOf_4 pv_NN 30 (a : Int) f (wsum (fun k => hm 2 (1374 + k)) i) (i : Int) hc = fX7_flightOf_4 pv_NN 30 (a : Int) 1 (wsum (fun k => hm 2 (1374 + k)) a) (a : Int) hc := by
          intro f
          induction f with
          | zero => intro i h1 h2; omega
          | succ f ih =>
            intro i h1 h2
            by_cases e : i = a
            · subst e
              rw [fX7_flightOf_4, fX7_flightOf_4, if_pos (Int.le_refl _), if_pos (Int.le_refl _)]
            · rw [fX7_flightOf_4, if_neg (by omega), if_pos (by omega), bbs, bbs, tnc, pws (by omega)]
              have := ih (i + 1) (by omega) (by omega)
              simp only [wsum] at this
              rw [← y i (by omega)] at this
              exact this
        have lm : ∀ (f i : Nat), i ≤ a → a < i + f → fX10_flies_53 pv_NN (a : Int) f (wsum (fun k => hm 2 (1374 + k)) i) (i : Int) hm = fX10_flies_53 pv_NN (a : Int) 1 (wsum (fun k => hm 2 (1374 + k)) a) (a : Int) hm := by
          intro f
          induction f with
          | zero => intro i h1 h2; omega
          | succ f ih =>
            intro i h1 h2
            by_cases e : i = a
            · subst e
              rw [fX10_flies_53, fX10_flies_53, if_pos (Int.le_refl _), if_pos (Int.le_refl _)]
            · have x : Int.toNat (1374 + (i : Int)) = 1374 + i := by omega
              rw [fX10_flies_53, if_neg (by omega)]
              simp (disch := omega) only [pv_w_id (x := 1374 + (i : Int)), if_pos, x, bbs, pws]
              have := ih (i + 1) (by omega) (by omega)
              simp only [wsum] at this
              exact this
        have l1 : fX7_flightOf pv_NN 30 (a : Int) hc = _ := lc pv_NN 0 (by omega) (by unfold pv_NN; omega)
        have l2 : fX10_flies_53 pv_NN (a : Int) pv_NN 0 0 hm = _ := lm pv_NN 0 (by omega) (by unfold pv_NN; omega)
        rw [l1, l2, fX7_flightOf_4, fX10_flies_53]
        obtain ⟨v1, u1, w1⟩ := cause_two S hk (pv_w (wsum (fun k => hm 2 (1374 + k)) a - 1))
        obtain ⟨v2, u2, w2⟩ := cause_two S hk (pv_w (pv_w (wsum (fun k => hm 2 (1374 + k)) a + hm 2 (1374 + a)) - 1))
        have x : Int.toNat (1374 + (a : Int)) = 1374 + a := by omega
        have x3 : max 1 (hc 34 a) = hm 2 (1374 + a) := by rw [p1]; omega
        have hq : (30 : Nat) + 4 = 34 := rfl
        simp (disch := omega) only [if_pos, bbs, tnc, hq, x3, pv_w_id (x := 1374 + (a : Int)), x, u1, u2, w1, w2, c1s, if_neg]
        unfold fX9_flies_29
        exact wend rfl S
      · rw [code_2 S (Or.inr ⟨hk, by omega⟩)]
        simp (disch := omega) only [if_pos, if_neg, c1s, isKept_1]
        exact no2 S
    · rw [code_5 S (by omega) hk]
      unfold fX10_flies_35
      simp (disch := omega) only [if_pos, if_neg, c1s, isKept_0]
      exact no5 S
