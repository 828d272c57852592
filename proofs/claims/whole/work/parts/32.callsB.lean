/-! calls: row, write, film, keep, flies -/
/-- a ROW has changed, nothing else -/
theorem SSz.row {hc hm hc' hm' : pv_H} (S : SSz hc hm) {a : Nat} (ha : a < 4) (f : ∀ i k, i ≠ 216 + 2 * a → i ≠ 217 + 2 * a → hc' i k = hc i k) (g : ∀ i k, ¬ ((i = 33 ∨ i = 34) ∧ k = a) → ¬ (i = 35 ∧ 60 * a ≤ k ∧ k < 60 * a + 60) → hm' i k = hm i k) (r : rowR a hc' hm') : SSz hc' hm' := by
  obtain ⟨a1, a2, a4, a5, a6, a7, a8⟩ := S
  have g' : ∀ i k, i < 33 → hm' i k = hm i k := fun i k q => g i k (by omega) (by omega)
  have f' : ∀ i k, i < 216 → hc' i k = hc i k := fun i k q => f i k (by omega) (by omega)
  refine ⟨?_, ?_, a4.congr (fun d k hr => ?_) (fun k hk => ?_), fun i hi => ?_, fun k hk => ?_, fun j hj => ?_, ?_⟩
  · unfold tapeR
    rw [f' _ _ (by omega), g' _ _ (by omega)]
    obtain ⟨h1, h2, h3, h4⟩ := a1
    exact ⟨h1, h2, h3, fun i hi => by rw [f' _ _ (by omega), g' _ _ (by omega)]; exact h4 i hi⟩
  · rw [f' _ _ (by omega), f' _ _ (by omega), g' _ _ (by omega), g' _ _ (by omega)]; exact a2
  · have := rel_lt hr
    exact f' _ _ (by omega)
  · exact g' _ _ (by omega)
  · obtain ⟨h1, h2, h3⟩ := a5 i hi
    unfold imgR
    rw [f' _ _ (by omega), g' _ _ (by omega)]
    refine ⟨h1, h2, fun q => (h3 q).congr (fun d k hr => ?_) (fun k hk => ?_)⟩
    · have := rel_lt hr
      exact f' _ _ (by omega)
    · exact g' _ _ (by omega)
  · by_cases e : k = a
    · subst e; exact r
    · have b := a6 k hk
      unfold rowR at b ⊢
      rw [f _ _ (by omega) (by omega), f _ _ (by omega) (by omega), f _ _ (by omega) (by omega), g _ _ (by omega) (by omega), g _ _ (by omega) (by omega)]
      rcases b with b | ⟨b1, b2, b3, b4, b5, b6, b7, b8⟩
      · exact Or.inl b
      · refine Or.inr ⟨b1, b2, b3, b4, b5, b6, b7, fun i hi => ?_⟩
        rw [f _ _ (by omega) (by omega), g _ _ (by omega) (by omega)]
        exact b8 i hi
  · rw [f' _ _ (by omega), g' _ _ (by omega)]; exact a7 j hj
  · rw [g' _ _ (by omega)]; exact a8
theorem row_loop {N : Nat} {a : Nat} {n : Nat} (ha : a < 4) (hn : n ≤ 60) {a2 : Int} {h0 : pv_H} : ∀ (f i : Nat) (h : pv_H), i ≤ n → n < i + f → (∀ x y, ¬ (x = 35 ∧ 60 * a ≤ y ∧ y < 60 * a + 60) → h x y = h0 x y) → (∀ j, j < i → h 35 (60 * a + j) = 0) → wpz (fX10_row_72 N (a : Int) a2 (n : Int) f (i : Int) h) fun r => r.2 = 0 ∧ (∀ x y, ¬ (x = 35 ∧ 60 * a ≤ y ∧ y < 60 * a + 60) → r.1 x y = h0 x y) ∧ (∀ j, j < n → r.1 35 (60 * a + j) = 0) := by
  intro f
  induction f with
  | zero => intro i h h1 h2; omega
  | succ f ih =>
    intro i h h1 h2 h3 h4
    rw [fX10_row_72]
    by_cases q : n ≤ i
    · rw [if_pos (by omega)]
      have : i = n := by omega
      subst this
      exact wp_some.mpr ⟨rfl, h3, h4⟩
    · rw [if_neg (by omega)]
      simp (disch := omega) only [pv_w_id, if_pos, bbs]
      have x : Int.toNat (60 * (a : Int) + (i : Int)) = 60 * a + i := by omega
      rw [x]
      refine ih (i + 1) _ (by omega) (by omega) (fun x y n => ?_) (fun j hj => ?_)
      · rw [pv_up_ne (by omega)]; exact h3 x y n
      · by_cases e : j = i
        · subst e; exact pv_up_self _ _ _ _
        · rw [pv_up_ne (by omega)]; exact h4 j (by omega)
theorem s_row : sm_row SSz := by
  intro hc hm S a1 a2 a3 _ _ _
  refine two_th S fun hm S => ?_
  unfold fX9_row
  by_cases h1 : 0 ≤ a1 ∧ a1 < 4
  · rw [isRow_1 h1]
    by_cases h2 : 0 ≤ a2 ∧ a2 ≤ 3
    · by_cases h3 : 0 ≤ a3 ∧ a3 ≤ 60
      · unfold fX6_begin
        simp (disch := omega) only [if_pos, if_neg, c1s, bbs, wn_1]
        obtain ⟨a, rfl⟩ := Int.eq_ofNat_of_zero_le h1.1
        obtain ⟨n, rfl⟩ := Int.eq_ofNat_of_zero_le h3.1
        rw [tnc]
        refine wp_some.mpr ?_
        refine wp_mono (row_loop (a := a) (n := n) (h0 := pv_up (pv_up hm 33 a a2) 34 a n) (by omega) (by omega) pv_NN 0 _ (by omega) (by unfold pv_NN; omega) (fun x y n => rfl) (fun j hj => by omega)) ?_
        rintro ⟨h', r⟩ ⟨e1, e2, e3⟩
        refine ⟨e1.symm, ?_⟩
        dsimp only at e2 e3 ⊢
        refine S.row (a := a) (by omega) (fun i k n1 n2 => ?_) (fun i k n1 n2 => ?_) (Or.inr ?_)
        · rw [pv_ur_ne (by omega), pv_up_ne (by omega), pv_up_ne (by omega), pv_up_ne (by omega)]
        · rw [e2 _ _ n2, pv_up_ne (by omega), pv_up_ne (by omega)]
        · have q33 : h' 33 a = a2 := by rw [e2 _ _ (by omega), pv_up_ne (by omega), pv_up_self]
          have q34 : h' 34 a = (n : Int) := by rw [e2 _ _ (by omega), pv_up_self]
          rw [q33, q34]
          refine ⟨?_, h2.1, h2.2, ?_, ?_, by omega, by omega, fun i hi => ?_⟩
          · rw [pv_ur_ne (by omega), pv_up_ne (by omega), pv_up_ne (by omega), pv_up_self]
          · rw [pv_ur_ne (by omega), pv_up_ne (by omega), pv_up_self]
          · rw [pv_ur_ne (by omega), pv_up_self]
          · rw [e3 i (by omega)]
            have : 217 + 2 * a = 216 + 2 * a + 1 := by omega
            rw [this, pv_ur_self]
            exact if_pos (by omega)
      · by_cases h4 : a3 < 0
        · simp (disch := omega) only [if_pos, if_neg, c1s, bbs, wn_1, wn_0]
          exact no3 S
        · simp (disch := omega) only [if_pos, if_neg, c1s, bbs, wn_1, wn_0]
          exact no3 S
    · by_cases h4 : a2 < 0
      · simp (disch := omega) only [if_pos, if_neg, c1s, bbs, wn_1, wn_0]
        exact no2 S
      · simp (disch := omega) only [if_pos, if_neg, c1s, bbs, wn_1, wn_0]
        exact no2 S
  · rw [isRow_0 h1]
    simp (disch := omega) only [if_pos, if_neg, c1s, bbs, wn_1, wn_0]
    exact no2 S
def cutf (s v : Int) : Int := if s = 0 then pv_w8 (pv_w v) else if s = 1 then pv_w16 (pv_w v) else if s = 2 then pv_w v else v
theorem put_C {N this : Nat} {i v : Int} {h : pv_H} (h1 : 0 ≤ i) (h2 : i < 60) : fX6_put N this i v h = some (pv_up h (this + 1) i.toNat (cutf (h this 3) v), cutf (h this 3) v) := by
  unfold fX6_put cutf fX6_put_49
  by_cases q0 : h this 3 = 0
  · simp (disch := omega) only [if_pos, if_neg, bbs]
  · by_cases q1 : h this 3 = 1
    · simp (disch := omega) only [if_pos, if_neg, bbs]
    · by_cases q2 : h this 3 = 2
      · simp (disch := omega) only [if_pos, if_neg, bbs]
      · simp (disch := omega) only [if_pos, if_neg, bbs]
theorem cut_M {N : Nat} {s v : Int} {h : pv_H} : fX10_cut N v s h = some (cutf s v) := by
  unfold fX10_cut cutf fX10_cut_35
  by_cases q0 : s = 0
  · simp only [if_pos q0]
  · by_cases q1 : s = 1
    · simp only [if_pos q1, if_neg q0]
    · by_cases q2 : s = 2
      · simp only [if_pos q2, if_neg q0, if_neg q1]
      · simp only [if_neg q2, if_neg q0, if_neg q1]
theorem s_write : sm_write SSz := by
  intro hc hm S a1 a2 a3 _ _ _
  refine two_th S fun hm S => ?_
  unfold fX9_write
  by_cases h1 : 0 ≤ a1 ∧ a1 < 4
  · rw [isRow_1 h1]
    obtain ⟨a, rfl⟩ := Int.eq_ofNat_of_zero_le h1.1
    have r := S.2.2.2.2.1 a (by omega)
    simp only [tnc]
    rcases id r with ⟨r1, r2⟩ | ⟨r1, r2, r3, r4, r5, r6, r7, r8⟩
    · simp (disch := omega) only [if_pos, if_neg, c1s, bbs, wn_1]
      exact no6 S
    · by_cases h3 : 0 ≤ a2 ∧ a2 < hm 34 a
      · simp (disch := omega) only [if_pos, if_neg, c1s, bbs, wn_1, put_C, cut_M, pv_w_id, c2s]
        have x : Int.toNat (60 * (a : Int) + a2) = 60 * a + a2.toNat := by omega
        have x2 : 216 + 2 * a + 1 = 217 + 2 * a := by omega
        rw [x, x2, r4, pv_up_self]
        refine wend rfl (S.row (a := a) (by omega) (fun i k n1 n2 => ?_) (fun i k n1 n2 => ?_) (Or.inr ?_))
        · rw [pv_up_ne (by omega)]
        · rw [pv_up_ne (by omega)]
        · rw [pv_up_ne (by omega), pv_up_ne (by omega), pv_up_ne (by omega), pv_up_ne (by omega), pv_up_ne (by omega)]
          refine ⟨r1, r2, r3, r4, r5, r6, r7, fun i hi => ?_⟩
          by_cases e : i = a2.toNat
          · subst e
            rw [pv_up_self, pv_up_self]
          · rw [pv_up_ne (by omega), pv_up_ne (by omega)]
            exact r8 i hi
      · by_cases h4 : a2 < 0
        · simp (disch := omega) only [if_pos, if_neg, c1s, bbs, wn_1, wn_0, pv_w_id]
          exact no7 S
        · simp (disch := omega) only [if_pos, if_neg, c1s, bbs, wn_1, wn_0, pv_w_id]
          exact no7 S
  · rw [isRow_0 h1]
    simp (disch := omega) only [if_pos, if_neg, c1s, bbs, wn_1, wn_0]
    exact no2 S
/-- the first place where something isn't so -/
theorem fst_ex (p : Nat → Prop) (n : Nat) : ∃ z, z ≤ n ∧ (∀ k, k < z → p k) ∧ (z = n ∨ ¬ p z) := by
  induction n with
  | zero => exact ⟨0, Nat.le_refl _, fun k h => absurd h (Nat.not_lt_zero k), Or.inl rfl⟩
  | succ n ih =>
    obtain ⟨z, h1, h2, h3⟩ := ih
    rcases h3 with h3 | h3
    · by_cases q : p n
      · refine ⟨n + 1, Nat.le_refl _, fun k hk => ?_, Or.inl rfl⟩
        by_cases e : k = n
        · subst e; exact q
        · exact h2 k (by omega)
      · exact ⟨n, by omega, fun k hk => h2 k (by omega), Or.inr q⟩
    · exact ⟨z, by omega, h2, Or.inr h3⟩
/-- numbers of a ROW up to z, of the class's -/
theorem holds_loop {N this rw' : Nat} {h : pv_H} {z sz : Nat} (e1 : h rw' 1 = sz) (hs : sz ≤ 60) (z1 : z ≤ sz) (z2 : ∀ k, k < z → 0 ≤ h (rw' + 1) k) (z3 : z = sz ∨ ¬ 0 ≤ h (rw' + 1) z) {B : Nat} (eB : h (this + 1) 0 = B) : ∀ (f i : Nat), i ≤ z → z < i + f → (∀ k, k < i → k < B ∧ h (rw' + 1) k = h (this + 2) (60 + k)) → ((z = B ∧ ∀ k, k < z → h (rw' + 1) k = h (this + 2) (60 + k)) → fX7_holdsTicks_4 N this rw' f (i : Int) (i : Int) h = some 1) ∧ (¬ (z = B ∧ ∀ k, k < z → h (rw' + 1) k = h (this + 2) (60 + k)) → fX7_holdsTicks_4 N this rw' f (i : Int) (i : Int) h = some 0) := by
  intro f
  induction f with
  | zero => intro i h1 h2; omega
  | succ f ih =>
    intro i h1 h2 h3
    rw [fX7_holdsTicks_4, e1, eB]
    have fin : i = z → ((z = B ∧ ∀ k, k < z → h (rw' + 1) k = h (this + 2) (60 + k)) → fX7_holdsTicks_60 N this rw' (i : Int) h = some 1) ∧ (¬ (z = B ∧ ∀ k, k < z → h (rw' + 1) k = h (this + 2) (60 + k)) → fX7_holdsTicks_60 N this rw' (i : Int) h = some 0) := by
      intro e
      unfold fX7_holdsTicks_60 fX7_holdsTicks_75
      rw [eB]
      constructor
      · intro q
        rw [if_pos (by omega), if_pos (Or.inr rfl)]
      · intro q
        have : ¬ i = B := fun e2 => q ⟨by omega, fun k hk => (h3 k (by omega)).2⟩
        rw [if_neg (by omega), if_pos (Or.inl rfl)]
    by_cases q : sz ≤ i
    · rw [if_pos (by omega)]
      exact fin (by omega)
    · rw [if_neg (by omega), if_pos (by omega)]
      simp only [tnc, cmp_lt]
      by_cases q2 : h (rw' + 1) i < 0
      · rw [if_pos q2]
        refine fin ?_
        by_cases e : i = z
        · exact e
        · have := z2 i (by omega)
          omega
      · rw [if_neg q2]
        have iz : i < z := by
          by_cases e : i = z
          · subst e; omega
          · omega
        by_cases q3 : B ≤ i
        · rw [if_pos (by omega)]
          exact ⟨fun q => by omega, fun _ => rfl⟩
        · rw [if_neg (by omega), if_pos (by omega)]
          unfold fX7_tickOf
          simp (disch := omega) only [pv_w_id, if_pos, c1s, cmp_eq]
          have x : Int.toNat (60 + (i : Int)) = 60 + i := by omega
          rw [x]
          by_cases q4 : h (rw' + 1) i = h (this + 2) (60 + i)
          · simp (disch := omega) only [if_pos q4, bbs, pws]
            refine ih (i + 1) (by omega) (by omega) (fun k hk => ?_)
            by_cases e : k = i
            · subst e; exact ⟨by omega, q4⟩
            · exact h3 k (by omega)
          · rw [if_neg q4]
            exact ⟨fun q => absurd (q.2 i iz) q4, fun _ => rfl⟩
theorem holds_C {N this rw' : Nat} {h : pv_H} {z sz : Nat} (hN : 100 ≤ N) (e1 : h rw' 1 = sz) (hs : sz ≤ 60) (z1 : z ≤ sz) (z2 : ∀ k, k < z → 0 ≤ h (rw' + 1) k) (z3 : z = sz ∨ ¬ 0 ≤ h (rw' + 1) z) {B : Nat} (eB : h (this + 1) 0 = B) : ((z = B ∧ ∀ k, k < z → h (rw' + 1) k = h (this + 2) (60 + k)) → fX7_holdsTicks N this rw' h = some 1) ∧ (¬ (z = B ∧ ∀ k, k < z → h (rw' + 1) k = h (this + 2) (60 + k)) → fX7_holdsTicks N this rw' h = some 0) :=
  holds_loop e1 hs z1 z2 z3 eB N 0 (by omega) (by omega) (fun k hk => absurd hk (Nat.not_lt_zero k))
theorem film_l1 {N a : Nat} {h : pv_H} {z sz : Nat} (ha : a < 4) (e1 : h 34 a = sz) (hs : sz ≤ 60) (z1 : z ≤ sz) (z2 : ∀ k, k < z → 0 ≤ h 35 (60 * a + k)) (z3 : z = sz ∨ ¬ 0 ≤ h 35 (60 * a + z)) : ∀ (f i : Nat), i ≤ z → z < i + f → fX10_film_57 N (a : Int) f (i : Int) h = fX10_film_89 N (a : Int) (z : Int) h := by
  intro f
  induction f with
  | zero => intro i h1 h2; omega
  | succ f ih =>
    intro i h1 h2
    rw [fX10_film_57]
    simp (disch := omega) only [tnc, if_pos, e1, pv_w_id, cmp_lt]
    have x : Int.toNat (60 * (a : Int) + (i : Int)) = 60 * a + i := by omega
    rw [x]
    by_cases e : i = z
    · subst e
      by_cases q : sz ≤ i
      · rw [if_pos (by omega)]
      · rw [if_neg (by omega), if_pos (by omega)]
    · have := z2 i (by omega)
      simp (disch := omega) only [if_neg, bbs, pws]
      exact ih (i + 1) (by omega) (by omega)
theorem film_l2 {N a : Nat} {h : pv_H} {z : Nat} (ha : a < 4) (hz : z ≤ 60) : ∀ (f i : Nat) (v : Int), i ≤ z → z < i + f → (v = 0 ∨ v = 1) → (v = 1 → ∀ k, k < i → h 35 (60 * a + k) = h 2 (1194 + k)) → ((v = 1 ∧ ∀ k, i ≤ k → k < z → h 35 (60 * a + k) = h 2 (1194 + k)) → fX10_film_110 N (a : Int) f (z : Int) v (i : Int) h = some (h, 1)) ∧ (¬ (v = 1 ∧ ∀ k, i ≤ k → k < z → h 35 (60 * a + k) = h 2 (1194 + k)) → fX10_film_110 N (a : Int) f (z : Int) v (i : Int) h = some (h, 0)) := by
  intro f
  induction f with
  | zero => intro i v h1 h2; omega
  | succ f ih =>
    intro i v h1 h2 h3 h4
    rw [fX10_film_110]
    unfold fX10_film_160 fX10_film_169
    by_cases q : z ≤ i
    · rw [if_pos (by omega)]
      constructor
      · intro q2
        rw [if_neg (by omega)]
      · intro q2
        have : v = 0 := by
          rcases h3 with h3 | h3
          · exact h3
          · exact absurd ⟨h3, fun k a b => by omega⟩ q2
        rw [if_pos this]
    · rw [if_neg (by omega)]
      by_cases q0 : v = 0
      · rw [if_pos q0, if_pos q0]
        exact ⟨fun q2 => by omega, fun _ => rfl⟩
      · rw [if_neg q0]
        simp (disch := omega) only [if_pos, pv_w_id, cmp_eq]
        have x : Int.toNat (60 * (a : Int) + (i : Int)) = 60 * a + i := by omega
        have x2 : Int.toNat (1194 + (i : Int)) = 1194 + i := by omega
        rw [x, x2]
        unfold fX10_film_153
        have v1 : v = 1 := by omega
        by_cases q4 : h 35 (60 * a + i) = h 2 (1194 + i)
        · rw [if_pos q4, pws (by omega), bbs]
          obtain ⟨g1, g2⟩ := ih (i + 1) 1 (by omega) (by omega) (Or.inr rfl) (fun _ k hk => by
            by_cases e : k = i
            · subst e; exact q4
            · exact h4 v1 k (by omega))
          constructor
          · intro q2
            exact g1 ⟨rfl, fun k a b => q2.2 k (by omega) b⟩
          · intro q2
            exact g2 fun z2 => q2 ⟨v1, fun k a b => by
              by_cases e : k = i
              · subst e; exact q4
              · exact z2.2 k (by omega) b⟩
        · rw [if_neg q4, pws (by omega), bbs]
          obtain ⟨g1, g2⟩ := ih (i + 1) 0 (by omega) (by omega) (Or.inl rfl) (fun e => by omega)
          constructor
          · intro q2
            exact absurd (q2.2 i (by omega) (by omega)) q4
          · intro q2
            exact g2 fun z2 => by omega
theorem s_film : sm_film SSz := by
  intro hc hm S a1 _
  refine two_th S fun hm S => ?_
  unfold fX9_film
  obtain ⟨k1, k2⟩ := S.kept
  by_cases h1 : 0 ≤ a1 ∧ a1 < 4
  · rw [isRow_1 h1]
    obtain ⟨a, rfl⟩ := Int.eq_ofNat_of_zero_le h1.1
    have r := S.2.2.2.2.1 a (by omega)
    simp only [tnc]
    by_cases hk : hm 2 1125 = 1
    · obtain ⟨b1, b2, b3, b4, b5, b6, b7, b8, b9, b10, b11, _⟩ := S.keptv hk
      rcases id r with ⟨r1, r2⟩ | ⟨r1, r2, r3, r4, r5, r6, r7, r8⟩
      · simp (disch := omega) only [if_pos, if_neg, c1s, bbs, wn_1, isKept_1]
        exact no6 S
      · obtain ⟨sz, es⟩ := Int.eq_ofNat_of_zero_le r6
        obtain ⟨B, eB⟩ := Int.eq_ofNat_of_zero_le b2
        obtain ⟨z, z1, z2, z3⟩ := fst_ex (fun k => 0 ≤ hm 35 (60 * a + k)) sz
        have b0 : hc 31 0 = hm 2 1126 := b1 0 (by omega)
        have y : ∀ k, k < sz → hc (216 + 2 * a + 1) k = hm 35 (60 * a + k) := fun k hk => by
          have := r8 k (by omega)
          have x2 : 217 + 2 * a = 216 + 2 * a + 1 := by omega
          rw [x2] at this
          exact this
        have hh := holds_C (N := pv_NN) (this := 30) (rw' := 216 + 2 * a) (h := hc) (z := z) (sz := sz) (B := B) (by decide) (by omega) (by omega) z1 (fun k hk => by rw [y k (by omega)]; exact z2 k hk) (by
          rcases z3 with z3 | z3
          · exact Or.inl z3
          · by_cases e : z = sz
            · exact Or.inl e
            · exact Or.inr (by rw [y z (by omega)]; exact z3)) (show hc 31 0 = (B : Int) by omega)
        have yy : ∀ k, k < z → k < B → (hc (216 + 2 * a + 1) k = hc (30 + 2) (60 + k) ↔ hm 35 (60 * a + k) = hm 2 (1194 + k)) := fun k hk hB => by
          rw [y k (by omega)]
          have := b8 1 k (by omega) (by omega)
          have e1 : 60 * 1 + k = 60 + k := by omega
          have e2 : 1134 + 60 * 1 + k = 1194 + k := by omega
          rw [e1, e2] at this
          rw [this]
        have m1 : fX10_film_57 pv_NN (a : Int) pv_NN 0 hm = fX10_film_89 pv_NN (a : Int) (z : Int) hm := film_l1 (by omega) es (by omega) z1 z2 z3 pv_NN 0 (by omega) (by unfold pv_NN; omega)
        simp (disch := omega) only [if_pos, if_neg, c1s, bbs, wn_1, isKept_1]
        rw [m1]
        unfold fX10_film_89 fX10_film_106
        rw [eB]
        by_cases P : z = B ∧ ∀ k, k < z → hm 35 (60 * a + k) = hm 2 (1194 + k)
        · have c1 := hh.1 ⟨P.1, fun k hk => (yy k hk (by omega)).mpr (P.2 k hk)⟩
          have m2 := (film_l2 (N := pv_NN) (a := a) (h := hm) (z := z) (by omega) (by omega) pv_NN 0 1 (by omega) (by unfold pv_NN; omega) (Or.inr rfl) (fun _ k hk => absurd hk (Nat.not_lt_zero k))).1 ⟨rfl, fun k _ hk => P.2 k hk⟩
          rw [c1, c1s, if_neg (by omega), if_pos (by omega)]
          have m2 : fX10_film_110 pv_NN (a : Int) pv_NN (z : Int) 1 0 hm = some (hm, 1) := m2
          rw [m2]
          exact wend rfl S
        · have c1 := hh.2 fun q => P ⟨q.1, fun k hk => (yy k hk (by omega)).mp (q.2 k hk)⟩
          rw [c1, c1s, if_pos rfl]
          by_cases e : z = B
          · have m2 := (film_l2 (N := pv_NN) (a := a) (h := hm) (z := z) (by omega) (by omega) pv_NN 0 1 (by omega) (by unfold pv_NN; omega) (Or.inr rfl) (fun _ k hk => absurd hk (Nat.not_lt_zero k))).2 fun q => P ⟨e, fun k hk => q.2 k (by omega) hk⟩
            have m2 : fX10_film_110 pv_NN (a : Int) pv_NN (z : Int) 1 0 hm = some (hm, 0) := m2
            rw [if_pos (by omega), m2]
            exact wend rfl S
          · have m2 := (film_l2 (N := pv_NN) (a := a) (h := hm) (z := z) (by omega) (by omega) pv_NN 0 0 (by omega) (by unfold pv_NN; omega) (Or.inl rfl) (fun e => by omega)).2 fun q => by omega
            have m2 : fX10_film_110 pv_NN (a : Int) pv_NN (z : Int) 0 0 hm = some (hm, 0) := m2
            rw [if_neg (by omega), m2]
            exact wend rfl S
    · simp (disch := omega) only [if_pos, if_neg, c1s, bbs, wn_1, isKept_0]
      exact no5 S
  · rw [isRow_0 h1]
    simp (disch := omega) only [if_pos, if_neg, c1s, bbs, wn_1, wn_0]
    exact no2 S
