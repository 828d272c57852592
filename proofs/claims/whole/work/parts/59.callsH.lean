/-! calls that run and look at a row: read, was -/
section HASP
variable {N this rw' a : Nat} {h : pv_H} {z sz B : Nat}
theorem pcs_C (e1 : h rw' 1 = (sz : Int)) (hs : sz ≤ 60) (z1 : z ≤ sz) (z2 : ∀ k, k < z → h (rw' + 1) k ≠ 0) (z3 : z = sz ∨ h (rw' + 1) z = 0) (eB : h (this + 1) 1 = (B : Int)) : ∀ (f i : Nat), i ≤ z → z < i + f → (∀ k, k < i → h (rw' + 1) k = h (this + 4) k) → ((z = B ∧ ∀ k, k < z → h (rw' + 1) k = h (this + 4) k) → fX7_hasPieces_4 N this rw' f (i : Int) (i : Int) h = some 1) ∧ (¬ (z = B ∧ ∀ k, k < z → h (rw' + 1) k = h (this + 4) k) → fX7_hasPieces_4 N this rw' f (i : Int) (i : Int) h = some 0) := by
  intro f
  induction f with
  | zero => intro i h1 h2; omega
  | succ f ih =>
    intro i h1 h2 h3
    rw [fX7_hasPieces_4, e1]
    have at61 : i = z → fX7_hasPieces_61 N this rw' (i : Int) h = some (if z = B then 1 else 0) := by
      intro e
      unfold fX7_hasPieces_61 fX7_hasPieces_76
      rw [eB]
      by_cases q : z = B
      · rw [if_pos (by omega), if_pos (Or.inr rfl), if_pos q]
      · rw [if_neg (by omega), if_pos (Or.inl rfl), if_neg q]
    have fin : i = z → ((z = B ∧ ∀ k, k < z → h (rw' + 1) k = h (this + 4) k) → fX7_hasPieces_61 N this rw' (i : Int) h = some 1) ∧ (¬ (z = B ∧ ∀ k, k < z → h (rw' + 1) k = h (this + 4) k) → fX7_hasPieces_61 N this rw' (i : Int) h = some 0) := by
      intro e
      rw [at61 e]
      constructor
      · intro q; rw [if_pos q.1]
      · intro q
        rw [if_neg (fun y => q ⟨y, fun k hk => h3 k (by omega)⟩)]
    by_cases q : sz ≤ i
    · rw [if_pos (by omega)]
      exact fin (by omega)
    · rw [if_neg (by omega), if_pos (by omega), tnc]
      by_cases q2 : h (rw' + 1) i = 0
      · rw [if_pos (cmp_eq.mpr q2)]
        refine fin ?_
        by_cases y : i = z
        · exact y
        · exact absurd q2 (z2 i (by omega))
      · rw [if_neg (fun y => q2 (cmp_eq.mp y)), eB]
        have iz : i < z := by
          rcases z3 with y | y
          · omega
          · by_cases w : i = z
            · subst w; exact absurd y q2
            · omega
        unfold fX7_hasPieces_50
        by_cases q3 : B ≤ i
        · rw [if_pos (by omega)]
          exact ⟨fun y => by omega, fun _ => rfl⟩
        · rw [if_neg (by omega), if_pos (by omega), if_pos (by omega)]
          by_cases q4 : h (rw' + 1) i = h (this + 4) i
          · rw [if_pos (cmp_eq.mpr q4), bbs, bbs, pws (by omega)]
            exact ih (i + 1) (by omega) (by omega) (fun k hk => by
              by_cases w : k = i
              · subst w; exact q4
              · exact h3 k (by omega))
          · rw [if_neg (fun y => q4 (cmp_eq.mp y))]
            exact ⟨fun y => absurd (y.2 i iz) q4, fun _ => rfl⟩
theorem isrd_2 (ha : a < 4) (hz : z ≤ 60) : ∀ (f i : Nat), i ≤ z → z < i + f → (∀ k, k < i → h 35 (60 * a + k) = h 24 k) → ((∀ k, k < z → h 35 (60 * a + k) = h 24 k) → fX10_isRead_46 N (a : Int) f (z : Int) (i : Int) h = some 1) ∧ (¬ (∀ k, k < z → h 35 (60 * a + k) = h 24 k) → fX10_isRead_46 N (a : Int) f (z : Int) (i : Int) h = some 0) := by
  intro f
  induction f with
  | zero => intro i h1 h2; omega
  | succ f ih =>
    intro i h1 h2 h3
    rw [fX10_isRead_46]
    by_cases q : z ≤ i
    · rw [if_pos (by omega)]
      exact ⟨fun _ => rfl, fun y => absurd (fun k hk => h3 k (by omega)) y⟩
    · have x : Int.toNat (60 * (a : Int) + (i : Int)) = 60 * a + i := by omega
      rw [if_neg (by omega), pv_w_id (x := 60 * (a : Int)) (by omega) (by omega), pv_w_id (x := 60 * (a : Int) + i) (by omega) (by omega), if_pos (by omega), if_pos (by omega), x, tnc]
      by_cases q4 : h 35 (60 * a + i) = h 24 i
      · rw [if_pos (cmp_eq.mpr q4), bbs, pws (by omega)]
        exact ih (i + 1) (by omega) (by omega) (fun k hk => by
          by_cases w : k = i
          · subst w; exact q4
          · exact h3 k (by omega))
      · rw [if_neg (fun y => q4 (cmp_eq.mp y))]
        exact ⟨fun y => absurd (y i (by omega)) q4, fun _ => rfl⟩
theorem isrd_M (hN : 100 ≤ N) (ha : a < 4) (e1 : h 34 a = (sz : Int)) (hs : sz ≤ 60) (z1 : z ≤ sz) (z2 : ∀ k, k < z → h 35 (60 * a + k) ≠ 0) (z3 : z = sz ∨ h 35 (60 * a + z) = 0) (eB : h 0 42 = (B : Int)) : ∀ (f i : Nat), i ≤ z → z < i + f → ((z = B ∧ ∀ k, k < z → h 35 (60 * a + k) = h 24 k) → fX10_isRead_2 N (a : Int) f (i : Int) h = some 1) ∧ (¬ (z = B ∧ ∀ k, k < z → h 35 (60 * a + k) = h 24 k) → fX10_isRead_2 N (a : Int) f (i : Int) h = some 0) := by
  intro f
  induction f with
  | zero => intro i h1 h2; omega
  | succ f ih =>
    intro i h1 h2
    have fin : i = z → ((z = B ∧ ∀ k, k < z → h 35 (60 * a + k) = h 24 k) → fX10_isRead_34 N (a : Int) (i : Int) h = some 1) ∧ (¬ (z = B ∧ ∀ k, k < z → h 35 (60 * a + k) = h 24 k) → fX10_isRead_34 N (a : Int) (i : Int) h = some 0) := by
      intro e
      subst e
      unfold fX10_isRead_34
      rw [eB]
      by_cases q : i = B
      · have r := isrd_2 (N := N) (a := a) (h := h) (z := i) ha (by omega) N 0 (by omega) (by omega) (fun k hk => by omega)
        rw [if_pos (by omega)]
        exact ⟨fun y => r.1 y.2, fun y => r.2 (fun w => y ⟨q, w⟩)⟩
      · rw [if_neg (by omega)]
        exact ⟨fun y => absurd y.1 q, fun _ => rfl⟩
    rw [fX10_isRead_2, if_pos (by omega), tnc, e1]
    by_cases q : sz ≤ i
    · rw [if_pos (by omega)]
      exact fin (by omega)
    · have x : Int.toNat (60 * (a : Int) + (i : Int)) = 60 * a + i := by omega
      rw [if_neg (by omega), pv_w_id (x := 60 * (a : Int)) (by omega) (by omega), pv_w_id (x := 60 * (a : Int) + i) (by omega) (by omega), if_pos (by omega), x]
      by_cases q2 : h 35 (60 * a + i) = 0
      · rw [if_pos (cmp_eq.mpr q2)]
        refine fin ?_
        by_cases y : i = z
        · exact y
        · exact absurd q2 (z2 i (by omega))
      · have iz : i < z := by
          rcases z3 with y | y
          · omega
          · by_cases w : i = z
            · subst w; exact absurd y q2
            · omega
        rw [if_neg (fun y => q2 (cmp_eq.mp y)), bbs, pws (by omega)]
        exact ih (i + 1) (by omega) (by omega)
end HASP
/-- whether a row is the PIECES of a run, both -/
theorem row_R {hc hm : pv_H} {n np a : Nat} (S : SSz hc hm) (R : RESz n np hc hm) (h60 : n ≤ 60) (ha : a < 4) (hrow : ¬ hm 33 a = -1) : ∃ t : Int, (t = 0 ∨ t = 1) ∧ fX7_hasPieces pv_NN 79 (216 + 2 * a) hc = some t ∧ fX10_isRead pv_NN (a : Int) hm = some t := by
  obtain ⟨_, _, _, _, _, _, p1, q1, q2, P, _⟩ := R
  rcases S.2.2.2.2.1 a ha with ⟨r1, r2⟩ | ⟨r1, r2, r3, r4, r5, r6, r7, r8⟩
  · exact absurd r2 hrow
  · obtain ⟨sz, es⟩ := Int.eq_ofNat_of_zero_le r6
    obtain ⟨z, z1, z2, z3⟩ := fst_ex (fun k => hm 35 (60 * a + k) ≠ 0) sz
    have z3 : z = sz ∨ hm 35 (60 * a + z) = 0 := by
      rcases z3 with y | y
      · exact Or.inl y
      · exact Or.inr (Decidable.not_not.mp y)
    have y : ∀ k, k < sz → hc (216 + 2 * a + 1) k = hm 35 (60 * a + k) := fun k hk => by
      have := r8 k (by omega)
      have x2 : 217 + 2 * a = 216 + 2 * a + 1 := by omega
      rw [x2] at this
      exact this
    have hC := pcs_C (N := pv_NN) (this := 79) (rw' := 216 + 2 * a) (h := hc) (z := z) (sz := sz) (B := np) (by rw [r5]; exact es) (by omega) z1 (fun k hk => by rw [y k (by omega)]; exact z2 k hk) (by
      by_cases e : z = sz
      · exact Or.inl e
      · rw [y z (by omega)]; exact z3) q1 pv_NN 0 (by omega) (by unfold pv_NN; omega) (fun k hk => by omega)
    have hM := isrd_M (N := pv_NN) (a := a) (h := hm) (z := z) (sz := sz) (B := np) (by decide) ha es (by omega) z1 z2 z3 q2 pv_NN 0 (by omega) (by unfold pv_NN; omega)
    have hC : ((z = np ∧ ∀ k, k < z → hc (216 + 2 * a + 1) k = hc (79 + 4) k) → fX7_hasPieces pv_NN 79 (216 + 2 * a) hc = some 1) ∧ (¬ (z = np ∧ ∀ k, k < z → hc (216 + 2 * a + 1) k = hc (79 + 4) k) → fX7_hasPieces pv_NN 79 (216 + 2 * a) hc = some 0) := hC
    have hM : ((z = np ∧ ∀ k, k < z → hm 35 (60 * a + k) = hm 24 k) → fX10_isRead pv_NN (a : Int) hm = some 1) ∧ (¬ (z = np ∧ ∀ k, k < z → hm 35 (60 * a + k) = hm 24 k) → fX10_isRead pv_NN (a : Int) hm = some 0) := hM
    have iff' : (z = np ∧ ∀ k, k < z → hc (216 + 2 * a + 1) k = hc (79 + 4) k) ↔ (z = np ∧ ∀ k, k < z → hm 35 (60 * a + k) = hm 24 k) := by
      constructor
      · rintro ⟨w1, w2⟩
        refine ⟨w1, fun k hk => ?_⟩
        rw [← y k (by omega), w2 k hk]
        exact (P k (by omega)).1
      · rintro ⟨w1, w2⟩
        refine ⟨w1, fun k hk => ?_⟩
        rw [y k (by omega), w2 k hk]
        exact ((P k (by omega)).1).symm
    by_cases w : z = np ∧ ∀ k, k < z → hm 35 (60 * a + k) = hm 24 k
    · exact ⟨1, Or.inr rfl, hC.1 (iff'.mpr w), hM.1 w⟩
    · exact ⟨0, Or.inl rfl, hC.2 (fun v => w (iff'.mp v)), hM.2 w⟩
theorem reads_l {a b m q : Nat} {a5 : Int} {n0 : Nat} (hb : b < 4) (hq : q < 4) (hm : m ≤ 100) (h5 : a5 = -1 ∨ 0 ≤ a5 ∧ a5 < (n0 : Int)) : ∀ (f s v : Nat) (hc hm' : pv_H), SSz hc hm' → rodOk hm' (a : Int) → ¬ hm' 33 q = -1 → hm' 2 (242 * a) = (n0 : Int) → m + 1 < s + f → v ≤ s → s ≤ m + 1 → ∃ (hc2 hm2 : pv_H) (r : Nat), fX9_runsLike_6 pv_NN (a : Int) (b : Int) (q : Int) (m : Int) a5 f (v : Int) (s : Int) hc = some (hc2, (r : Int)) ∧ fX10_readsOf_6 pv_NN (a : Int) (q : Int) (b : Int) (m : Int) a5 f (v : Int) (s : Int) hm' = some (hm2, (r : Int)) ∧ r ≤ m + 1 ∧ SSz hc2 hm2 ∧ rodOk hm2 (a : Int) ∧ ¬ hm2 33 q = -1 ∧ hm2 2 (242 * a) = (n0 : Int) := by
  intro f
  induction f with
  | zero => intro s v hc hm' S hr hrow hn0 h1 h2 h3; omega
  | succ f ih =>
    intro s v hc hm' S hr hrow hn0 h1 h2 h3
    have ha := hr.2.1
    have hA : 0 ≤ (a : Int) ∧ (a : Int) < 4 := ⟨by omega, ha⟩
    have hB : 0 ≤ (b : Int) ∧ (b : Int) < 4 := ⟨by omega, by omega⟩
    rw [fX9_runsLike_6, fX10_readsOf_6]
    by_cases z : m < s
    · rw [if_pos (show (m : Int) < (s : Int) by omega), if_pos (show (m : Int) < (s : Int) by omega)]
      exact ⟨hc, hm', v, rfl, rfl, by omega, S, hr, hrow, hn0⟩
    · obtain ⟨hc', hm2, np, n, e1, e2, S', hr', R, n3, n60, en, en', F, G⟩ := brk_R S (b := b) (seed := (s : Int)) hr hb
      have nn : n = n0 := by omega
      subst nn
      have hrow' : ¬ hm2 33 q = -1 := by rw [G _ _ (by unfold PMz; omega)]; exact hrow
      obtain ⟨t, t01, tC, tM⟩ := row_R S' R n60 hq hrow'
      rw [if_neg (show ¬ (m : Int) < (s : Int) by omega), if_neg (show ¬ (m : Int) < (s : Int) by omega), if_pos hA, tnc, bbs, if_pos hB, tnc, bbs, e1, c2s, e2, c2s, tM, c1s]
      have y1 := ih (s + 1) (v + 1) hc' hm2 S' hr' hrow' en' (by omega) (by omega) (by omega)
      have y0 := ih (s + 1) v hc' hm2 S' hr' hrow' en' (by omega) (by omega) (by omega)
      have k1 : fX9_runsLike_74 pv_NN (fun v6_ v7_ hh => fX9_runsLike_6 pv_NN (a : Int) (b : Int) (q : Int) (m : Int) a5 f v6_ v7_ hh) (a : Int) (b : Int) (q : Int) (m : Int) a5 (v : Int) (s : Int) 1 hc' = if t = 0 then fX9_runsLike_6 pv_NN (a : Int) (b : Int) (q : Int) (m : Int) a5 f (v : Int) ((s + 1 : Nat) : Int) hc' else fX9_runsLike_6 pv_NN (a : Int) (b : Int) (q : Int) (m : Int) a5 f ((v + 1 : Nat) : Int) ((s + 1 : Nat) : Int) hc' := by
        unfold fX9_runsLike_74 fX9_runsLike_103
        rw [if_neg n10, if_pos (show 0 ≤ (q : Int) ∧ (q : Int) < 4 by omega), tnc, bbs, tC, c1s]
        by_cases w : t = 0
        · rw [if_pos w, if_pos w, bbs, pws (by omega)]
        · rw [if_neg w, if_neg w, bbs, bbs, pws (by omega), pws (by omega)]
      have k0 : fX9_runsLike_74 pv_NN (fun v6_ v7_ hh => fX9_runsLike_6 pv_NN (a : Int) (b : Int) (q : Int) (m : Int) a5 f v6_ v7_ hh) (a : Int) (b : Int) (q : Int) (m : Int) a5 (v : Int) (s : Int) 0 hc' = fX9_runsLike_6 pv_NN (a : Int) (b : Int) (q : Int) (m : Int) a5 f (v : Int) ((s + 1 : Nat) : Int) hc' := by
        unfold fX9_runsLike_74 fX9_runsLike_103
        rw [if_pos rfl, bbs, pws (by omega)]
      have r0 : fX10_readsOf_62 pv_NN (fun v6_ v7_ hh => fX10_readsOf_6 pv_NN (a : Int) (q : Int) (b : Int) (m : Int) a5 f v6_ v7_ hh) (a : Int) (q : Int) (b : Int) (m : Int) a5 (s : Int) (v : Int) hm2 = fX10_readsOf_6 pv_NN (a : Int) (q : Int) (b : Int) (m : Int) a5 f (v : Int) ((s + 1 : Nat) : Int) hm2 := by
        unfold fX10_readsOf_62 fX10_readsOf_63
        rw [bbs, bbs, pws (show s < 2000000000 by omega), pv_w_id (x := (v : Int) + 0) (by omega) (by omega), Int.add_zero]
      have r1 : fX10_readsOf_58 pv_NN (fun v6_ v7_ hh => fX10_readsOf_6 pv_NN (a : Int) (q : Int) (b : Int) (m : Int) a5 f v6_ v7_ hh) (a : Int) (q : Int) (b : Int) (m : Int) a5 (s : Int) (v : Int) hm2 = fX10_readsOf_6 pv_NN (a : Int) (q : Int) (b : Int) (m : Int) a5 f ((v + 1 : Nat) : Int) ((s + 1 : Nat) : Int) hm2 := by
        unfold fX10_readsOf_58 fX10_readsOf_63
        rw [bbs, bbs, pws (show s < 2000000000 by omega), pws (show v < 2000000000 by omega)]
      unfold fX9_runsLike_69
      rcases h5 with h5 | ⟨h5, h6⟩
      · rw [if_pos h5, k1]
        by_cases w : t = 0
        · rw [if_pos w, if_pos w, r0]; exact y0
        · rw [if_neg w, if_neg w, if_pos h5, r1]; exact y1
      · obtain ⟨i, rfl⟩ := Int.eq_ofNat_of_zero_le h5
        obtain ⟨zz, q1, _, q2⟩ := brkAt_R R n60 (show i < n by omega)
        rw [if_neg (show ¬ (i : Int) = -1 by omega), q1, c1s, k1, k0]
        by_cases w : t = 0
        · rw [if_pos w, r0, if_pos w]
          by_cases u : zz = 0
          · rw [if_pos u]; exact y0
          · rw [if_neg u]; exact y0
        · rw [if_neg w, if_neg w, if_neg (show ¬ (i : Int) = -1 by omega), r0, r1]
          by_cases u : zz = 0
          · obtain ⟨u1, u2⟩ := q2.mp u
            rw [if_pos u, if_neg (show ¬ hm2 0 38 ≤ 0 by omega), if_pos u2]; exact y1
          · rw [if_neg u]
            by_cases u1 : hm2 0 38 ≤ 0
            · rw [if_pos u1]; exact y0
            · rw [if_neg u1, if_neg (fun u2 => u (q2.mpr ⟨by omega, u2⟩))]; exact y0
theorem read_out {a m q n0 : Nat} {a4 : Int} (hq : q < 4) (hm : m ≤ 100) : ∀ (f k v5 v6 : Nat) (v7 : Int) (hc hm' : pv_H), SSz hc hm' → rodOk hm' (a : Int) → ¬ hm' 33 q = -1 → hm' 2 (242 * a) = (n0 : Int) → 4 < k + f → k ≤ 4 → v5 ≤ 200 * k → -1 ≤ v7 → v7 ≤ 3 → wpz (fX9_read_78 pv_NN (a : Int) (q : Int) (m : Int) a4 f (v5 : Int) (v6 : Int) v7 (k : Int) hc) fun c => wpz (fX10_read_91 pv_NN (a : Int) (q : Int) (m : Int) a4 f (v5 : Int) v7 (v6 : Int) (k : Int) hm') fun m => c.2 = m.2 ∧ SSz c.1 m.1 := by
  intro f
  induction f with
  | zero => intro k v5 v6 v7 hc hm' S hr hrow hn0 h1 h2; omega
  | succ f ih =>
    intro k v5 v6 v7 hc hm' S hr hrow hn0 h1 h2 h3 h4 h5
    rw [fX9_read_78, fX10_read_91]
    by_cases z : k = 4
    · subst z
      rw [if_pos (show (4 : Int) ≤ ((4 : Nat) : Int) by omega), if_pos (show (4 : Int) ≤ ((4 : Nat) : Int) by omega)]
      unfold fX9_read_136 fX10_read_166
      by_cases z0 : a4 = 0
      · rw [if_pos z0, if_pos z0]; exact wend rfl S
      · rw [if_neg z0, if_neg z0]; exact wend rfl S
    · obtain ⟨hc2, hm2, r, e1, e2, rb, S', hr', hrow', hn'⟩ := reads_l (a := a) (b := k) (m := m) (q := q) (a5 := -1) (n0 := n0) (by omega) hq hm (Or.inl rfl) pv_NN 1 0 hc hm' S hr hrow hn0 (by unfold pv_NN; omega) (by omega) (by omega)
      have e1 : fX9_runsLike pv_NN (a : Int) (k : Int) (q : Int) (m : Int) (-1) hc = some (hc2, (r : Int)) := e1
      have e2 : fX10_readsOf pv_NN (a : Int) (q : Int) (k : Int) (m : Int) (-1) hm' = some (hm2, (r : Int)) := e2
      have es : pv_w ((v5 : Int) + (r : Int)) = ((v5 + r : Nat) : Int) := by rw [pv_w_id (by omega) (by omega)]; omega
      rw [if_neg (show ¬ (4 : Int) ≤ (k : Int) by omega), if_neg (show ¬ (4 : Int) ≤ (k : Int) by omega), e1, c2s, e2, c2s, bbs, bbs, es]
      unfold fX9_read_118 fX10_read_130 fX10_read_146
      by_cases y : (r : Int) ≤ (v6 : Int)
      · rw [if_pos y, if_pos y, if_pos y, bbs, bbs, pws (by omega)]
        exact ih (k + 1) (v5 + r) v6 v7 hc2 hm2 S' hr' hrow' hn' (by omega) (by omega) (by omega) h4 h5
      · rw [if_neg y, if_neg y, if_neg y, bbs, bbs, pws (by omega)]
        exact ih (k + 1) (v5 + r) r (k : Int) hc2 hm2 S' hr' hrow' hn' (by omega) (by omega) (by omega) (by omega) (by omega)
theorem row_0 {hc hm : pv_H} (S : SSz hc hm) {q : Nat} (hq : q < 4) : hc (216 + 2 * q) 0 = 0 ↔ hm 33 q = -1 := by
  rcases S.2.2.2.2.1 q hq with ⟨r1, r2⟩ | ⟨r1, r2, _⟩
  · exact ⟨fun _ => r2, fun _ => r1⟩
  · exact ⟨fun y => by omega, fun y => by omega⟩
theorem s_read : sm_read SSz := by
  intro hc hm S a1 a2 a3 a4 _ _ _ _
  refine two_th S fun hm S => ?_
  unfold fX9_read fX9_read_26 fX10_read_36
  by_cases hr : rodOk hm a1
  · obtain ⟨a, rfl⟩ := Int.eq_ofNat_of_zero_le hr.1
    rw [hasRod_1 S hr, c1s, if_neg n10, isRod_1 hr, c1s, if_neg n10]
    by_cases hd : 0 ≤ a2 ∧ a2 < 4
    · obtain ⟨q, rfl⟩ := Int.eq_ofNat_of_zero_le hd.1
      rw [isRow_1 hd, c1s, if_neg n10, wn_1 (show 0 ≤ (q : Int) ∧ (q : Int) ≤ 3 by omega), c1s, if_neg n10]
      by_cases h4 : 0 ≤ a4 ∧ a4 ≤ 1
      · rw [wn_1 h4, c1s, if_neg n10, if_neg (show ¬ a4 < 0 by omega), if_pos (show a4 ≤ 1 by omega)]
        by_cases hp : 1 ≤ a3 ∧ a3 ≤ 100
        · obtain ⟨m, rfl⟩ := Int.eq_ofNat_of_zero_le (show 0 ≤ a3 by omega)
          have r0 := row_0 S (q := q) (by omega)
          obtain ⟨n0, hn0⟩ := Int.eq_ofNat_of_zero_le (show 0 ≤ hm 2 (242 * a) by have := hr.2.2; rw [tnc] at this; omega)
          rw [seeds_1 hp, c1s, if_neg n10, wn_1 hp, c1s, if_neg n10, if_pos hd, tnc, bbs, if_pos hd]
          by_cases y : hm 33 q = -1
          · rw [if_pos (r0.mpr y), if_pos y]; exact no6 S
          · rw [if_neg (fun w => y (r0.mp w)), if_neg y, bbs, bbs]
            exact read_out (by omega) (by omega) pv_NN 0 0 0 (-1) hc hm S hr y hn0 (by unfold pv_NN; omega) (by omega) (by omega) (by omega) (by omega)
        · rw [seeds_0 hp, c1s, if_pos rfl, wn_0 hp, c1s, if_pos rfl]
          exact no3 S
      · rw [wn_0 h4, c1s, if_pos rfl]
        by_cases z : a4 < 0
        · rw [if_pos z]; exact no2 S
        · rw [if_neg z, if_neg (show ¬ a4 ≤ 1 by omega)]; exact no2 S
    · rw [isRow_0 hd, c1s, if_pos rfl, wn_0 (show ¬ (0 ≤ a2 ∧ a2 ≤ 3) by omega), c1s, if_pos rfl]
      exact no2 S
  · rw [hasRod_0 S hr, c1s, if_pos rfl, isRod_0 hr, c1s, if_pos rfl]
    exact no2 S
theorem was_out {a m q n0 i : Nat} (hq : q < 4) (hm : m ≤ 100) (hi : i < n0) : ∀ (f k v5 : Nat) (hc hm' : pv_H), SSz hc hm' → rodOk hm' (a : Int) → ¬ hm' 33 q = -1 → hm' 2 (242 * a) = (n0 : Int) → 4 < k + f → k ≤ 4 → v5 ≤ 200 * k → wpz (fX9_was_63 pv_NN (a : Int) (q : Int) (m : Int) (i : Int) f (v5 : Int) (k : Int) hc) fun c => wpz (fX10_was_84 pv_NN (a : Int) (q : Int) (m : Int) (i : Int) f (v5 : Int) (k : Int) hm') fun m => c.2 = m.2 ∧ SSz c.1 m.1 := by
  intro f
  induction f with
  | zero => intro k v5 hc hm' S hr hrow hn0 h1 h2; omega
  | succ f ih =>
    intro k v5 hc hm' S hr hrow hn0 h1 h2 h3
    rw [fX9_was_63, fX10_was_84]
    by_cases z : k = 4
    · subst z
      rw [if_pos (show (4 : Int) ≤ ((4 : Nat) : Int) by omega), if_pos (show (4 : Int) ≤ ((4 : Nat) : Int) by omega)]
      exact wend rfl S
    · obtain ⟨hc2, hm2, r, e1, e2, rb, S', hr', hrow', hn'⟩ := reads_l (a := a) (b := k) (m := m) (q := q) (a5 := (i : Int)) (n0 := n0) (by omega) hq hm (Or.inr ⟨by omega, by omega⟩) pv_NN 1 0 hc hm' S hr hrow hn0 (by unfold pv_NN; omega) (by omega) (by omega)
      have e1 : fX9_runsLike pv_NN (a : Int) (k : Int) (q : Int) (m : Int) (i : Int) hc = some (hc2, (r : Int)) := e1
      have e2 : fX10_readsOf pv_NN (a : Int) (q : Int) (k : Int) (m : Int) (i : Int) hm' = some (hm2, (r : Int)) := e2
      have es : pv_w ((v5 : Int) + (r : Int)) = ((v5 + r : Nat) : Int) := by rw [pv_w_id (by omega) (by omega)]; omega
      rw [if_neg (show ¬ (4 : Int) ≤ (k : Int) by omega), if_neg (show ¬ (4 : Int) ≤ (k : Int) by omega), e1, c2s, e2, c2s, bbs, bbs, bbs, bbs, es, pws (by omega)]
      exact ih (k + 1) (v5 + r) hc2 hm2 S' hr' hrow' hn' (by omega) (by omega) (by omega)
theorem s_was : sm_was SSz := by
  intro hc hm S a1 a2 a3 a4 _ _ _ _
  refine two_th S fun hm S => ?_
  unfold fX9_was fX9_was_17 fX10_was_35
  by_cases hr : rodOk hm a1
  · obtain ⟨a, rfl⟩ := Int.eq_ofNat_of_zero_le hr.1
    have r60 := S.r60 hr
    rw [isRod_1 hr, c1s, if_neg n10]
    by_cases hd : 0 ≤ a2 ∧ a2 < 4
    · obtain ⟨q, rfl⟩ := Int.eq_ofNat_of_zero_le hd.1
      rw [wn_1 (show 0 ≤ (q : Int) ∧ (q : Int) ≤ 3 by omega), c1s, if_neg n10]
      by_cases hce : cellOk hm (a : Int) a4
      · rw [hasCell_1 S hce, c1s, if_neg n10, isRow_1 hd, c1s, if_neg n10, isCell_1 hce r60.2, c1s, if_neg n10]
        obtain ⟨_, q1, q2⟩ := hce
        obtain ⟨i, rfl⟩ := Int.eq_ofNat_of_zero_le q1
        by_cases hp : 1 ≤ a3 ∧ a3 ≤ 100
        · obtain ⟨m, rfl⟩ := Int.eq_ofNat_of_zero_le (show 0 ≤ a3 by omega)
          have r0 := row_0 S (q := q) (by omega)
          rw [tnc] at q2 r60
          obtain ⟨n0, hn0⟩ := Int.eq_ofNat_of_zero_le (show 0 ≤ hm 2 (242 * a) by omega)
          rw [seeds_1 hp, c1s, if_neg n10, wn_1 hp, c1s, if_neg n10, if_pos hd, tnc, bbs, if_pos hd]
          by_cases y : hm 33 q = -1
          · rw [if_pos (r0.mpr y), if_pos y]; exact no6 S
          · rw [if_neg (fun w => y (r0.mp w)), if_neg y]
            exact was_out (n0 := n0) (by omega) (by omega) (by omega) pv_NN 0 0 hc hm S hr y hn0 (by unfold pv_NN; omega) (by omega) (by omega)
        · rw [seeds_0 hp, c1s, if_pos rfl, wn_0 hp, c1s, if_pos rfl]
          exact no3 S
      · rw [hasCell_0 S hce, c1s, if_pos rfl, isCell_0 hr hce r60.2, c1s, if_pos rfl]
        exact no2 S
    · rw [wn_0 (show ¬ (0 ≤ a2 ∧ a2 ≤ 3) by omega), c1s, if_pos rfl]
      by_cases hce : cellOk hm (a : Int) a4
      · rw [hasCell_1 S hce, c1s, if_neg n10, isRow_0 hd, c1s, if_pos rfl]
        exact no2 S
      · rw [hasCell_0 S hce, c1s, if_pos rfl]
        exact no2 S
  · rw [hasCell_0 S (fun z => hr z.1), c1s, if_pos rfl, isRod_0 hr, c1s, if_pos rfl]
    exact no2 S
