/-! calls on a changed ROD: thinner, beside */ -/
section THIN
variable {n a : Nat} {fl : Int} {st sg no su : Nat → Int}
/-- the class copies a ROD -/
theorem copy_C {hc : pv_H} (ha : a < 4) (n60 : n ≤ 60) (c : crz hc (35 + 6 * a) n fl st sg no su) : ∃ h', fX5_copyFrom pv_NN 99 (35 + 6 * a) hc = some h' ∧ (∀ x y, ¬ (99 ≤ x ∧ x < 105) → h' x y = hc x y) ∧ crz h' 99 n fl st sg no su := by
  obtain ⟨h', e, f, v⟩ := cp5 (N := pv_NN) (tt := 99) (a := 35 + 6 * a) (h := hc) (by omega)
  obtain ⟨c1, c2, c3⟩ := c
  refine ⟨h', e, f, ?_, ?_, fun i hi => ?_⟩
  · have := v 0 0 (by omega)
    rw [Nat.add_zero, Nat.add_zero] at this
    rw [this]; exact c1
  · have := v 0 1 (by omega)
    rw [Nat.add_zero, Nat.add_zero] at this
    rw [this]; exact c2
  · rw [v 1 i (by omega), v 2 i (by omega), v 3 i (by omega), v 4 i (by omega), v 5 i (by omega)]
    exact c3 i hi
def thz (p x : Int) : Int := max 1 (x * p / 100)
theorem thz_b {p x B : Int} (p1 : 1 ≤ p) (p2 : p ≤ 100) (x1 : 1 ≤ x) (x2 : x ≤ B) : 1 ≤ thz p x ∧ thz p x ≤ B ∧ 0 ≤ x * p ∧ x * p ≤ 100 * B := by
  have a1 : 0 ≤ x * p := Int.mul_nonneg (by omega) (by omega)
  have a2 : x * p ≤ x * 100 := Int.mul_le_mul_of_nonneg_left p2 (by omega)
  unfold thz
  omega
theorem thin_C {hc : pv_H} {p a1 a2 a3 : Int} {k : pv_H → Option (pv_H × Int)} (n60 : n ≤ 60) (p1 : 1 ≤ p) (p2 : p ≤ 100) (g : grz n fl st sg no su) (kk : ∀ (f : Nat) (h : pv_H), h 99 0 = (n : Int) → fX9_thinner_61 pv_NN a1 a2 a3 p (f + 1) (n : Int) h = k h) : ∀ (d i f : Nat) (h : pv_H), i + d = n → d < f → (∀ x y, ¬ (99 ≤ x ∧ x < 105) → h x y = hc x y) → crz h 99 n fl (fun j => if j < i then thz p (st j) else st j) (fun j => if j < i then thz p (sg j) else sg j) no su → ∃ h', fX9_thinner_61 pv_NN a1 a2 a3 p f (i : Int) h = k h' ∧ (∀ x y, ¬ (99 ≤ x ∧ x < 105) → h' x y = hc x y) ∧ crz h' 99 n fl (fun j => thz p (st j)) (fun j => thz p (sg j)) no su := by
  intro d
  induction d with
  | zero =>
    intro i f h h1 h2 F c
    obtain ⟨f, rfl⟩ : ∃ g, f = g + 1 := ⟨f - 1, by omega⟩
    have : i = n := by omega
    subst this
    refine ⟨h, kk f h c.1, F, c.1, c.2.1, fun j hj => ?_⟩
    have := c.2.2 j hj
    dsimp only at this ⊢
    rw [if_pos hj, if_pos hj] at this
    exact this
  | succ d ih =>
    intro i f h h1 h2 F c
    obtain ⟨f, rfl⟩ : ∃ g, f = g + 1 := ⟨f - 1, by omega⟩
    obtain ⟨c1, c2, c3⟩ := c
    obtain ⟨v1, v2, _⟩ := c3 i (by omega)
    dsimp only at v1 v2
    rw [if_neg (show ¬ i < i by omega)] at v1 v2
    obtain ⟨g1, g2, g3, g4, _⟩ := g.2.2.2.2 i (by omega)
    have b1 := thz_b p1 p2 g1 g2
    have b2 := thz_b p1 p2 g3 g4
    have u1 : h 100 i = st i := v1
    have u2 : h 101 i = sg i := v2
    have i60 : 0 ≤ (i : Int) ∧ (i : Int) < 60 := by omega
    have w1 : max 1 (pv_w (Int.tdiv (pv_w (st i * p)) 100)) = thz p (st i) := by
      rw [pv_w_id (x := st i * p) (by omega) (by omega), tdn b1.2.2.1, pv_w_id (by omega) (by omega)]; rfl
    have w2 : max 1 (pv_w (Int.tdiv (pv_w (sg i * p)) 100)) = thz p (sg i) := by
      rw [pv_w_id (x := sg i * p) (by omega) (by omega), tdn b2.2.2.1, pv_w_id (by omega) (by omega)]; rfl
    have e : fX9_thinner_61 pv_NN a1 a2 a3 p (f + 1) (i : Int) h = fX9_thinner_61 pv_NN a1 a2 a3 p f ((i + 1 : Nat) : Int) (pv_up (pv_up h 100 i (thz p (st i))) 101 i (thz p (sg i))) := by
      rw [fX9_thinner_61, c1, if_neg (show ¬ (n : Int) ≤ (i : Int) by omega)]
      simp (disch := omega) only [if_pos, tnc, bbs, pu_ne, pws, u1, u2, w1, w2]
    rw [e]
    refine ih (i + 1) f _ (by omega) (by omega) (fun x y np => ?_) ⟨?_, ?_, fun j hj => ?_⟩
    · rw [pv_up_ne (by omega), pv_up_ne (by omega)]; exact F x y np
    · rw [pv_up_ne (by omega), pv_up_ne (by omega)]; exact c1
    · rw [pv_up_ne (by omega), pv_up_ne (by omega)]; exact c2
    · have q := c3 j hj
      dsimp only at q ⊢
      by_cases y : j = i
      · subst y
        have e1 : (pv_up (pv_up h 100 j (thz p (st j))) 101 j (thz p (sg j))) (99 + 1) j = thz p (st j) := by
          rw [pv_up_ne (by omega)]; exact pv_up_self _ _ _ _
        have e2 : (pv_up (pv_up h 100 j (thz p (st j))) 101 j (thz p (sg j))) (99 + 2) j = thz p (sg j) := pv_up_self _ _ _ _
        rw [e1, e2, if_pos (by omega), if_pos (by omega), pv_up_ne (by omega), pv_up_ne (by omega), pv_up_ne (by omega), pv_up_ne (by omega), pv_up_ne (by omega), pv_up_ne (by omega)]
        exact ⟨rfl, rfl, q.2.2.1, q.2.2.2.1, q.2.2.2.2⟩
      · have iff1 : (if j < i + 1 then thz p (st j) else st j) = if j < i then thz p (st j) else st j := by
          by_cases w : j < i
          · rw [if_pos w, if_pos (by omega)]
          · rw [if_neg w, if_neg (by omega)]
        have iff2 : (if j < i + 1 then thz p (sg j) else sg j) = if j < i then thz p (sg j) else sg j := by
          by_cases w : j < i
          · rw [if_pos w, if_pos (by omega)]
          · rw [if_neg w, if_neg (by omega)]
        rw [iff1, iff2]
        simp (disch := omega) only [pu_ne]
        exact q
theorem thin_M {hm1 : pv_H} {p a1 a2 a3 : Int} {k : pv_H → Option (pv_H × Int)} (n60 : n ≤ 60) (p1 : 1 ≤ p) (p2 : p ≤ 100) (g : grz n fl st sg no su) (kk : ∀ (f : Nat) (h : pv_H), h 0 19 = (n : Int) → fX10_thinner_49 pv_NN a1 a2 a3 p (f + 1) (n : Int) h = k h) : ∀ (d i f : Nat) (h : pv_H), i + d = n → d < f → (∀ x y, ¬ (6 ≤ x ∧ x ≤ 7) → h x y = hm1 x y) → mrz h n fl (fun j => if j < i then thz p (st j) else st j) (fun j => if j < i then thz p (sg j) else sg j) no su → ∃ h', fX10_thinner_49 pv_NN a1 a2 a3 p f (i : Int) h = k h' ∧ (∀ x y, ¬ (6 ≤ x ∧ x ≤ 7) → h' x y = hm1 x y) ∧ mrz h' n fl (fun j => thz p (st j)) (fun j => thz p (sg j)) no su := by
  intro d
  induction d with
  | zero =>
    intro i f h h1 h2 F c
    obtain ⟨f, rfl⟩ : ∃ g, f = g + 1 := ⟨f - 1, by omega⟩
    have : i = n := by omega
    subst this
    refine ⟨h, kk f h c.1, F, c.1, c.2.1, fun j hj => ?_⟩
    have := c.2.2 j hj
    dsimp only at this ⊢
    rw [if_pos hj, if_pos hj] at this
    exact this
  | succ d ih =>
    intro i f h h1 h2 F c
    obtain ⟨f, rfl⟩ : ∃ g, f = g + 1 := ⟨f - 1, by omega⟩
    obtain ⟨c1, c2, c3⟩ := c
    obtain ⟨v1, v2, _⟩ := c3 i (by omega)
    dsimp only at v1 v2
    rw [if_neg (show ¬ i < i by omega)] at v1 v2
    obtain ⟨g1, g2, g3, g4, _⟩ := g.2.2.2.2 i (by omega)
    have b1 := thz_b p1 p2 g1 g2
    have b2 := thz_b p1 p2 g3 g4
    have i60 : 0 ≤ (i : Int) ∧ (i : Int) < 60 := by omega
    have w1 : pv_w (Int.tdiv (pv_w (st i * p)) 100) = st i * p / 100 := by
      rw [pv_w_id (x := st i * p) (by omega) (by omega), tdn b1.2.2.1, pv_w_id (by omega) (by omega)]
    have w2 : pv_w (Int.tdiv (pv_w (sg i * p)) 100) = sg i * p / 100 := by
      rw [pv_w_id (x := sg i * p) (by omega) (by omega), tdn b2.2.2.1, pv_w_id (by omega) (by omega)]
    have k139 : ∀ (x : Int) (h2 : pv_H), x = thz p (sg i) → fX10_thinner_139 pv_NN (fun v5_ hh => fX10_thinner_49 pv_NN a1 a2 a3 p f v5_ hh) a1 a2 a3 p (i : Int) x (i : Int) h2 = fX10_thinner_49 pv_NN a1 a2 a3 p f ((i + 1 : Nat) : Int) (pv_up h2 7 i (thz p (sg i))) := by
      intro x h2 hx
      unfold fX10_thinner_139
      rw [if_pos i60, tnc, hx, bbs, bbs, pws (by omega)]
    have k98 : ∀ x : Int, x = thz p (st i) → fX10_thinner_98 pv_NN (fun v5_ hh => fX10_thinner_49 pv_NN a1 a2 a3 p f v5_ hh) a1 a2 a3 p (i : Int) x (i : Int) h = fX10_thinner_49 pv_NN a1 a2 a3 p f ((i + 1 : Nat) : Int) (pv_up (pv_up h 6 i (thz p (st i))) 7 i (thz p (sg i))) := by
      intro x hx
      unfold fX10_thinner_98
      rw [if_pos i60, tnc, hx, bbs, if_pos i60, pv_up_ne (show (7 : Nat) ≠ 6 ∨ _ by omega), v2, w2]
      by_cases z : 1 ≤ sg i * p / 100
      · rw [if_pos z, if_pos i60, k139 _ _ (by unfold thz; omega)]
      · rw [if_neg z, k139 _ _ (by unfold thz; omega)]
    have e : fX10_thinner_49 pv_NN a1 a2 a3 p (f + 1) (i : Int) h = fX10_thinner_49 pv_NN a1 a2 a3 p f ((i + 1 : Nat) : Int) (pv_up (pv_up h 6 i (thz p (st i))) 7 i (thz p (sg i))) := by
      rw [fX10_thinner_49, c1, if_neg (show ¬ (n : Int) ≤ (i : Int) by omega), if_pos i60, tnc, v1, w1]
      by_cases z : 1 ≤ st i * p / 100
      · rw [if_pos z, if_pos i60, k98 _ (by unfold thz; omega)]
      · rw [if_neg z, k98 _ (by unfold thz; omega)]
    rw [e]
    refine ih (i + 1) f _ (by omega) (by omega) (fun x y np => ?_) ⟨?_, ?_, fun j hj => ?_⟩
    · rw [pv_up_ne (by omega), pv_up_ne (by omega)]; exact F x y np
    · rw [pv_up_ne (by omega), pv_up_ne (by omega)]; exact c1
    · rw [pv_up_ne (by omega), pv_up_ne (by omega)]; exact c2
    · have q := c3 j hj
      dsimp only at q ⊢
      by_cases y : j = i
      · subst y
        rw [if_pos (by omega), if_pos (by omega)]
        simp (disch := omega) only [pu_ne, pu_eq]
        exact ⟨trivial, trivial, q.2.2⟩
      · have iff1 : (if j < i + 1 then thz p (st j) else st j) = if j < i then thz p (st j) else st j := by
          by_cases w : j < i
          · rw [if_pos w, if_pos (by omega)]
          · rw [if_neg w, if_neg (by omega)]
        have iff2 : (if j < i + 1 then thz p (sg j) else sg j) = if j < i then thz p (sg j) else sg j := by
          by_cases w : j < i
          · rw [if_pos w, if_pos (by omega)]
          · rw [if_neg w, if_neg (by omega)]
        rw [iff1, iff2]
        simp (disch := omega) only [pu_ne]
        exact q
end THIN
theorem s_thinner : sm_thinner SSz := by
  intro hc hm S a1 a2 a3 a4 _ _ _ _
  refine two_th S fun hm S => ?_
  unfold fX9_thinner fX9_thinner_15 fX9_thinner_35
  by_cases hr : rodOk hm a1
  · obtain ⟨a, rfl⟩ := Int.eq_ofNat_of_zero_le hr.1
    have ha : a < 4 := by have := hr.2.1; omega
    have hA : 0 ≤ (a : Int) ∧ (a : Int) < 4 := by omega
    rw [hasRod_1 S hr, c1s, if_neg n10]
    by_cases hd : 0 ≤ a2 ∧ a2 < 4
    · obtain ⟨b, rfl⟩ := Int.eq_ofNat_of_zero_le hd.1
      rw [hasDo_1 hd, c1s, if_neg n10, isBoth_1 hr hd, c1s, if_neg n10]
      by_cases h4 : 1 ≤ a4 ∧ a4 ≤ 100
      · obtain ⟨n, fl, st, sg, no, su, g, g99, c, v⟩ := S.rod2 hr
        have n3 := g.1
        have n60 := g.2.1
        rw [wn_1 h4, c1s, if_neg n10, if_neg (show ¬ a4 < 1 by omega), if_pos (show a4 ≤ 100 by omega), if_pos hA, tnc, bbs]
        obtain ⟨h1, e1, f1, c1⟩ := copy_C ha n60 c
        obtain ⟨h2, e2, f2, c2⟩ := thin_C (hc := hc) (a1 := (a : Int)) (a2 := (b : Int)) (a3 := a3) (k := fun h => if 0 ≤ (b : Int) ∧ (b : Int) < 4 then (pv_b (59 + 4 * (Int.toNat (b : Int))) fun x17 => pv_c2b (fX1_breakRod pv_NN 99 x17 23 a3 h) fun h19 r20 => some (h19, r20)) else none) n60 h4.1 h4.2 g (fun f h q0 => by rw [fX9_thinner_61, q0, if_pos (Int.le_refl _)]) n 0 pv_NN h1 (by omega) (by unfold pv_NN; omega) f1 c1
        have e2 : fX9_thinner_61 pv_NN (a : Int) (b : Int) a3 a4 pv_NN 0 h1 = _ := e2
        obtain ⟨m1, e3, f3, mr1⟩ := takes_M (N := pv_NN) (by decide) ha n3 n60 v
        obtain ⟨m2, e4, f4, mr⟩ := thin_M (hm1 := m1) (a1 := (a : Int)) (a2 := (b : Int)) (a3 := a3) (k := fun h => pv_c1 (fX10_does pv_NN (b : Int) 1 h) fun h13 => pv_c1 (fX10_draws pv_NN a3 h13) fun h15 => pv_c1 (fX10_runs pv_NN (-1) h15) fun h17 => some (h17, h17 0 42)) n60 h4.1 h4.2 g (fun f h q0 => by rw [fX10_thinner_49, q0, if_pos (Int.le_refl _)]) n 0 pv_NN m1 (by omega) (by unfold pv_NN; omega) (fun _ _ _ => rfl) mr1
        have e4 : fX10_thinner_49 pv_NN (a : Int) (b : Int) a3 a4 pv_NN 0 m1 = _ := e4
        have g' : grz n fl (fun j => thz a4 (st j)) (fun j => thz a4 (sg j)) no su := by
          obtain ⟨g1, g2, g3, g4, g5⟩ := g
          refine ⟨g1, g2, g3, g4, fun i hi => ?_⟩
          obtain ⟨q1, q2, q3, q4, q5⟩ := g5 i hi
          have b1 := thz_b h4.1 h4.2 q1 q2
          have b2 := thz_b h4.1 h4.2 q3 q4
          exact ⟨b1.1, b1.2.1, b2.1, b2.2.1, q5⟩
        obtain ⟨hc', q2, q3, q4, np, w1, w2, w3, w4, w5, w6, w7, _⟩ := chg_2 (seed := a3) (b := b) S (hc := h2) (hm := m2) (fun x y np => f2 x y (by unfold PCz at np; omega)) ((f3.mono fun x y q => PTz_PM q).tr (fun x y np => f4 x y (by unfold PMz at np; omega))) g' c2 mr (by omega)
        rw [e1, c1s, e2, if_pos hd, tnc, bbs, w1, c2s, e3, c1s, e4, w2, c1s, w3, c1s, w4, c1s, w5]
        exact wend rfl (S.frz w6 w7)
      · rw [wn_0 h4, c1s, if_pos rfl]
        by_cases z : a4 < 1
        · rw [if_pos z]; exact no3 S
        · rw [if_neg z, if_neg (show ¬ a4 ≤ 100 by omega)]; exact no3 S
    · rw [hasDo_0 hd, c1s, if_pos rfl, isBoth_0 (fun z => hd z.2), c1s, if_pos rfl]
      exact no2 S
  · rw [hasRod_0 S hr, c1s, if_pos rfl, isBoth_0 (fun z => hr z.1), c1s, if_pos rfl]
    exact no2 S
section STIF
variable {n a b : Nat} {fl : Int} {st sg no su st2 : Nat → Int}
theorem stif_C {hc : pv_H} {a1 a3 a4 : Int} {k : pv_H → Option (pv_H × Int)} (hb : b < 4) (n60 : n ≤ 60) (s99 : ∀ i, i < n → 1 ≤ st i ∧ st i ≤ 99 ∧ 1 ≤ st2 i ∧ st2 i ≤ 99) (x : ∀ i, i < n → hc (35 + 6 * b + 1) i = st2 i) (kk : ∀ (f : Nat) (h : pv_H), h 99 0 = (n : Int) → fX9_piecesStiffened_19 pv_NN a1 (b : Int) a3 a4 (f + 1) (n : Int) h = k h) : ∀ (d i f : Nat) (h : pv_H), i + d = n → d < f → (∀ x y, ¬ (99 ≤ x ∧ x < 105) → h x y = hc x y) → crz h 99 n fl (fun j => if j < i then st j + st2 j else st j) sg no su → ∃ h', fX9_piecesStiffened_19 pv_NN a1 (b : Int) a3 a4 f (i : Int) h = k h' ∧ (∀ x y, ¬ (99 ≤ x ∧ x < 105) → h' x y = hc x y) ∧ crz h' 99 n fl (fun j => st j + st2 j) sg no su := by
  intro d
  induction d with
  | zero =>
    intro i f h h1 h2 F c
    obtain ⟨f, rfl⟩ : ∃ g, f = g + 1 := ⟨f - 1, by omega⟩
    have : i = n := by omega
    subst this
    refine ⟨h, kk f h c.1, F, c.1, c.2.1, fun j hj => ?_⟩
    have := c.2.2 j hj
    dsimp only at this ⊢
    rw [if_pos hj] at this
    exact this
  | succ d ih =>
    intro i f h h1 h2 F c
    obtain ⟨f, rfl⟩ : ∃ g, f = g + 1 := ⟨f - 1, by omega⟩
    obtain ⟨c1, c2, c3⟩ := c
    obtain ⟨v1, _⟩ := c3 i (by omega)
    dsimp only at v1
    rw [if_neg (show ¬ i < i by omega)] at v1
    have sb := s99 i (by omega)
    have u1 : h 100 i = st i := v1
    have u2 : h (35 + 6 * b + 1) i = st2 i := by rw [F _ _ (by omega)]; exact x i (by omega)
    have i60 : 0 ≤ (i : Int) ∧ (i : Int) < 60 := by omega
    have hB : 0 ≤ (b : Int) ∧ (b : Int) < 4 := by omega
    have e : fX9_piecesStiffened_19 pv_NN a1 (b : Int) a3 a4 (f + 1) (i : Int) h = fX9_piecesStiffened_19 pv_NN a1 (b : Int) a3 a4 f ((i + 1 : Nat) : Int) (pv_up h 100 i (st i + st2 i)) := by
      rw [fX9_piecesStiffened_19, c1, if_neg (show ¬ (n : Int) ≤ (i : Int) by omega), if_pos i60, if_pos hB, tnc, bbs, if_pos i60, if_pos i60, tnc, u1, u2, pv_w_id (x := st i + st2 i) (by omega) (by omega), bbs, bbs, pws (by omega)]
    rw [e]
    refine ih (i + 1) f _ (by omega) (by omega) (fun x y np => ?_) ⟨?_, ?_, fun j hj => ?_⟩
    · rw [pv_up_ne (by omega)]; exact F x y np
    · rw [pv_up_ne (by omega)]; exact c1
    · rw [pv_up_ne (by omega)]; exact c2
    · have q := c3 j hj
      dsimp only at q ⊢
      by_cases y : j = i
      · subst y
        have e1 : (pv_up h 100 j (st j + st2 j)) (99 + 1) j = st j + st2 j := pv_up_self _ _ _ _
        rw [e1, if_pos (by omega), pv_up_ne (by omega), pv_up_ne (by omega), pv_up_ne (by omega), pv_up_ne (by omega)]
        exact ⟨rfl, q.2⟩
      · have iff1 : (if j < i + 1 then st j + st2 j else st j) = if j < i then st j + st2 j else st j := by
          by_cases w : j < i
          · rw [if_pos w, if_pos (by omega)]
          · rw [if_neg w, if_neg (by omega)]
        rw [iff1]
        simp (disch := omega) only [pu_ne]
        exact q
theorem stif_M {hm1 : pv_H} {a1 a3 a4 : Int} {k : pv_H → Option (pv_H × Int)} (hb : b < 4) (n60 : n ≤ 60) (s99 : ∀ i, i < n → 1 ≤ st i ∧ st i ≤ 99 ∧ 1 ≤ st2 i ∧ st2 i ≤ 99) (x : ∀ i, i < n → hm1 2 (242 * b + 2 + i) = st2 i) (kk : ∀ (f : Nat) (h : pv_H), h 0 19 = (n : Int) → fX10_besideOf_8 pv_NN a1 (b : Int) a3 a4 (f + 1) (n : Int) h = k h) : ∀ (d i f : Nat) (h : pv_H), i + d = n → d < f → (∀ x y, x ≠ 6 → h x y = hm1 x y) → mrz h n fl (fun j => if j < i then st j + st2 j else st j) sg no su → ∃ h', fX10_besideOf_8 pv_NN a1 (b : Int) a3 a4 f (i : Int) h = k h' ∧ (∀ x y, x ≠ 6 → h' x y = hm1 x y) ∧ mrz h' n fl (fun j => st j + st2 j) sg no su := by
  intro d
  induction d with
  | zero =>
    intro i f h h1 h2 F c
    obtain ⟨f, rfl⟩ : ∃ g, f = g + 1 := ⟨f - 1, by omega⟩
    have : i = n := by omega
    subst this
    refine ⟨h, kk f h c.1, F, c.1, c.2.1, fun j hj => ?_⟩
    have := c.2.2 j hj
    dsimp only at this ⊢
    rw [if_pos hj] at this
    exact this
  | succ d ih =>
    intro i f h h1 h2 F c
    obtain ⟨f, rfl⟩ : ∃ g, f = g + 1 := ⟨f - 1, by omega⟩
    obtain ⟨c1, c2, c3⟩ := c
    obtain ⟨v1, _⟩ := c3 i (by omega)
    dsimp only at v1
    rw [if_neg (show ¬ i < i by omega)] at v1
    have sb := s99 i (by omega)
    have u2 : h 2 (242 * b + 2 + i) = st2 i := by rw [F _ _ (by omega)]; exact x i (by omega)
    have i60 : 0 ≤ (i : Int) ∧ (i : Int) < 60 := by omega
    have ei : pv_w (pv_w (pv_w (242 * (b : Int)) + 2) + (i : Int)) = ((242 * b + 2 + i : Nat) : Int) := by
      rw [pv_w_id (x := 242 * (b : Int)) (by omega) (by omega), pv_w_id (x := 242 * (b : Int) + 2) (by omega) (by omega), pv_w_id (by omega) (by omega)]; omega
    have e : fX10_besideOf_8 pv_NN a1 (b : Int) a3 a4 (f + 1) (i : Int) h = fX10_besideOf_8 pv_NN a1 (b : Int) a3 a4 f ((i + 1 : Nat) : Int) (pv_up h 6 i (st i + st2 i)) := by
      rw [fX10_besideOf_8, c1, if_neg (show ¬ (n : Int) ≤ (i : Int) by omega), if_pos i60, ei, if_pos (show 0 ≤ ((242 * b + 2 + i : Nat) : Int) ∧ ((242 * b + 2 + i : Nat) : Int) < 9159 by omega), if_pos i60, tnc, tnc, v1, u2, pv_w_id (x := st i + st2 i) (by omega) (by omega), bbs, bbs, pws (by omega)]
    rw [e]
    refine ih (i + 1) f _ (by omega) (by omega) (fun x y np => ?_) ⟨?_, ?_, fun j hj => ?_⟩
    · rw [pv_up_ne (by omega)]; exact F x y np
    · rw [pv_up_ne (by omega)]; exact c1
    · rw [pv_up_ne (by omega)]; exact c2
    · have q := c3 j hj
      dsimp only at q ⊢
      by_cases y : j = i
      · subst y
        rw [if_pos (by omega)]
        simp (disch := omega) only [pu_ne, pu_eq]
        exact ⟨trivial, q.2⟩
      · have iff1 : (if j < i + 1 then st j + st2 j else st j) = if j < i then st j + st2 j else st j := by
          by_cases w : j < i
          · rw [if_pos w, if_pos (by omega)]
          · rw [if_neg w, if_neg (by omega)]
        rw [iff1]
        simp (disch := omega) only [pu_ne]
        exact q
end STIF
/-- one ROD beside another, both */ -/
theorem stif_2 {hc hm : pv_H} (S : SSz hc hm) {a b d : Nat} {seed : Int} (hr : rodOk hm (a : Int)) (hr2 : rodOk hm (b : Int)) (hd : d < 4) (e : hm 2 (242 * a) = hm 2 (242 * b)) : ∃ (hc' hm' : pv_H) (np : Nat), fX9_piecesStiffened pv_NN (a : Int) (b : Int) (d : Int) seed hc = some (hc', (np : Int)) ∧ fX10_besideOf pv_NN (a : Int) (b : Int) (d : Int) seed hm = some (hm', (np : Int)) ∧ frz PCz hc hc' ∧ frz PMz hm hm' ∧ np ≤ 60 := by
  have ha : a < 4 := by have := hr.2.1; omega
  have hb : b < 4 := by have := hr2.2.1; omega
  obtain ⟨n, fl, st, sg, no, su, g, g99, c, v⟩ := S.rod2 hr
  obtain ⟨n', fl', st', sg', no', su', g', g99', c', v'⟩ := S.rod2 hr2
  have nn : n' = n := by have := v.1; have := v'.1; omega
  subst nn
  have n3 := g.1
  have n60 := g.2.1
  have s99 : ∀ i, i < n' → 1 ≤ st i ∧ st i ≤ 99 ∧ 1 ≤ st' i ∧ st' i ≤ 99 := fun i hi => ⟨(g.2.2.2.2 i hi).1, g99 i hi, (g'.2.2.2.2 i hi).1, g99' i hi⟩
  obtain ⟨h1, e1, f1, c1⟩ := copy_C ha n60 c
  obtain ⟨h2, e2, f2, c2⟩ := stif_C (hc := hc) (st2 := st') (a1 := (a : Int)) (a3 := (d : Int)) (a4 := seed) (k := fun h => if 0 ≤ (d : Int) ∧ (d : Int) < 4 then (pv_b (59 + 4 * (Int.toNat (d : Int))) fun x17 => pv_c2b (fX1_breakRod pv_NN 99 x17 23 seed h) fun h19 r20 => some (h19, r20)) else none) hb n60 s99 (fun i hi => (c'.2.2 i hi).1) (fun f h q0 => by rw [fX9_piecesStiffened_19, q0, if_pos (Int.le_refl _)]) n' 0 pv_NN h1 (by omega) (by unfold pv_NN; omega) f1 c1
  have e2 : fX9_piecesStiffened_19 pv_NN (a : Int) (b : Int) (d : Int) seed pv_NN 0 h1 = _ := e2
  obtain ⟨m1, e3, f3, mr1⟩ := takes_M (N := pv_NN) (by decide) ha n3 n60 v
  obtain ⟨m2, e4, f4, mr⟩ := stif_M (hm1 := m1) (st2 := st') (a1 := (a : Int)) (a3 := (d : Int)) (a4 := seed) (k := fun h => pv_c1 (fX10_does pv_NN (d : Int) 1 h) fun h13 => pv_c1 (fX10_draws pv_NN seed h13) fun h15 => pv_c1 (fX10_runs pv_NN (-1) h15) fun h17 => some (h17, h17 0 42)) hb n60 s99 (fun i hi => by rw [f3 _ _ (by unfold PTz; omega)]; exact (v'.2.2 i hi).1) (fun f h q0 => by rw [fX10_besideOf_8, q0, if_pos (Int.le_refl _)]) n' 0 pv_NN m1 (by omega) (by unfold pv_NN; omega) (fun _ _ _ => rfl) mr1
  have e4 : fX10_besideOf_8 pv_NN (a : Int) (b : Int) (d : Int) seed pv_NN 0 m1 = _ := e4
  have gg : grz n' fl (fun j => st j + st' j) sg no su := by
    obtain ⟨g1, g2, g3, g4, g5⟩ := g
    refine ⟨g1, g2, g3, g4, fun i hi => ?_⟩
    have q := g5 i hi
    have s := s99 i hi
    dsimp only
    exact ⟨by omega, by omega, q.2.2⟩
  obtain ⟨hc', q2, q3, q4, np, w1, w2, w3, w4, w5, w6, w7, w8⟩ := chg_2 (seed := seed) (b := d) S (hc := h2) (hm := m2) (fun x y np => f2 x y (by unfold PCz at np; omega)) ((f3.mono fun x y q => PTz_PM q).tr (fun x y np => f4 x y (by unfold PMz at np; omega))) gg c2 mr hd
  refine ⟨hc', q4, np, ?_, ?_, w6, w7, w8⟩
  · unfold fX9_piecesStiffened
    rw [if_pos (show 0 ≤ (a : Int) ∧ (a : Int) < 4 by omega), tnc, bbs, e1, c1s, e2, if_pos (show 0 ≤ (d : Int) ∧ (d : Int) < 4 by omega), tnc, bbs, w1, c2s]
  · unfold fX10_besideOf
    rw [e3, c1s, e4, w2, c1s, w3, c1s, w4, c1s, w5]
theorem s_beside : sm_beside SSz := by
  intro hc hm S a1 a2 a3 a4 _ _ _ _
  refine two_th S fun hm S => ?_
  unfold fX9_beside fX9_beside_23 fX9_beside_62 fX10_beside_28 fX10_beside_67
  by_cases hr : rodOk hm a1
  · obtain ⟨a, rfl⟩ := Int.eq_ofNat_of_zero_le hr.1
    have ha : a < 4 := by have := hr.2.1; omega
    rw [hasRod_1 S hr, c1s, if_neg n10, isRod_1 hr, c1s, if_neg n10]
    by_cases hr2 : rodOk hm a2
    · obtain ⟨b, rfl⟩ := Int.eq_ofNat_of_zero_le hr2.1
      have hb : b < 4 := by have := hr2.2.1; omega
      rw [hasRod_1 S hr2, c1s, if_neg n10, isRod_1 hr2, c1s, if_neg n10]
      by_cases hd : 0 ≤ a3 ∧ a3 < 4
      · obtain ⟨d, rfl⟩ := Int.eq_ofNat_of_zero_le hd.1
        rw [hasDo_1 hd, c1s, if_neg n10, isDo_1 hd, c1s, if_neg n10]
        by_cases ab : (a : Int) = (b : Int)
        · rw [if_pos ab, if_pos ab]; exact no3 S
        · have xa : pv_w (pv_w (242 * (a : Int)) + 0) = ((242 * a : Nat) : Int) := by rw [pv_w_id (x := 242 * (a : Int)) (by omega) (by omega), pv_w_id (by omega) (by omega)]; omega
          have xb : pv_w (pv_w (242 * (b : Int)) + 0) = ((242 * b : Nat) : Int) := by rw [pv_w_id (x := 242 * (b : Int)) (by omega) (by omega), pv_w_id (by omega) (by omega)]; omega
          rw [if_neg ab, if_neg ab, if_pos (show 0 ≤ (a : Int) ∧ (a : Int) < 4 by omega), tnc, bbs, if_pos (show 0 ≤ (b : Int) ∧ (b : Int) < 4 by omega), tnc, bbs, S.rod ha, S.rod hb, xa, xb, if_pos (show 0 ≤ ((242 * a : Nat) : Int) ∧ ((242 * a : Nat) : Int) < 9159 by omega), if_pos (show 0 ≤ ((242 * b : Nat) : Int) ∧ ((242 * b : Nat) : Int) < 9159 by omega), tnc, tnc]
          by_cases y : hm 2 (242 * a) = hm 2 (242 * b)
          · obtain ⟨c1, m1, np, x1, x2, x3, x4, x5⟩ := stif_2 S (seed := a4) hr hr2 (show d < 4 by omega) y
            have k1 : ∀ q, m1 2 q = hm 2 q := fun q => x4 _ _ (by unfold PMz; omega)
            have hr' : rodOk m1 (a : Int) := ⟨hr.1, hr.2.1, by rw [k1]; exact hr.2.2⟩
            have hr2' : rodOk m1 (b : Int) := ⟨hr2.1, hr2.2.1, by rw [k1]; exact hr2.2.2⟩
            obtain ⟨c2, m2, np2, y1, y2, y3, y4, y5⟩ := stif_2 (S.frz x3 x4) (seed := a4) hr2' hr' (show d < 4 by omega) (by rw [k1, k1]; exact y.symm)
            rw [if_pos y, if_pos y, x1, c2s, x2, c2s, y1, c2s, y2, c2s]
            exact wend rfl (S.frz (x3.tr y3) (x4.tr y4))
          · rw [if_neg y, if_neg y]; exact no3 S
      · rw [hasDo_0 hd, c1s, if_pos rfl, isDo_0 hd, c1s, if_pos rfl]
        exact no2 S
    · rw [hasRod_0 S hr2, c1s, if_pos rfl, isRod_0 hr2, c1s, if_pos rfl]
      exact no2 S
  · rw [hasRod_0 S hr, c1s, if_pos rfl, isRod_0 hr, c1s, if_pos rfl]
    exact no2 S
