/-! calls on a changed ROD: swapped, longer */ -/
/-- the changed ROD is run, both -/
theorem chg_2 {hc0 hm0 hc hm : pv_H} {n b : Nat} {fl seed : Int} {st sg no su : Nat → Int} (S : SSz hc0 hm0) (F : frz PCz hc0 hc) (G : frz PMz hm0 hm) (g : grz n fl st sg no su) (c : crz hc 99 n fl st sg no su) (mr : mrz hm n fl st sg no su) (hb : b < 4) : ∃ (hc' m2 m3 m4 : pv_H) (np : Nat), fX1_breakRod pv_NN 99 (59 + 4 * b) 23 seed hc = some (hc', (np : Int)) ∧ fX10_does pv_NN (b : Int) 1 hm = some m2 ∧ fX10_draws pv_NN seed m2 = some m3 ∧ fX10_runs pv_NN (-1) m3 = some m4 ∧ m4 0 42 = (np : Int) ∧ frz PCz hc0 hc' ∧ frz PMz hm0 m4 ∧ np ≤ 60 := by
  have S1 := S.frz F G
  obtain ⟨m, K, U, T, gd, cd, vd⟩ := S1.dov2 hb
  obtain ⟨_, lw1, lw2⟩ := S1.lawv
  have l : lwB (fun j => hm 2 (1116 + j)) := lw2
  obtain ⟨h1, h2, e1, e2, j1, j2, j3⟩ := ready_C (N := pv_NN) (seed := seed) (p := 1) (r := 99) (by decide) g l (Or.inr (by omega)) (by decide) c lw1 (show 59 + 4 * b + 4 ≤ 78 ∨ _ by omega) cd gd (by omega) (by omega)
  obtain ⟨m2, e4, f3, f4⟩ := ready_D (N := pv_NN) (p := 1) (by decide) hb vd gd (by omega) (by omega)
  have f5 : mrz m2 n fl st sg no su := mr.frm (fun x y q => f3 x y (by unfold PDz; omega))
  obtain ⟨m3, e5, f6, f7⟩ := draw_M (N := pv_NN) (seed := seed) (by decide) g f5
  have RM : RDM m3 n st sg su (fun j => hm 2 (1116 + j)) (spz fl sg no seed) (bdz K U T 1 m) (tnz K U T 1 m) (lsz T 1 m) := by
    refine RDM.mk' (mrz.ml (f5.frm (fun x y q => f6 x y (by omega))) (fun j hj => ?_)) f7 (f4.frm (fun x y q => f6 x y (by omega)))
    rw [f6 _ _ (by omega), f3 _ _ (by unfold PDz; omega)]
  have G3 : frz PMz hm m3 := (f3.mono fun x y q => PDz_PM q).tr (fun x y np => f6 x y (by unfold PMz at np; omega))
  obtain ⟨hc', m4, np, x1, x2, x3, x4, x5, x6, x7⟩ := run_2 (N := pv_NN) (a1 := -1) (by decide) g.br l (fun i hi => spz_b g hi) j1 RM (by rw [G3 _ _ (by unfold PMz; omega)]; exact S1.2.2.2.2.2.2) (Or.inl rfl)
  refine ⟨hc', m2, m3, m4, np, ?_, e4, e5, x2, x3.choose_spec.choose_spec.choose_spec.2.2.2.2.2.1, (F.tr (fun x y np => j3 x y (by unfold PCz at np; unfold TCz; omega))).tr (RC_P x6), (G.tr G3).tr (RM_P x7), (x3.np60 g.2.1).2⟩
  unfold fX1_breakRod
  rw [e1, c1s, e2, c1s, x1, c2s]
section SWAP
variable {n a : Nat} {fl : Int} {st sg no su : Nat → Int}
/-- the class takes cells of a ROD that is there, one after another -/
theorem cells_C {src : Nat → Nat} {hc : pv_H} {n2 : Nat} {step : Nat → Int → pv_H → Option (pv_H × Int)} {k : pv_H → Option (pv_H × Int)} (ha : a < 4) (h60 : n2 ≤ 60) (hs : ∀ i, i < n2 → src i < n) (n60 : n ≤ 60) (c : crz hc (35 + 6 * a) n fl st sg no su)
  (eS : ∀ (f i : Nat) (h : pv_H), i < n2 → h 99 0 = (n2 : Int) → h (35 + 6 * a) 0 = (n : Int) → step (f + 1) (i : Int) h = pv_c1 (fX5_takeCell pv_NN 99 (i : Int) (35 + 6 * a) ((src i : Nat) : Int) h) fun h22 => step f ((i + 1 : Nat) : Int) h22)
  (e0 : ∀ (f : Nat) (h : pv_H), h 99 0 = (n2 : Int) → h (35 + 6 * a) 0 = (n : Int) → step (f + 1) (n2 : Int) h = k h) : ∀ (d i f : Nat) (h : pv_H), i + d = n2 → d < f → (∀ x y, ¬ (99 ≤ x ∧ x < 105) → h x y = hc x y) → h 99 0 = (n2 : Int) → h 99 1 = fl → (∀ i, i < n2 → h 104 i = shp n2 i) → (∀ j, j < i → h 100 j = st (src j) ∧ h 101 j = sg (src j) ∧ h 102 j = no (src j) ∧ h 103 j = su (src j)) → ∃ h', step f (i : Int) h = k h' ∧ (∀ x y, ¬ (99 ≤ x ∧ x < 105) → h' x y = hc x y) ∧ crz h' 99 n2 fl (fun i => st (src i)) (fun i => sg (src i)) (fun i => no (src i)) (fun i => su (src i)) := by
  intro d
  induction d with
  | zero =>
    intro i f h h1 h2 F z0 z1 z4 C
    obtain ⟨f, rfl⟩ : ∃ g, f = g + 1 := ⟨f - 1, by omega⟩
    have : i = n2 := by omega
    subst this
    have ex : h (35 + 6 * a) 0 = (n : Int) := by rw [F _ _ (by omega)]; exact c.1
    refine ⟨h, e0 f h z0 ex, F, z0, z1, fun j hj => ?_⟩
    obtain ⟨q1, q2, q3, q4⟩ := C j hj
    exact ⟨q1, q2, q3, q4, z4 j hj⟩
  | succ d ih =>
    intro i f h h1 h2 F z0 z1 z4 C
    obtain ⟨f, rfl⟩ : ∃ g, f = g + 1 := ⟨f - 1, by omega⟩
    have ex : h (35 + 6 * a) 0 = (n : Int) := by rw [F _ _ (by omega)]; exact c.1
    have sl := hs i (by omega)
    obtain ⟨h', e, f1, v1, v2, v3, v4⟩ := takeCell_C (N := pv_NN) (r := 99) (q := 35 + 6 * a) (i := i) (j := src i) (h := h) (by omega) (by omega) (by omega)
    rw [eS f i h (by omega) z0 ex, e, c1s]
    obtain ⟨_, _, cc⟩ := c
    obtain ⟨d1, d2, d3, d4, _⟩ := cc (src i) sl
    refine ih (i + 1) f h' (by omega) (by omega) (fun x y np => by rw [f1 x y (by omega)]; exact F x y np) (by rw [f1 _ _ (by omega)]; exact z0) (by rw [f1 _ _ (by omega)]; exact z1) (fun j hj => by rw [f1 _ _ (by omega)]; exact z4 j hj) (fun j hj => ?_)
    by_cases y : j = i
    · subst y
      have u1 : h' 100 j = _ := v1
      have u2 : h' 101 j = _ := v2
      have u3 : h' 102 j = _ := v3
      have u4 : h' 103 j = _ := v4
      rw [u1, u2, u3, u4, F _ _ (by omega), F _ _ (by omega), F _ _ (by omega), F _ _ (by omega)]
      exact ⟨d1, d2, d3, d4⟩
    · rw [f1 _ _ (by omega), f1 _ _ (by omega), f1 _ _ (by omega), f1 _ _ (by omega)]
      exact C j (by omega)
/-- the reference takes the cells the other way about -/
theorem swap_M {hm0 : pv_H} {a1 a2 a3 : Int} {k : pv_H → Option (pv_H × Int)} (ha : a < 4) (n60 : n ≤ 60) (v : vrz hm0 (242 * a) n fl st sg no su) (kk : ∀ (f : Nat) (h : pv_H), h 0 19 = (n : Int) → fX10_swapped_36 pv_NN a1 a2 a3 (f + 1) ((242 * a : Nat) : Int) (n : Int) h = k h) : ∀ (d i f : Nat) (h : pv_H), i + d = n → d < f → frz PTz hm0 h → h 0 19 = (n : Int) → h 0 20 = fl → (∀ j, j < n → h 10 j = shp n j) → (∀ j, j < i → h 6 j = st (n - 1 - j) ∧ h 7 j = sg (n - 1 - j) ∧ h 8 j = no (n - 1 - j) ∧ h 9 j = su (n - 1 - j)) → ∃ h', fX10_swapped_36 pv_NN a1 a2 a3 f ((242 * a : Nat) : Int) (i : Int) h = k h' ∧ frz PTz hm0 h' ∧ mrz h' n fl (fun i => st (n - 1 - i)) (fun i => sg (n - 1 - i)) (fun i => no (n - 1 - i)) (fun i => su (n - 1 - i)) := by
  intro d
  induction d with
  | zero =>
    intro i f h h1 h2 F z0 z1 z4 C
    obtain ⟨f, rfl⟩ : ∃ g, f = g + 1 := ⟨f - 1, by omega⟩
    have : i = n := by omega
    subst this
    refine ⟨h, kk f h z0, F, z0, z1, fun j hj => ?_⟩
    obtain ⟨q1, q2, q3, q4⟩ := C j hj
    exact ⟨q1, q2, q3, q4, z4 j hj⟩
  | succ d ih =>
    intro i f h h1 h2 F z0 z1 z4 C
    obtain ⟨f, rfl⟩ : ∃ g, f = g + 1 := ⟨f - 1, by omega⟩
    obtain ⟨_, _, vv⟩ := v
    obtain ⟨d1, d2, d3, d4⟩ := vv (n - 1 - i) (by omega)
    have ex : pv_w (pv_w (pv_w (((242 * a : Nat) : Int) + (n : Int)) - 1) - (i : Int)) = ((242 * a + (n - 1 - i) : Nat) : Int) := by
      rw [pv_w_id (x := ((242 * a : Nat) : Int) + (n : Int)) (by omega) (by omega), pv_w_id (x := ((242 * a : Nat) : Int) + (n : Int) - 1) (by omega) (by omega), pv_w_id (by omega) (by omega)]
      omega
    have t2 : pv_w (((242 * a + (n - 1 - i) : Nat) : Int) + 2) = ((242 * a + 2 + (n - 1 - i) : Nat) : Int) := by rw [pv_w_id (by omega) (by omega)]; omega
    have t62 : pv_w (((242 * a + (n - 1 - i) : Nat) : Int) + 62) = ((242 * a + 62 + (n - 1 - i) : Nat) : Int) := by rw [pv_w_id (by omega) (by omega)]; omega
    have t122 : pv_w (((242 * a + (n - 1 - i) : Nat) : Int) + 122) = ((242 * a + 122 + (n - 1 - i) : Nat) : Int) := by rw [pv_w_id (by omega) (by omega)]; omega
    have t182 : pv_w (((242 * a + (n - 1 - i) : Nat) : Int) + 182) = ((242 * a + 182 + (n - 1 - i) : Nat) : Int) := by rw [pv_w_id (by omega) (by omega)]; omega
    have i60 : 0 ≤ (i : Int) ∧ (i : Int) < 60 := by omega
    have e : fX10_swapped_36 pv_NN a1 a2 a3 (f + 1) ((242 * a : Nat) : Int) (i : Int) h = fX10_swapped_36 pv_NN a1 a2 a3 f ((242 * a : Nat) : Int) ((i + 1 : Nat) : Int) (pv_up (pv_up (pv_up (pv_up h 6 i (st (n - 1 - i))) 7 i (sg (n - 1 - i))) 8 i (no (n - 1 - i))) 9 i (su (n - 1 - i))) := by
      rw [fX10_swapped_36, z0, if_neg (show ¬ (n : Int) ≤ (i : Int) by omega), ex, bbs, t2, t62, t122, t182]
      simp (disch := omega) only [if_pos, tnc, bbs, pu_ne, pws]
      rw [F 2 (242 * a + 2 + (n - 1 - i)) (by unfold PTz; omega), F 2 (242 * a + 62 + (n - 1 - i)) (by unfold PTz; omega), F 2 (242 * a + 122 + (n - 1 - i)) (by unfold PTz; omega), F 2 (242 * a + 182 + (n - 1 - i)) (by unfold PTz; omega), d1, d2, d3, d4]
    rw [e]
    refine ih (i + 1) f _ (by omega) (by omega) (fun x y np => ?_) ?_ ?_ (fun j hj => ?_) (fun j hj => ?_)
    · rw [pv_up_ne (by unfold PTz at np; omega), pv_up_ne (by unfold PTz at np; omega), pv_up_ne (by unfold PTz at np; omega), pv_up_ne (by unfold PTz at np; omega)]
      exact F x y np
    · simp (disch := omega) only [pu_ne]; exact z0
    · simp (disch := omega) only [pu_ne]; exact z1
    · simp (disch := omega) only [pu_ne]; exact z4 j hj
    · by_cases y : j = i
      · subst y
        simp (disch := omega) only [pu_ne, pu_eq]
        exact ⟨trivial, trivial, trivial, trivial⟩
      · simp (disch := omega) only [pu_ne]
        exact C j (by omega)
/-- the reference makes all cells like cell 0 -/
theorem long_M {n2 : Nat} {x0 x1 x2 x3 : Int} {a1 a2 a3 : Int} {k : pv_H → Option (pv_H × Int)} {hm1 : pv_H} (h60 : n2 ≤ 60) (kk : ∀ (f : Nat) (h : pv_H), fX10_longer_57 pv_NN a1 a2 a3 (n2 : Int) (f + 1) (n2 : Int) h = k h) : ∀ (d i f : Nat) (h : pv_H), i + d = n2 → 1 ≤ i → d < f → (∀ x y, ¬ (6 ≤ x ∧ x ≤ 9) → h x y = hm1 x y) → (∀ j, j < i → h 6 j = x0 ∧ h 7 j = x1 ∧ h 8 j = x2 ∧ h 9 j = x3) → ∃ h', fX10_longer_57 pv_NN a1 a2 a3 (n2 : Int) f (i : Int) h = k h' ∧ (∀ x y, ¬ (6 ≤ x ∧ x ≤ 9) → h' x y = hm1 x y) ∧ ∀ j, j < n2 → h' 6 j = x0 ∧ h' 7 j = x1 ∧ h' 8 j = x2 ∧ h' 9 j = x3 := by
  intro d
  induction d with
  | zero =>
    intro i f h h1 h2 h3 F C
    obtain ⟨f, rfl⟩ : ∃ g, f = g + 1 := ⟨f - 1, by omega⟩
    have : i = n2 := by omega
    subst this
    exact ⟨h, kk f h, F, C⟩
  | succ d ih =>
    intro i f h h1 h2 h3 F C
    obtain ⟨f, rfl⟩ : ∃ g, f = g + 1 := ⟨f - 1, by omega⟩
    obtain ⟨c0, c1, c2, c3⟩ := C 0 (by omega)
    have e : fX10_longer_57 pv_NN a1 a2 a3 (n2 : Int) (f + 1) (i : Int) h = fX10_longer_57 pv_NN a1 a2 a3 (n2 : Int) f ((i + 1 : Nat) : Int) (pv_up (pv_up (pv_up (pv_up h 6 i x0) 7 i x1) 8 i x2) 9 i x3) := by
      rw [fX10_longer_57, if_neg (show ¬ (n2 : Int) ≤ (i : Int) by omega)]
      simp (disch := omega) only [if_pos, tnc, bbs, pu_ne, pws, c0, c1, c2, c3]
    rw [e]
    refine ih (i + 1) f _ (by omega) (by omega) (by omega) (fun x y np => ?_) (fun j hj => ?_)
    · rw [pv_up_ne (by omega), pv_up_ne (by omega), pv_up_ne (by omega), pv_up_ne (by omega)]
      exact F x y np
    · by_cases y : j = i
      · subst y
        simp (disch := omega) only [pu_ne, pu_eq]
        exact ⟨trivial, trivial, trivial, trivial⟩
      · simp (disch := omega) only [pu_ne]
        exact C j (by omega)
end SWAP
theorem s_swapped : sm_swapped SSz := by
  intro hc hm S a1 a2 a3 _ _ _
  refine two_th S fun hm S => ?_
  unfold fX9_swapped fX9_swapped_15
  by_cases hr : rodOk hm a1
  · obtain ⟨a, rfl⟩ := Int.eq_ofNat_of_zero_le hr.1
    have ha : a < 4 := by have := hr.2.1; omega
    rw [hasRod_1 S hr, c1s, if_neg n10]
    by_cases hd : 0 ≤ a2 ∧ a2 < 4
    · obtain ⟨b, rfl⟩ := Int.eq_ofNat_of_zero_le hd.1
      obtain ⟨n, fl, st, sg, no, su, g, g99, c, v⟩ := S.rod2 hr
      have n3 := g.1
      have n60 := g.2.1
      rw [hasDo_1 hd, c1s, if_neg n10, isBoth_1 hr hd, c1s, if_neg n10, if_pos (show 0 ≤ (a : Int) ∧ (a : Int) < 4 by omega), tnc, bbs, c.1]
      -- the class
      obtain ⟨h1, e1, f1, c1⟩ := begin_C (N := pv_NN) (r := 99) (h := hc) (by decide) n3 n60
      obtain ⟨b0, _, bc⟩ := c1
      rw [e1, c1s, f1 (35 + 6 * a) 1 (by omega), c.2.1]
      obtain ⟨h2, e2, f2, c2⟩ := cells_C (a := a) (n := n) (fl := fl) (st := st) (sg := sg) (no := no) (su := su) (src := fun i => n - 1 - i) (hc := hc) (n2 := n) (step := fun f i h => fX9_swapped_60 pv_NN (a : Int) (b : Int) a3 f (35 + 6 * a) i h) (k := fun h => if 0 ≤ (b : Int) ∧ (b : Int) < 4 then (pv_b (59 + 4 * (Int.toNat (b : Int))) fun x17 => pv_c2b (fX1_breakRod pv_NN 99 x17 23 a3 h) fun h19 r20 => some (h19, r20)) else none) ha n60 (fun i hi => by omega) n60 c (fun f i h hi q0 q1 => by
        show fX9_swapped_60 pv_NN (a : Int) (b : Int) a3 (f + 1) (35 + 6 * a) (i : Int) h = _
        have ej : pv_w (pv_w ((n : Int) - 1) - (i : Int)) = ((n - 1 - i : Nat) : Int) := by
          rw [pv_w_id (x := (n : Int) - 1) (by omega) (by omega), pv_w_id (by omega) (by omega)]; omega
        rw [fX9_swapped_60, q1, if_neg (show ¬ (n : Int) ≤ (i : Int) by omega), ej]
        simp only [bbs, pws (show i < 2000000000 by omega)]) (fun f h q0 q1 => by
        show fX9_swapped_60 pv_NN (a : Int) (b : Int) a3 (f + 1) (35 + 6 * a) (n : Int) h = _
        rw [fX9_swapped_60, q1, if_pos (Int.le_refl _)]) n 0 pv_NN (pv_up h1 99 1 fl) (by omega) (by unfold pv_NN; omega) (fun x y np => by rw [pv_up_ne (by omega)]; exact f1 x y (by omega)) (by rw [pv_up_ne (by omega)]; exact b0) (by rw [pv_up_self]) (fun i hi => by rw [pv_up_ne (by omega)]; exact (bc i hi).2.2.2.2) (fun j hj => by omega)
      have e2 : fX9_swapped_60 pv_NN (a : Int) (b : Int) a3 pv_NN (35 + 6 * a) 0 (pv_up h1 99 1 fl) = _ := e2
      rw [bbs, e2]
      -- the reference
      obtain ⟨m1, e3, f3, ⟨r0, r1, r2⟩⟩ := takes_M (N := pv_NN) (by decide) ha n3 n60 v
      obtain ⟨m2, e4, f4, mr⟩ := swap_M (hm0 := hm) (a1 := (a : Int)) (a2 := (b : Int)) (a3 := a3) (k := fun h => pv_c1 (fX10_does pv_NN (b : Int) 1 h) fun h13 => pv_c1 (fX10_draws pv_NN a3 h13) fun h15 => pv_c1 (fX10_runs pv_NN (-1) h15) fun h17 => some (h17, h17 0 42)) ha n60 v (fun f h q0 => by rw [fX10_swapped_36, q0, if_pos (Int.le_refl _)]) n 0 pv_NN m1 (by omega) (by unfold pv_NN; omega) f3 r0 r1 (fun j hj => (r2 j hj).2.2.2.2) (fun j hj => by omega)
      have e4 : fX10_swapped_36 pv_NN (a : Int) (b : Int) a3 pv_NN ((242 * a : Nat) : Int) 0 m1 = _ := e4
      have ew : pv_w (242 * (a : Int)) = ((242 * a : Nat) : Int) := by rw [pv_w_id (by omega) (by omega)]; omega
      rw [e3, c1s, ew]
      have g' : grz n fl (fun i => st (n - 1 - i)) (fun i => sg (n - 1 - i)) (fun i => no (n - 1 - i)) (fun i => su (n - 1 - i)) := by
        obtain ⟨g1, g2, g3, g4, g5⟩ := g
        exact ⟨g1, g2, g3, g4, fun i hi => g5 (n - 1 - i) (by omega)⟩
      obtain ⟨hc', q2, q3, q4, np, w1, w2, w3, w4, w5, w6, w7, _⟩ := chg_2 (seed := a3) (b := b) S (hc := h2) (hm := m2) (fun x y np => f2 x y (by unfold PCz at np; omega)) (f4.mono fun x y q => PTz_PM q) g' c2 mr (by omega)
      rw [if_pos hd, tnc, bbs, w1, c2s, bbs, e4, w2, c1s, w3, c1s, w4, c1s, w5]
      exact wend rfl (S.frz w6 w7)
    · rw [hasDo_0 hd, c1s, if_pos rfl, isBoth_0 (fun z => hd z.2), c1s, if_pos rfl]
      exact no2 S
  · rw [hasRod_0 S hr, c1s, if_pos rfl, isBoth_0 (fun z => hr z.1), c1s, if_pos rfl]
    exact no2 S
theorem s_longer : sm_longer SSz := by
  intro hc hm S a1 a2 a3 a4 _ _ _ _
  refine two_th S fun hm S => ?_
  unfold fX9_longer fX9_longer_15 fX9_longer_35
  by_cases hr : rodOk hm a1
  · obtain ⟨a, rfl⟩ := Int.eq_ofNat_of_zero_le hr.1
    have ha : a < 4 := by have := hr.2.1; omega
    have hA : 0 ≤ (a : Int) ∧ (a : Int) < 4 := by omega
    rw [hasRod_1 S hr, c1s, if_neg n10]
    by_cases hd : 0 ≤ a2 ∧ a2 < 4
    · obtain ⟨b, rfl⟩ := Int.eq_ofNat_of_zero_le hd.1
      rw [hasDo_1 hd, c1s, if_neg n10, isBoth_1 hr hd, c1s, if_neg n10]
      by_cases h4 : 3 ≤ a4 ∧ a4 ≤ 60
      · obtain ⟨n2, rfl⟩ := Int.eq_ofNat_of_zero_le (show 0 ≤ a4 by omega)
        obtain ⟨n, fl, st, sg, no, su, g, g99, c, v⟩ := S.rod2 hr
        have n3 := g.1
        have n60 := g.2.1
        rw [wn_1 h4, c1s, if_neg n10, if_neg (show ¬ (n2 : Int) < 3 by omega), if_pos (show (n2 : Int) ≤ 60 by omega)]
        -- the class
        obtain ⟨h1, e1, f1, c1⟩ := begin_C (N := pv_NN) (r := 99) (h := hc) (n := n2) (by decide) (by omega) (by omega)
        obtain ⟨b0, _, bc⟩ := c1
        rw [e1, c1s, if_pos hA, tnc, bbs, f1 (35 + 6 * a) 1 (by omega), c.2.1]
        obtain ⟨h2, e2, f2, c2⟩ := cells_C (a := a) (n := n) (fl := fl) (st := st) (sg := sg) (no := no) (su := su) (src := fun _ => 0) (hc := hc) (n2 := n2) (step := fun f i h => fX9_longer_73 pv_NN (a : Int) (b : Int) a3 (n2 : Int) f i h) (k := fun h => if 0 ≤ (b : Int) ∧ (b : Int) < 4 then (pv_b (59 + 4 * (Int.toNat (b : Int))) fun x17 => pv_c2b (fX1_breakRod pv_NN 99 x17 23 a3 h) fun h19 r20 => some (h19, r20)) else none) ha (by omega) (fun i hi => by omega) n60 c (fun f i h hi q0 q1 => by
          show fX9_longer_73 pv_NN (a : Int) (b : Int) a3 (n2 : Int) (f + 1) (i : Int) h = _
          rw [fX9_longer_73, if_neg (show ¬ (n2 : Int) ≤ (i : Int) by omega), if_pos hA, tnc, bbs]
          simp only [bbs, pws (show i < 2000000000 by omega)]
          rfl) (fun f h q0 q1 => by
          show fX9_longer_73 pv_NN (a : Int) (b : Int) a3 (n2 : Int) (f + 1) (n2 : Int) h = _
          rw [fX9_longer_73, if_pos (Int.le_refl _)]) n2 0 pv_NN (pv_up h1 99 1 fl) (by omega) (by unfold pv_NN; omega) (fun x y np => by rw [pv_up_ne (by omega)]; exact f1 x y (by omega)) (by rw [pv_up_ne (by omega)]; exact b0) (by rw [pv_up_self]) (fun i hi => by rw [pv_up_ne (by omega)]; exact (bc i hi).2.2.2.2) (fun j hj => by omega)
        have e2 : fX9_longer_73 pv_NN (a : Int) (b : Int) a3 (n2 : Int) pv_NN 0 (pv_up h1 99 1 fl) = _ := e2
        rw [bbs, e2]
        -- the reference
        obtain ⟨m1, e3, f3, ⟨r0, r1, r2⟩⟩ := takes_M (N := pv_NN) (by decide) ha n3 n60 v
        obtain ⟨m2, e4, f4, mr⟩ := long_M (n2 := n2) (a1 := (a : Int)) (a2 := (b : Int)) (a3 := a3) (x0 := st 0) (x1 := sg 0) (x2 := no 0) (x3 := su 0) (hm1 := pv_up m1 0 19 (n2 : Int)) (k := fun h => pv_c1 (fX10_shapes pv_NN h) fun h19 => pv_c1 (fX10_does pv_NN (b : Int) 1 h19) fun h21 => pv_c1 (fX10_draws pv_NN a3 h21) fun h23 => pv_c1 (fX10_runs pv_NN (-1) h23) fun h25 => some (h25, h25 0 42)) (by omega) (fun f h => by rw [fX10_longer_57, if_pos (Int.le_refl _)]) (n2 - 1) 1 pv_NN (pv_up m1 0 19 (n2 : Int)) (by omega) (by omega) (by unfold pv_NN; omega) (fun _ _ _ => rfl) (fun j hj => by
          have : j = 0 := by omega
          subst this
          simp (disch := omega) only [pu_ne]
          obtain ⟨q1, q2, q3, q4, _⟩ := r2 0 (by omega)
          exact ⟨q1, q2, q3, q4⟩)
        have e4 : fX10_longer_57 pv_NN (a : Int) (b : Int) a3 (n2 : Int) pv_NN 1 (pv_up m1 0 19 (n2 : Int)) = _ := e4
        have q19 : m2 0 19 = (n2 : Int) := by rw [f4 _ _ (by omega), pv_up_self]
        obtain ⟨m3, e5, f5, v5⟩ := shapes_M (N := pv_NN) (h := m2) (by decide) (by omega) (by omega) q19
        have g' : grz n2 fl (fun _ => st 0) (fun _ => sg 0) (fun _ => no 0) (fun _ => su 0) := by
          obtain ⟨g1, g2, g3, g4, g5⟩ := g
          exact ⟨by omega, by omega, g3, g4, fun i hi => g5 0 (by omega)⟩
        have mr' : mrz m3 n2 fl (fun _ => st 0) (fun _ => sg 0) (fun _ => no 0) (fun _ => su 0) := by
          refine ⟨by rw [f5 _ _ (by omega)]; exact q19, by rw [f5 _ _ (by omega), f4 _ _ (by omega), pv_up_ne (by omega)]; exact r1, fun i hi => ?_⟩
          rw [f5 _ _ (by omega), f5 _ _ (by omega), f5 _ _ (by omega), f5 _ _ (by omega)]
          obtain ⟨q1, q2, q3, q4⟩ := mr i hi
          exact ⟨q1, q2, q3, q4, v5 i hi⟩
        have G3 : frz PMz hm m3 := (f3.mono fun x y q => PTz_PM q).tr (fun x y np => by
          rw [f5 x y (by unfold PMz at np; omega), f4 x y (by unfold PMz at np; omega), pv_up_ne (by unfold PMz at np; omega)])
        obtain ⟨hc', q2, q3, q4, np, w1, w2, w3, w4, w5, w6, w7, _⟩ := chg_2 (seed := a3) (b := b) S (hc := h2) (hm := m3) (fun x y np => f2 x y (by unfold PCz at np; omega)) G3 g' c2 mr' (by omega)
        rw [e3, c1s, if_pos hd, tnc, bbs, w1, c2s, bbs, e4, e5, c1s, w2, c1s, w3, c1s, w4, c1s, w5]
        exact wend rfl (S.frz w6 w7)
      · rw [wn_0 h4, c1s, if_pos rfl]
        by_cases z : a4 < 3
        · rw [if_pos z]; exact no3 S
        · rw [if_neg z, if_neg (show ¬ a4 ≤ 60 by omega)]; exact no3 S
    · rw [hasDo_0 hd, c1s, if_pos rfl, isBoth_0 (fun z => hd z.2), c1s, if_pos rfl]
      exact no2 S
  · rw [hasRod_0 S hr, c1s, if_pos rfl, isBoth_0 (fun z => hr z.1), c1s, if_pos rfl]
    exact no2 S
