/-! RODS are taken up; calls: cell, strength -/
def PTz (x y : Nat) : Prop := x = 0 ∧ (y = 19 ∨ y = 20) ∨ 6 ≤ x ∧ x ≤ 10
section TAKE
variable {N n : Nat} {fl : Int} {st sg no su : Nat → Int}
theorem shp_w {n i : Nat} (hn : n ≤ 60) (h3 : 3 ≤ n) (hi : i < n) : pv_w (Int.tdiv (pv_w (pv_w (pv_w ((i : Int) + 1) * pv_w ((n : Int) - (i : Int))) * 400)) (pv_w (pv_w ((n : Int) + 1) * pv_w ((n : Int) + 1)))) = shp n i := by
  obtain ⟨b1, b2, b3, b4⟩ := shp_b hn h3 hi
  have pos : 0 ≤ ((n : Int) + 1) * ((n : Int) + 1) := Int.mul_nonneg (by omega) (by omega)
  have le : ((n : Int) + 1) * ((n : Int) + 1) ≤ 61 * ((n : Int) + 1) := Int.mul_le_mul_of_nonneg_right (by omega) (by omega)
  rw [pv_w_id (x := (i : Int) + 1) (by omega) (by omega), pv_w_id (x := (n : Int) - i) (by omega) (by omega), pv_w_id (x := (n : Int) + 1) (by omega) (by omega), pv_w_id (x := ((i : Int) + 1) * ((n : Int) - i)) (by omega) (by omega), pv_w_id (x := ((i : Int) + 1) * ((n : Int) - i) * 400) (by omega) (by omega), pv_w_id (x := ((n : Int) + 1) * ((n : Int) + 1)) (by omega) (by omega), tdn (by omega)]
  unfold shp at b1 b2
  exact pv_w_id (by omega) (by omega)
theorem shapes_M {h : pv_H} (hN : 100 ≤ N) (h3 : 3 ≤ n) (h60 : n ≤ 60) (e : h 0 19 = (n : Int)) : wpz (fX10_shapes N h) fun h' => (∀ x y, x ≠ 10 → h' x y = h x y) ∧ ∀ i, i < n → h' 10 i = shp n i := by
  have lp : ∀ (f i : Nat) (q : pv_H), i ≤ n → n < i + f → (∀ x y, x ≠ 10 → q x y = h x y) → (∀ j, j < i → q 10 j = shp n j) → wpz (fX10_shapes_2 N f (i : Int) q) fun h' => (∀ x y, x ≠ 10 → h' x y = h x y) ∧ ∀ i, i < n → h' 10 i = shp n i := by
    intro f
    induction f with
    | zero => intro i q h1 h2; omega
    | succ f ih =>
      intro i q h1 h2 h3' h4
      have k1 : q 0 19 = (n : Int) := by rw [h3' _ _ (by omega)]; exact e
      rw [fX10_shapes_2, k1]
      by_cases z : n ≤ i
      · rw [if_pos (by omega)]
        have : i = n := by omega
        subst this
        exact wp_some.mpr ⟨h3', h4⟩
      · have pos : 0 < ((n : Int) + 1) * ((n : Int) + 1) := Int.mul_pos (by omega) (by omega)
        have le : ((n : Int) + 1) * ((n : Int) + 1) ≤ 61 * ((n : Int) + 1) := Int.mul_le_mul_of_nonneg_right (by omega) (by omega)
        rw [shp_w h60 h3 (show i < n by omega)]
        have nz : ¬ pv_w (pv_w ((n : Int) + 1) * pv_w ((n : Int) + 1)) = 0 := by
          rw [pv_w_id (x := (n : Int) + 1) (by omega) (by omega), pv_w_id (x := ((n : Int) + 1) * ((n : Int) + 1)) (by omega) (by omega)]
          omega
        rw [if_neg (by omega), if_pos nz, if_pos (by omega), bbs, bbs, tnc, pws (by omega)]
        refine ih (i + 1) _ (by omega) (by omega) (fun x y nx => ?_) (fun j hj => ?_)
        · rw [pv_up_ne (Or.inl nx)]; exact h3' x y nx
        · by_cases e : j = i
          · subst e; rw [pv_up_self]
          · rw [pv_up_ne (Or.inr e)]; exact h4 j (by omega)
  exact lp N 0 h (by omega) (by omega) (fun x y _ => rfl) (fun j hj => absurd hj (Nat.not_lt_zero j))
theorem takes_M {a : Nat} {h : pv_H} (hN : 100 ≤ N) (ha : a < 4) (h3 : 3 ≤ n) (h60 : n ≤ 60) (v : vrz h (242 * a) n fl st sg no su) : wpz (fX10_takes N (a : Int) h) fun h' => frz PTz h h' ∧ mrz h' n fl st sg no su := by
  obtain ⟨v1, v2, v3⟩ := v
  unfold fX10_takes
  have eo : pv_w (242 * (a : Int)) = ((242 * a : Nat) : Int) := by rw [pv_w_id (by omega) (by omega)]; omega
  rw [eo]
  have v3' : ∀ i, i < n → h 2 (242 * a + 2 + i) = st i ∧ h 2 (242 * a + 62 + i) = sg i ∧ h 2 (242 * a + 122 + i) = no i ∧ h 2 (242 * a + 182 + i) = su i := v3
  have ho : 242 * a ≤ 726 := by omega
  generalize 242 * a = o at v1 v2 v3' ho ⊢
  have x1 : Int.toNat ((o : Int) + 1) = o + 1 := by omega
  simp (disch := omega) only [bbs, Int.add_zero, pv_w_id, if_pos, tnc, x1, pu_ne]
  rw [v1, v2]
  have lp : ∀ (f i : Nat) (q : pv_H), i ≤ n → n < i + f → frz PTz h q → q 0 19 = (n : Int) → q 0 20 = fl → (∀ j, j < i → q 6 j = st j ∧ q 7 j = sg j ∧ q 8 j = no j ∧ q 9 j = su j) → wpz (fX10_takes_32 N (a : Int) f (o : Int) (i : Int) q) fun h' => frz PTz h h' ∧ mrz h' n fl st sg no su := by
    intro f
    induction f with
    | zero => intro i q h1 h2; omega
    | succ f ih =>
      intro i q h1 h2 hf k1 k2 h4
      rw [fX10_takes_32, k1]
      by_cases z : n ≤ i
      · rw [if_pos (by omega)]
        have : i = n := by omega
        subst this
        refine wp_c1I (shapes_M hN h3 h60 k1) ?_
        rintro h' ⟨f1, f2⟩
        refine wp_some.mpr ⟨fun x y np => ?_, ?_, ?_, fun j hj => ?_⟩
        · rw [f1 _ _ (by unfold PTz at np; omega)]
          exact hf x y np
        · rw [f1 _ _ (by omega)]; exact k1
        · rw [f1 _ _ (by omega)]; exact k2
        · rw [f1 _ _ (by omega), f1 _ _ (by omega), f1 _ _ (by omega), f1 _ _ (by omega)]
          obtain ⟨w1, w2, w3, w4⟩ := h4 j hj
          exact ⟨w1, w2, w3, w4, f2 j hj⟩
      · rw [if_neg (by omega)]
        obtain ⟨w1, w2, w3, w4⟩ := v3' i (by omega)
        have m2 : ∀ k, q 2 k = h 2 k := fun k => hf _ _ (by unfold PTz; omega)
        have y1 : q 2 (o + 2 + i) = st i := by rw [m2]; exact w1
        have y2 : q 2 (o + 62 + i) = sg i := by rw [m2]; exact w2
        have y3 : q 2 (o + 122 + i) = no i := by rw [m2]; exact w3
        have y4 : q 2 (o + 182 + i) = su i := by rw [m2]; exact w4
        have x1 : Int.toNat ((o : Int) + 2 + (i : Int)) = o + 2 + i := by omega
        have x2 : Int.toNat ((o : Int) + 62 + (i : Int)) = o + 62 + i := by omega
        have x3 : Int.toNat ((o : Int) + 122 + (i : Int)) = o + 122 + i := by omega
        have x4 : Int.toNat ((o : Int) + 182 + (i : Int)) = o + 182 + i := by omega
        simp (disch := omega) only [pv_w_id, if_pos, bbs, tnc, x1, x2, x3, x4, pu_ne, y1, y2, y3, y4]
        refine ih (i + 1) _ (by omega) (by omega) ?_ ?_ ?_ (fun j hj => ?_)
        · intro x y np
          have : x ≠ 6 ∧ x ≠ 7 ∧ x ≠ 8 ∧ x ≠ 9 := by unfold PTz at np; omega
          rw [pv_up_ne (by omega), pv_up_ne (by omega), pv_up_ne (by omega), pv_up_ne (by omega)]
          exact hf x y np
        · simp (disch := omega) only [pu_ne]
          exact k1
        · simp (disch := omega) only [pu_ne]
          exact k2
        · by_cases e : j = i
          · subst e
            simp (disch := omega) only [pu_ne, pu_eq]
            exact ⟨trivial, trivial, trivial, trivial⟩
          · simp (disch := omega) only [pu_ne]
            exact h4 j (by omega)
  refine lp N 0 _ (by omega) (by omega) ?_ ?_ ?_ (fun j hj => absurd hj (Nat.not_lt_zero j))
  · refine (frz.rf.up ?_).up ?_ <;> unfold PTz <;> omega
  · simp (disch := omega) only [pu_ne, pu_eq]
  · simp (disch := omega) only [pu_ne, pu_eq]
/-- the class's ROD of its own, begun anew -/
theorem begin_C {r : Nat} {h : pv_H} (hN : 100 ≤ N) (h3 : 3 ≤ n) (h60 : n ≤ 60) : wpz (fX5_begin N r (n : Int) h) fun h' => (∀ x y, ¬ (r ≤ x ∧ x < r + 6) → h' x y = h x y) ∧ crz h' r n 0 (fun _ => 10) (fun _ => 100) (fun _ => 0) (fun _ => 0) := by
  have lp : ∀ (f i : Nat) (q : pv_H), i ≤ n → n < i + f → (∀ x y, ¬ (r ≤ x ∧ x < r + 6) → q x y = h x y) → q r 0 = (n : Int) → q r 1 = 0 → (∀ j, j < i → q (r + 1) j = 10 ∧ q (r + 2) j = 100 ∧ q (r + 3) j = 0 ∧ q (r + 4) j = 0 ∧ q (r + 5) j = shp n j) → wpz (fX5_begin_35 N r (n : Int) f (pv_w (pv_w ((n : Int) + 1) * pv_w ((n : Int) + 1))) (i : Int) q) fun h' => (∀ x y, ¬ (r ≤ x ∧ x < r + 6) → h' x y = h x y) ∧ crz h' r n 0 (fun _ => 10) (fun _ => 100) (fun _ => 0) (fun _ => 0) := by
    intro f
    induction f with
    | zero => intro i q h1 h2; omega
    | succ f ih =>
      intro i q h1 h2 hf k1 k2 h4
      rw [fX5_begin_35, k1]
      by_cases z : n ≤ i
      · rw [if_pos (by omega)]
        have : i = n := by omega
        subst this
        exact wp_some.mpr ⟨hf, k1, k2, h4⟩
      · have pos : 0 < ((n : Int) + 1) * ((n : Int) + 1) := Int.mul_pos (by omega) (by omega)
        have le : ((n : Int) + 1) * ((n : Int) + 1) ≤ 61 * ((n : Int) + 1) := Int.mul_le_mul_of_nonneg_right (by omega) (by omega)
        have nz : ¬ pv_w (pv_w ((n : Int) + 1) * pv_w ((n : Int) + 1)) = 0 := by
          rw [pv_w_id (x := (n : Int) + 1) (by omega) (by omega), pv_w_id (x := ((n : Int) + 1) * ((n : Int) + 1)) (by omega) (by omega)]
          omega
        have sw := shp_w h60 h3 (show i < n by omega)
        simp (disch := omega) only [if_neg, if_pos, bbs, tnc, pu_ne, k1]
        rw [sw, pws (i := i) (by omega)]
        refine ih (i + 1) _ (by omega) (by omega) (fun x y np => ?_) ?_ ?_ (fun j hj => ?_)
        · rw [pv_up_ne (by omega), pv_up_ne (by omega), pv_up_ne (by omega), pv_up_ne (by omega), pv_up_ne (by omega)]
          exact hf x y np
        · simp (disch := omega) only [pu_ne]
          exact k1
        · simp (disch := omega) only [pu_ne]
          exact k2
        · by_cases e : j = i
          · subst e
            simp (disch := omega) only [pu_ne, pu_eq]
            exact ⟨trivial, trivial, trivial, trivial, trivial⟩
          · simp (disch := omega) only [pu_ne]
            exact h4 j (by omega)
  unfold fX5_begin
  have em : min (max (n : Int) 0) 60 = (n : Int) := by omega
  simp (disch := omega) only [bbs, em, pu_ne, pu_eq]
  refine lp N 0 _ (by omega) (by omega) (fun x y np => ?_) ?_ ?_ (fun j hj => absurd hj (Nat.not_lt_zero j))
  · rw [pv_up_ne (by omega), pv_up_ne (by omega)]
  · simp (disch := omega) only [pu_ne, pu_eq]
  · simp (disch := omega) only [pu_ne, pu_eq]
theorem takeCell_C {r q i j : Nat} {h : pv_H} (hi : i < 60) (hj : j < 60) (hd : r + 6 ≤ q ∨ q + 6 ≤ r) : wpz (fX5_takeCell N r (i : Int) q (j : Int) h) fun h' => (∀ x y, ¬ (r + 1 ≤ x ∧ x ≤ r + 4 ∧ y = i) → h' x y = h x y) ∧ h' (r + 1) i = h (q + 1) j ∧ h' (r + 2) i = h (q + 2) j ∧ h' (r + 3) i = h (q + 3) j ∧ h' (r + 4) i = h (q + 4) j := by
  unfold fX5_takeCell
  simp (disch := omega) only [if_pos, bbs, tnc, pu_ne]
  refine wp_some.mpr ⟨fun x y np => ?_, ?_, ?_, ?_, ?_⟩
  · rw [pv_up_ne (by omega), pv_up_ne (by omega), pv_up_ne (by omega), pv_up_ne (by omega)]
  · simp (disch := omega) only [pu_ne, pu_eq]
  · simp (disch := omega) only [pu_ne, pu_eq]
  · simp (disch := omega) only [pu_ne, pu_eq]
  · simp (disch := omega) only [pu_ne, pu_eq]
end TAKE
theorem PTz_PM {x y : Nat} (h : PTz x y) : PMz x y := by
  unfold PTz at h
  unfold PMz
  omega
theorem s_cell : sm_cell SSz := by
  intro hc hm S a1 a2 a3 _ _ _
  refine two_th S fun hm S => ?_
  unfold fX9_cell
  by_cases hr : rodOk hm a1
  · obtain ⟨r1, r2, r3⟩ := id hr
    obtain ⟨a, rfl⟩ := Int.eq_ofNat_of_zero_le r1
    have r60 := S.r60 hr
    rw [tnc] at r3 r60
    have eo : pv_w (pv_w (242 * (a : Int)) + 0) = ((242 * a : Nat) : Int) := by rw [(ix242 r1 r2).1]; omega
    by_cases hce : cellOk hm (a : Int) a2
    · obtain ⟨_, q1, q2⟩ := id hce
      rw [tnc] at q2
      obtain ⟨i, rfl⟩ := Int.eq_ofNat_of_zero_le q1
      rw [hasCell_1 S hce, isRod_1 hr]
      by_cases hw : 0 ≤ a3 ∧ a3 ≤ 4
      · by_cases h4 : a3 = 4
        · subst h4
          obtain ⟨n, fl, st, sg, no, su, g, g99, c, v⟩ := S.rod2 hr
          have hn : hm 2 (242 * a) = (n : Int) := v.1
          have tk := takes_M (N := pv_NN) (by decide) (show a < 4 by omega) g.1 g.2.1 v
          rw [eo]
          simp (disch := omega) only [c1s, if_neg, if_pos, bbs, tnc, wn_1, pv_w_id]
          rw [(c.2.2 i (by omega)).2.2.2.2]
          refine wp_some.mpr ?_
          refine wp_c1I tk ?_
          rintro h' ⟨f1, f2⟩
          refine wp_some.mpr ⟨((f2.2.2 i (by omega)).2.2.2.2).symm, S.frz frz.rf (f1.mono fun x y q => PTz_PM q)⟩
        · obtain ⟨d1, d2, d3, d4, d5, d6⟩ := S.rodv (a := a) (by omega)
          obtain ⟨y1, y2, y3, y4, y5, y6, y7, y8, y9, y10, _⟩ := d6 i (by omega)
          have e1 : pv_w (pv_w (pv_w (pv_w (242 * (a : Int)) + 2) + pv_w (60 * a3)) + (i : Int)) = 242 * (a : Int) + 2 + 60 * a3 + (i : Int) := by
            rw [pv_w_id (x := 242 * (a : Int)) (by omega) (by omega), pv_w_id (x := 60 * a3) (by omega) (by omega), pv_w_id (x := 242 * (a : Int) + 2) (by omega) (by omega), pv_w_id (x := 242 * (a : Int) + 2 + 60 * a3) (by omega) (by omega), pv_w_id (by omega) (by omega)]
          have e2 : pv_w (((242 * a : Nat) : Int) - 0) = ((242 * a : Nat) : Int) := by rw [pv_w_id (by omega) (by omega)]; omega
          have hm1 : pv_w (hm 2 (242 * a) - 1) = hm 2 (242 * a) - 1 := pv_w_id (by omega) (by omega)
          have key : ∀ v : Int, v = hm 2 (Int.toNat (242 * (a : Int) + 2 + 60 * a3 + (i : Int))) → wpz (some (hc, v)) fun c => wpz (pv_c1 (some 1) fun r3 => if r3 = 0 then fX10_cell_49 pv_NN (a : Int) (i : Int) a3 hm else if 0 ≤ pv_w (pv_w (242 * (a : Int)) + 0) ∧ pv_w (pv_w (242 * (a : Int)) + 0) < 9159 then pv_c1 (fX10_within pv_NN (i : Int) 0 (pv_w (hm 2 (pv_w (pv_w (242 * (a : Int)) + 0)).toNat - 1)) hm) fun r7 => if r7 = 0 then fX10_cell_49 pv_NN (a : Int) (i : Int) a3 hm else pv_c1 (fX10_within pv_NN a3 0 4 hm) fun r10 => if r10 = 0 then fX10_cell_49 pv_NN (a : Int) (i : Int) a3 hm else if a3 = 4 then pv_c1 (fX10_takes pv_NN (a : Int) hm) fun h15 => if 0 ≤ (i : Int) ∧ (i : Int) < 60 then some (h15, h15 10 (i : Int).toNat) else none else if 0 ≤ pv_w (pv_w (pv_w (pv_w (242 * (a : Int)) + 2) + pv_w (60 * a3)) + (i : Int)) ∧ pv_w (pv_w (pv_w (pv_w (242 * (a : Int)) + 2) + pv_w (60 * a3)) + (i : Int)) < 9159 then some (hm, hm 2 (pv_w (pv_w (pv_w (pv_w (242 * (a : Int)) + 2) + pv_w (60 * a3)) + (i : Int))).toNat) else none else none) fun m => c.2 = m.2 ∧ SSz c.1 m.1 := by
            intro v hv
            rw [eo, e1]
            simp (disch := omega) only [c1s, if_neg, if_pos, tnc, wn_1, hm1]
            exact wend hv S
          have hh : a3 = 0 ∨ a3 = 1 ∨ a3 = 2 ∨ a3 = 3 := by omega
          rw [c1s, if_neg (by omega), if_neg (by omega), if_pos (by omega), if_pos (by omega), bbs, tnc]
          rcases hh with rfl | rfl | rfl | rfl
          · rw [if_pos rfl, if_pos (by omega), tnc]
            refine key _ ?_
            rw [y1]; congr 1 <;> omega
          · rw [if_neg (by omega), if_pos rfl, if_pos (by omega), tnc]
            refine key _ ?_
            rw [y4]; congr 1 <;> omega
          · rw [if_neg (by omega), if_neg (by omega), if_pos rfl, if_pos (by omega), tnc]
            refine key _ ?_
            rw [y7]; congr 1 <;> omega
          · rw [if_neg (by omega), if_neg (by omega), if_neg (by omega), if_pos rfl, if_pos (by omega), tnc]
            refine key _ ?_
            rw [y10]; congr 1 <;> omega
      · by_cases h5 : a3 < 0
        · rw [eo]
          simp (disch := omega) only [c1s, if_neg, if_pos, bbs, tnc, wn_1, wn_0, pv_w_id]
          exact no2 S
        · rw [eo]
          simp (disch := omega) only [c1s, if_neg, if_pos, bbs, tnc, wn_1, wn_0, pv_w_id]
          exact no2 S
    · have : ¬ (0 ≤ a2 ∧ a2 < hm 2 (242 * a)) := fun z => hce ⟨hr, z.1, by rw [tnc]; exact z.2⟩
      rw [hasCell_0 S hce, c1s, if_pos rfl, isRod_1 hr, c1s, if_neg (by omega), eo, if_pos (by omega), tnc, pv_w_id (x := hm 2 (242 * a) - 1) (by omega) (by omega), wn_0 (by omega), c1s, if_pos rfl]
      exact no2 S
  · rw [hasCell_0 S (fun z => hr z.1), c1s, if_pos rfl, isRod_0 hr, c1s, if_pos rfl]
    exact no2 S
theorem s_strength : sm_strength SSz := by
  intro hc hm S a1 a2 a3 _ _ _
  refine two_th S fun hm S => ?_
  unfold fX9_strength
  by_cases hr : rodOk hm a1
  · obtain ⟨r1, r2, r3⟩ := id hr
    obtain ⟨a, rfl⟩ := Int.eq_ofNat_of_zero_le r1
    have r60 := S.r60 hr
    rw [tnc] at r3 r60
    have eo : pv_w (pv_w (242 * (a : Int)) + 0) = ((242 * a : Nat) : Int) := by rw [(ix242 r1 r2).1]; omega
    by_cases hce : cellOk hm (a : Int) a2
    · obtain ⟨_, q1, q2⟩ := id hce
      rw [tnc] at q2
      obtain ⟨i, rfl⟩ := Int.eq_ofNat_of_zero_le q1
      rw [hasCell_1 S hce, isRod_1 hr]
      obtain ⟨n, fl, st, sg, no, su, g, g99, c, v⟩ := S.rod2 hr
      have hn : hm 2 (242 * a) = (n : Int) := v.1
      have tk := takes_M (N := pv_NN) (by decide) (show a < 4 by omega) g.1 g.2.1 v
      have dc := draw_C (N := pv_NN) (seed := a3) (to' := 105) (by decide) g c (by omega)
      rw [eo]
      simp (disch := omega) only [c1s, if_neg, if_pos, bbs, tnc, wn_1, pv_w_id]
      refine wp_c1I dc ?_
      rintro hc' ⟨c1, c2⟩
      refine wp_some.mpr ?_
      refine wp_c1I tk ?_
      rintro h' ⟨f1, f2⟩
      refine wp_c1I (draw_M (N := pv_NN) (seed := a3) (by decide) g f2) ?_
      rintro hm' ⟨d1, d2⟩
      refine wp_some.mpr ⟨?_, S.frz (fun x y np => c1 x y (by unfold PCz at np; omega)) ((f1.mono fun x y q => PTz_PM q).tr (fun x y np => d1 x y (by unfold PMz at np; omega)))⟩
      dsimp only
      rw [c2 i (by omega), d2 i (by omega)]
    · have : ¬ (0 ≤ a2 ∧ a2 < hm 2 (242 * a)) := fun z => hce ⟨hr, z.1, by rw [tnc]; exact z.2⟩
      rw [hasCell_0 S hce, c1s, if_pos rfl, isRod_1 hr, c1s, if_neg (by omega), eo, if_pos (by omega), tnc, pv_w_id (x := hm 2 (242 * a) - 1) (by omega) (by omega), wn_0 (by omega), c1s, if_pos rfl]
      exact no2 S
  · rw [hasCell_0 S (fun z => hr z.1), c1s, if_pos rfl, isRod_0 hr, c1s, if_pos rfl]
    exact no2 S
