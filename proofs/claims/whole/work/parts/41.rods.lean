/-! RODS in numbers: shapes, strengths -/
def grz (n : Nat) (fl : Int) (st sg no su : Nat → Int) : Prop := 3 ≤ n ∧ n ≤ 60 ∧ 0 ≤ fl ∧ fl ≤ 99 ∧ ∀ i, i < n → 1 ≤ st i ∧ st i ≤ 198 ∧ 1 ≤ sg i ∧ sg i ≤ 999 ∧ 0 ≤ no i ∧ no i ≤ 99 ∧ 0 ≤ su i ∧ su i ≤ 2
/-- a ROD of the class (at r) -/
def crz (h : pv_H) (r n : Nat) (fl : Int) (st sg no su : Nat → Int) : Prop := h r 0 = (n : Int) ∧ h r 1 = fl ∧ ∀ i, i < n → h (r + 1) i = st i ∧ h (r + 2) i = sg i ∧ h (r + 3) i = no i ∧ h (r + 4) i = su i ∧ h (r + 5) i = shp n i
/-- a ROD of the reference's tables (at o) -/
def vrz (h : pv_H) (o n : Nat) (fl : Int) (st sg no su : Nat → Int) : Prop := h 2 o = (n : Int) ∧ h 2 (o + 1) = fl ∧ ∀ i, i < n → h 2 (o + 2 + i) = st i ∧ h 2 (o + 62 + i) = sg i ∧ h 2 (o + 122 + i) = no i ∧ h 2 (o + 182 + i) = su i
/-- the ROD that the reference has taken up -/
def mrz (h : pv_H) (n : Nat) (fl : Int) (st sg no su : Nat → Int) : Prop := h 0 19 = (n : Int) ∧ h 0 20 = fl ∧ ∀ i, i < n → h 6 i = st i ∧ h 7 i = sg i ∧ h 8 i = no i ∧ h 9 i = su i ∧ h 10 i = shp n i
theorem SSz.rod2 {hc hm : pv_H} (S : SSz hc hm) {a : Nat} (h : rodOk hm (a : Int)) : ∃ (n : Nat) (fl : Int) (st sg no su : Nat → Int), grz n fl st sg no su ∧ (∀ i, i < n → st i ≤ 99) ∧ crz hc (35 + 6 * a) n fl st sg no su ∧ vrz hm (242 * a) n fl st sg no su := by
  obtain ⟨h1, h2, h3⟩ := h
  rw [tnc] at h3
  obtain ⟨d1, d2, d3, d4, d5, d6⟩ := S.rodv (a := a) (by omega)
  obtain ⟨n, en⟩ := Int.eq_ofNat_of_zero_le (show 0 ≤ hm 2 (242 * a) by omega)
  refine ⟨n, hm 2 (242 * a + 1), fun i => hm 2 (242 * a + 2 + i), fun i => hm 2 (242 * a + 62 + i), fun i => hm 2 (242 * a + 122 + i), fun i => hm 2 (242 * a + 182 + i), ⟨by omega, by omega, d4, d5, fun i hi => ?_⟩, fun i hi => ?_, ⟨by rw [d1, en], d2, fun i hi => ?_⟩, ⟨en, rfl, fun i hi => ⟨rfl, rfl, rfl, rfl⟩⟩⟩
  · have := d6 i (by omega)
    dsimp only
    omega
  · have := d6 i (by omega)
    dsimp only
    omega
  · obtain ⟨a1, a2, a3, a4, a5, a6, a7, a8, a9, a10, a11, a12, a13⟩ := d6 i (by omega)
    exact ⟨a1, a4, a7, a10, by rw [a13, en]⟩
theorem shp_b {n i : Nat} (hn : n ≤ 60) (h3 : 3 ≤ n) (hi : i < n) : 1 ≤ shp n i ∧ shp n i ≤ 100 ∧ 0 ≤ ((i : Int) + 1) * ((n : Int) - i) ∧ ((i : Int) + 1) * ((n : Int) - i) ≤ 3600 := by
  have hx : ∀ x y : Int, 1 ≤ x → 1 ≤ y → x + y ≤ 61 → x + y - 1 ≤ x * y ∧ 4 * (x * y) ≤ (x + y) * (x + y) ∧ 0 ≤ x * y ∧ x * y ≤ 3600 := by
    intro x y h1 h2 h3
    have a1 : 0 ≤ (x - 1) * (y - 1) := Int.mul_nonneg (by omega) (by omega)
    have a2 : (x - 1) * (y - 1) = x * y - x - y + 1 := by
      rw [Int.sub_mul, Int.mul_sub, Int.mul_one, Int.one_mul]; omega
    have a3 : 0 ≤ (x - y) * (x - y) := by
      by_cases q : y ≤ x
      · exact Int.mul_nonneg (by omega) (by omega)
      · have := Int.mul_nonneg (show 0 ≤ y - x by omega) (show 0 ≤ y - x by omega)
        have e : (x - y) * (x - y) = (y - x) * (y - x) := by
          have : x - y = -(y - x) := by omega
          rw [this, Int.neg_mul_neg]
        omega
    have a4 : (x - y) * (x - y) = x * x - 2 * (x * y) + y * y := by
      rw [Int.sub_mul, Int.mul_sub, Int.mul_sub, Int.mul_comm y x]; omega
    have a5 : (x + y) * (x + y) = x * x + 2 * (x * y) + y * y := by
      rw [Int.add_mul, Int.mul_add, Int.mul_add, Int.mul_comm y x]; omega
    have a6 : x * y ≤ 60 * y := Int.mul_le_mul_of_nonneg_right (by omega) (by omega)
    exact ⟨by omega, by omega, Int.mul_nonneg (by omega) (by omega), by omega⟩
  obtain ⟨b1, b2, b3, b4⟩ := hx ((i : Int) + 1) ((n : Int) - i) (by omega) (by omega) (by omega)
  have e : (i : Int) + 1 + ((n : Int) - i) = (n : Int) + 1 := by omega
  rw [e] at b1 b2
  have sq : ((n : Int) + 1) * ((n : Int) + 1) ≤ 400 * (n : Int) := by
    have hq : ∀ m : Nat, m ≤ 60 → 3 ≤ m → ((m : Int) + 1) * ((m : Int) + 1) ≤ 400 * (m : Int) := by
      intro m hm h3
      have : ((m : Int) + 1) * ((m : Int) + 1) ≤ 61 * ((m : Int) + 1) := Int.mul_le_mul_of_nonneg_right (by omega) (by omega)
      omega
    exact hq n hn h3
  have pos : 0 < ((n : Int) + 1) * ((n : Int) + 1) := Int.mul_pos (by omega) (by omega)
  unfold shp
  refine ⟨?_, ?_, b3, b4⟩
  · refine Int.le_ediv_of_mul_le pos ?_
    omega
  · refine Int.le_of_lt_add_one (Int.ediv_lt_of_lt_mul pos ?_)
    omega
/-! DRAWS -/
def drz (seed : Int) : Nat → Int
  | 0 => seed
  | i + 1 => pv_w (pv_w (1103515245 * drz seed i) + 12345)
/-- STRENGTH of a cell -/
def spz (fl : Int) (sg no : Nat → Int) (seed : Int) (i : Nat) : Int := max 1 (sg i * (100 - no i) / 100 - (if 0 < fl then pv_ushr (drz seed (i + 1)) 16 % (fl + 1) else 0))
theorem ushr_b (x : Int) : 0 ≤ pv_ushr x 16 ∧ pv_ushr x 16 ≤ 65535 := by
  unfold pv_ushr
  generalize Int32.ofInt x = X
  have e : (X.toUInt32 >>> ((Int32.ofInt 16).toUInt32 &&& Int32.toUInt32 31)).toInt32.toInt = (X.toBitVec >>> 16).toInt := rfl
  rw [e]
  have h : (X.toBitVec >>> 16).toNat ≤ 65535 := by
    rw [BitVec.toNat_ushiftRight, Nat.shiftRight_eq_div_pow]
    have := X.toBitVec.isLt
    omega
  rw [BitVec.toInt_eq_toNat_of_lt (by omega)]
  omega
theorem sg_b {s o : Int} (h1 : 1 ≤ s) (h2 : s ≤ 999) (h3 : 0 ≤ o) (h4 : o ≤ 99) : 0 ≤ s * (100 - o) ∧ s * (100 - o) ≤ 99900 ∧ 0 ≤ s * (100 - o) / 100 ∧ s * (100 - o) / 100 ≤ 999 := by
  have a1 : 0 ≤ s * (100 - o) := Int.mul_nonneg (by omega) (by omega)
  have a2 : s * (100 - o) ≤ s * 100 := Int.mul_le_mul_of_nonneg_left (by omega) (by omega)
  omega
theorem spz_b {n : Nat} {fl seed : Int} {st sg no su : Nat → Int} (g : grz n fl st sg no su) {i : Nat} (hi : i < n) : 1 ≤ spz fl sg no seed i ∧ spz fl sg no seed i ≤ 999 := by
  obtain ⟨g1, g2, g3, g4, g5⟩ := g
  obtain ⟨a1, a2, a3, a4, a5, a6, a7, a8⟩ := g5 i hi
  have := sg_b a3 a4 a5 a6
  unfold spz
  have b := ushr_b (drz seed (i + 1))
  by_cases q : 0 < fl
  · rw [if_pos q]
    have := Int.emod_nonneg (pv_ushr (drz seed (i + 1)) 16) (show fl + 1 ≠ 0 by omega)
    omega
  · rw [if_neg q]; omega
section DRAWN
variable {N n : Nat} {fl seed : Int} {st sg no su : Nat → Int}
theorem draw_C {r to' : Nat} {h : pv_H} (hN : 100 ≤ N) (g : grz n fl st sg no su) (c : crz h r n fl st sg no su) (hd : to' < r ∨ r + 6 ≤ to') : wpz (fX5_drawStrengths N r seed to' h) fun h' => (∀ x y, x ≠ to' → h' x y = h x y) ∧ ∀ i, i < n → h' to' i = spz fl sg no seed i := by
  obtain ⟨g1, g2, g3, g4, g5⟩ := id g
  obtain ⟨c1, c2, c3⟩ := c
  have lp : ∀ (f i : Nat) (q : pv_H), i ≤ n → n < i + f → (∀ x y, x ≠ to' → q x y = h x y) → (∀ j, j < i → q to' j = spz fl sg no seed j) → wpz (fX5_drawStrengths_17 N r seed to' f (if 0 < fl then drz seed i else seed) (fl + 1) (i : Int) q) fun h' => (∀ x y, x ≠ to' → h' x y = h x y) ∧ ∀ i, i < n → h' to' i = spz fl sg no seed i := by
    intro f
    induction f with
    | zero => intro i q h1 h2; omega
    | succ f ih =>
      intro i q h1 h2 h3 h4
      have k1 : q r 0 = (n : Int) := by rw [h3 _ _ (by omega)]; exact c1
      have k2 : q r 1 = fl := by rw [h3 _ _ (by omega)]; exact c2
      rw [fX5_drawStrengths_17, k1, k2]
      unfold fX5_drawStrengths_99
      by_cases z : n ≤ i
      · rw [if_pos (by omega)]
        have : i = n := by omega
        subst this
        exact wp_some.mpr ⟨h3, h4⟩
      · rw [if_neg (by omega), if_neg (by omega)]
        obtain ⟨e1, e2, e3, e4, e5⟩ := c3 i (by omega)
        have k3 : q (r + 2) i = sg i := by rw [h3 _ _ (by omega)]; exact e2
        have k4 : q (r + 3) i = no i := by rw [h3 _ _ (by omega)]; exact e3
        obtain ⟨a1, a2, a3, a4, a5, a6, a7, a8⟩ := g5 i (by omega)
        have sb := sg_b a3 a4 a5 a6
        have step : ∀ x v : Int, 0 ≤ v → v ≤ 65535 → spz fl sg no seed i = max 1 (sg i * (100 - no i) / 100 - v) → x = (if 0 < fl then drz seed (i + 1) else seed) → wpz (fX5_drawStrengths_61 N (fun v3_ v4_ v5_ hh => fX5_drawStrengths_17 N r seed to' f v3_ v4_ v5_ hh) r seed to' x (fl + 1) (i : Int) v q) fun h' => (∀ x y, x ≠ to' → h' x y = h x y) ∧ ∀ i, i < n → h' to' i = spz fl sg no seed i := by
          intro x v v1 v2 hv hx
          unfold fX5_drawStrengths_61
          rw [if_pos (by omega), if_pos (by omega), if_pos (by omega), tnc, k3, k4, pv_w_id (x := 100 - no i) (by omega) (by omega), pv_w_id (x := sg i * (100 - no i)) (by omega) (by omega), tdn sb.1, pv_w_id (x := sg i * (100 - no i) / 100) (by omega) (by omega), pv_w_id (x := sg i * (100 - no i) / 100 - v) (by omega) (by omega), ← hv, bbs, bbs, pws (by omega), hx]
          refine ih (i + 1) _ (by omega) (by omega) (fun x y nx => ?_) (fun j hj => ?_)
          · rw [pv_up_ne (Or.inl nx)]; exact h3 x y nx
          · by_cases e : j = i
            · subst e; rw [pv_up_self]
            · rw [pv_up_ne (Or.inr e)]; exact h4 j (by omega)
        by_cases z2 : fl ≤ 0
        · rw [if_pos z2, if_neg (by omega)]
          refine step seed 0 (by omega) (by omega) ?_ (by rw [if_neg (by omega)])
          unfold spz
          rw [if_neg (by omega)]
        · rw [if_neg z2, if_pos (by omega), bbs, if_pos (by omega)]
          have ub := ushr_b (drz seed (i + 1))
          have em : pv_w (Int.tmod (pv_ushr (drz seed (i + 1)) 16) (fl + 1)) = pv_ushr (drz seed (i + 1)) 16 % (fl + 1) := by
            rw [tmn ub.1]
            have m1 := Int.emod_nonneg (pv_ushr (drz seed (i + 1)) 16) (show fl + 1 ≠ 0 by omega)
            have m2 := Int.emod_lt_of_pos (pv_ushr (drz seed (i + 1)) 16) (show 0 < fl + 1 by omega)
            exact pv_w_id (by omega) (by omega)
          have m1 := Int.emod_nonneg (pv_ushr (drz seed (i + 1)) 16) (show fl + 1 ≠ 0 by omega)
          have m2 := Int.emod_lt_of_pos (pv_ushr (drz seed (i + 1)) 16) (show 0 < fl + 1 by omega)
          have ed : pv_w (pv_w (1103515245 * drz seed i) + 12345) = drz seed (i + 1) := rfl
          rw [ed, em, bbs]
          refine step _ _ (by omega) (by omega) ?_ (by rw [if_pos (by omega)])
          unfold spz
          rw [if_pos (by omega)]
  unfold fX5_drawStrengths
  have e : pv_w (max (h r 1) 0 + 1) = fl + 1 := by rw [c2, pv_w_id (by omega) (by omega)]; omega
  rw [bbs, e]
  have := lp N 0 h (by omega) (by omega) (fun x y _ => rfl) (fun j hj => absurd hj (Nat.not_lt_zero j))
  have e0 : (if 0 < fl then drz seed 0 else seed) = seed := ite_self _
  rw [e0] at this
  exact this
theorem draw_M {h : pv_H} (hN : 100 ≤ N) (g : grz n fl st sg no su) (c : mrz h n fl st sg no su) : wpz (fX10_draws N seed h) fun h' => (∀ x y, x ≠ 11 → h' x y = h x y) ∧ ∀ i, i < n → h' 11 i = spz fl sg no seed i := by
  obtain ⟨g1, g2, g3, g4, g5⟩ := id g
  obtain ⟨c1, c2, c3⟩ := c
  have lp : ∀ (f i : Nat) (q : pv_H), i ≤ n → n < i + f → (∀ x y, x ≠ 11 → q x y = h x y) → (∀ j, j < i → q 11 j = spz fl sg no seed j) → wpz (fX10_draws_4 N seed f (if 0 < fl then drz seed i else seed) (i : Int) q) fun h' => (∀ x y, x ≠ 11 → h' x y = h x y) ∧ ∀ i, i < n → h' 11 i = spz fl sg no seed i := by
    intro f
    induction f with
    | zero => intro i q h1 h2; omega
    | succ f ih =>
      intro i q h1 h2 h3 h4
      have k1 : q 0 19 = (n : Int) := by rw [h3 _ _ (by omega)]; exact c1
      have k2 : q 0 20 = fl := by rw [h3 _ _ (by omega)]; exact c2
      rw [fX10_draws_4, k1, k2]
      by_cases z : n ≤ i
      · rw [if_pos (by omega)]
        have : i = n := by omega
        subst this
        exact wp_some.mpr ⟨h3, h4⟩
      · obtain ⟨e1, e2, e3, e4, e5⟩ := c3 i (by omega)
        have k3 : q 7 i = sg i := by rw [h3 _ _ (by omega)]; exact e2
        have k4 : q 8 i = no i := by rw [h3 _ _ (by omega)]; exact e3
        obtain ⟨a1, a2, a3, a4, a5, a6, a7, a8⟩ := g5 i (by omega)
        have sb := sg_b a3 a4 a5 a6
        rw [if_neg (by omega), if_pos (by omega), if_pos (by omega), tnc, k3, k4, pv_w_id (x := 100 - no i) (by omega) (by omega), pv_w_id (x := sg i * (100 - no i)) (by omega) (by omega), tdn sb.1, pv_w_id (x := sg i * (100 - no i) / 100) (by omega) (by omega), bbs]
        have step : ∀ x v : Int, spz fl sg no seed i = max 1 v → x = (if 0 < fl then drz seed (i + 1) else seed) → wpz (fX10_draws_66 N (fun v2_ v3_ hh => fX10_draws_4 N seed f v2_ v3_ hh) seed x (i : Int) v q) fun h' => (∀ x y, x ≠ 11 → h' x y = h x y) ∧ ∀ i, i < n → h' 11 i = spz fl sg no seed i := by
          intro x v hv hx
          have st83 : ∀ w : Int, w = spz fl sg no seed i → wpz (fX10_draws_83 N (fun v2_ v3_ hh => fX10_draws_4 N seed f v2_ v3_ hh) seed x (i : Int) w (i : Int) q) fun h' => (∀ x y, x ≠ 11 → h' x y = h x y) ∧ ∀ i, i < n → h' 11 i = spz fl sg no seed i := by
            intro w hw
            unfold fX10_draws_83
            rw [if_pos (by omega), tnc, bbs, bbs, pws (by omega), hx]
            refine ih (i + 1) _ (by omega) (by omega) (fun x y nx => ?_) (fun j hj => ?_)
            · rw [pv_up_ne (Or.inl nx)]; exact h3 x y nx
            · by_cases e : j = i
              · subst e; rw [pv_up_self, hw]
              · rw [pv_up_ne (Or.inr e)]; exact h4 j (by omega)
          unfold fX10_draws_66
          by_cases z3 : 1 ≤ v
          · rw [if_pos z3]
            exact st83 _ (by omega)
          · rw [if_neg z3]
            exact st83 _ (by omega)
        by_cases z2 : fl ≤ 0
        · rw [if_pos z2, if_neg (by omega)]
          refine step seed _ ?_ (by rw [if_neg (by omega)])
          unfold spz
          rw [if_neg (by omega), Int.sub_zero]
        · have ub := ushr_b (drz seed (i + 1))
          have m1 := Int.emod_nonneg (pv_ushr (drz seed (i + 1)) 16) (show fl + 1 ≠ 0 by omega)
          have m2 := Int.emod_lt_of_pos (pv_ushr (drz seed (i + 1)) 16) (show 0 < fl + 1 by omega)
          have ed : pv_w (pv_w (1103515245 * drz seed i) + 12345) = drz seed (i + 1) := rfl
          rw [if_neg z2, if_pos (show 0 < fl by omega), bbs, ed, pv_w_id (x := fl + 1) (by omega) (by omega), if_pos (by omega), tmn ub.1, pv_w_id (x := pv_ushr (drz seed (i + 1)) 16 % (fl + 1)) (by omega) (by omega), pv_w_id (by omega) (by omega), bbs]
          refine step _ _ ?_ (by rw [if_pos (by omega)])
          unfold spz
          rw [if_pos (by omega)]
  unfold fX10_draws
  have := lp N 0 h (by omega) (by omega) (fun x y _ => rfl) (fun j hj => absurd hj (Nat.not_lt_zero j))
  have e0 : (if 0 < fl then drz seed 0 else seed) = seed := ite_self _
  rw [e0] at this
  exact this
end DRAWN
