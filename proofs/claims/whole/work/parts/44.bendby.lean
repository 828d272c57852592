/-! the class takes a ROD and bends it up to its first BREAK -/
/-- of numbers above 0 the greatest, the first of like ones: where (NONE: none), how much -/
def amz (ov : Nat → Int) : Nat → Int × Int
  | 0 => (-1, 0)
  | i + 1 => if (amz ov i).2 < ov i then ((i : Int), ov i) else amz ov i
theorem amz_p (ov : Nat → Int) : ∀ k : Nat, ((amz ov k).1 = -1 ∧ (amz ov k).2 = 0 ∧ ∀ i, i < k → ov i ≤ 0) ∨ (∃ c : Nat, c < k ∧ (amz ov k).1 = (c : Int) ∧ (amz ov k).2 = ov c ∧ 0 < ov c) := by
  intro k
  induction k with
  | zero => exact Or.inl ⟨rfl, rfl, fun i hi => absurd hi (Nat.not_lt_zero i)⟩
  | succ k ih =>
    rw [amz]
    by_cases q : (amz ov k).2 < ov k
    · rw [if_pos q]
      refine Or.inr ⟨k, by omega, rfl, rfl, ?_⟩
      rcases ih with ⟨_, h2, _⟩ | ⟨c, _, _, h3, h4⟩
      · omega
      · omega
    · rw [if_neg q]
      rcases ih with ⟨h1, h2, h3⟩ | ⟨c, h1, h2, h3, h4⟩
      · refine Or.inl ⟨h1, h2, fun i hi => ?_⟩
        by_cases e : i = k
        · subst e; omega
        · exact h3 i (by omega)
      · exact Or.inr ⟨c, by omega, h2, h3, h4⟩
theorem amz_b (ov : Nat → Int) (k : Nat) {B : Int} (hB : ∀ i, i < k → ov i ≤ B) (h0 : 0 ≤ B) : 0 ≤ (amz ov k).2 ∧ (amz ov k).2 ≤ B := by
  rcases amz_p ov k with ⟨_, h2, _⟩ | ⟨c, h1, _, h3, h4⟩
  · omega
  · have := hB c h1
    omega
section TB
variable {N r n : Nat} {st sg su lw : Nat → Int}
theorem crz.frm {h h' : pv_H} {fl : Int} {no : Nat → Int} (c : crz h r n fl st sg no su) (f : ∀ x y, r ≤ x → x < r + 6 → h' x y = h x y) : crz h' r n fl st sg no su := by
  obtain ⟨c1, c2, c3⟩ := c
  refine ⟨by rw [f _ _ (by omega) (by omega)]; exact c1, by rw [f _ _ (by omega) (by omega)]; exact c2, fun i hi => ?_⟩
  rw [f _ _ (by omega) (by omega), f _ _ (by omega) (by omega), f _ _ (by omega) (by omega), f _ _ (by omega) (by omega), f _ _ (by omega) (by omega)]
  exact c3 i hi
theorem grz.br {fl : Int} {no : Nat → Int} (g : grz n fl st sg no su) : brz n st sg su := by
  obtain ⟨g1, g2, g3, g4, g5⟩ := g
  refine ⟨g1, g2, fun i hi => ?_⟩
  have := g5 i hi
  omega
theorem take_C {h : pv_H} {fl seed : Int} {no : Nat → Int} (hN : 100 ≤ N) (g : grz n fl st sg no su) (l : lwB lw) (hr : r + 6 ≤ 78 ∨ 98 < r) (hm : r ∈ pv_l5) (c : crz h r n fl st sg no su) (hl : ∀ j, j < 8 → h 24 j = lw j) : wpz (fX1_take N r 23 seed h) fun h' => clz h' r n st sg su lw ∧ (∀ i, i < n → h' 92 i = spz fl sg no seed i) ∧ h' 79 0 = lw 2 - lw 3 ∧ Lz n (lw 7) st (spz fl sg no seed) (h' 78 5) ∧ ∀ x y, ¬ (x = 78 ∧ (y = 3 ∨ y = 4 ∨ y = 5) ∨ x = 79 ∧ y = 0 ∨ x = 92) → h' x y = h x y := by
  obtain ⟨_, _, _, _, l1, l2, l3, l4, _⟩ := id l
  unfold fX1_take
  simp only [bbs]
  have e2 : h (23 + 1) 2 = lw 2 := hl 2 (by omega)
  have e3 : h (23 + 1) 3 = lw 3 := hl 3 (by omega)
  have x1 : pv_up (pv_up h 78 3 ((r : Nat) : Int)) 78 4 ((23 : Nat) : Int) (23 + 1) 2 = lw 2 := by simp (disch := omega) only [pu_ne]; exact e2
  have x2 : pv_up (pv_up h 78 3 ((r : Nat) : Int)) 78 4 ((23 : Nat) : Int) (23 + 1) 3 = lw 3 := by simp (disch := omega) only [pu_ne]; exact e3
  rw [x1, x2, pv_w_id (x := lw 2 - lw 3) (by omega) (by omega)]
  refine wp_c1I (draw_C (seed := seed) (to' := 92) hN g (c.frm (fun x y z1 z2 => by simp (disch := omega) only [pu_ne])) (by omega)) ?_
  rintro h1 ⟨d1, d2⟩
  have f0 : ∀ x y, ¬ (x = 78 ∧ (y = 3 ∨ y = 4 ∨ y = 5) ∨ x = 79 ∧ y = 0 ∨ x = 92) → h1 x y = h x y := fun x y np => by
    rw [d1 _ _ (by omega), pv_up_ne (by omega), pv_up_ne (by omega), pv_up_ne (by omega)]
  have cl0 : clz h1 r n st sg su lw := by
    obtain ⟨c1, c2, c3⟩ := c
    refine ⟨?_, hm, by omega, ?_, fun i hi => ?_, ?_, fun j hj => ?_⟩
    · rw [d1 _ _ (by omega), pv_up_ne (by omega), pv_up_ne (by omega), pv_up_self]
    · rw [f0 _ _ (by omega)]; exact c1
    · rw [f0 _ _ (by omega), f0 _ _ (by omega), f0 _ _ (by omega), f0 _ _ (by omega)]
      obtain ⟨e1, e2, e3, e4, e5⟩ := c3 i hi
      exact ⟨e1, e2, e4, e5⟩
    · rw [d1 _ _ (by omega), pv_up_ne (by omega), pv_up_self]; rfl
    · rw [f0 _ _ (by omega)]; exact hl j hj
  refine wp_c1I (btb_C hN g.br l cl0 (str := spz fl sg no seed) d2 (fun i hi => spz_b g hi) (i := 0) (by have := g.br.1; omega)) ?_
  rintro H ⟨H1, H2, H3⟩
  have f1 : ∀ x y, ¬ (x = 78 ∧ (y = 3 ∨ y = 4 ∨ y = 5) ∨ x = 79 ∧ y = 0 ∨ x = 92) → pv_up h1 78 5 H x y = h x y := fun x y np => by
    rw [pv_up_ne (by omega), f0 x y np]
  have cl : clz (pv_up h1 78 5 H) r n st sg su lw := cl0.frm (fun x y n1 n2 => pv_up_ne (by omega))
  have st92 : ∀ i, i < n → pv_up h1 78 5 H 92 i = spz fl sg no seed i := fun i hi => by rw [pv_up_ne (by omega)]; exact d2 i hi
  have hI : 1 ≤ pv_up h1 78 5 H 78 5 ∧ pv_up h1 78 5 H 78 5 ≤ 3000000 ∧ ∀ b, 0 ≤ b → (b < pv_up h1 78 5 H 78 5 ↔ ∀ i, i < 1 → ldz n (lw 7) st i b ≤ spz fl sg no seed i) := by
    rw [pv_up_self]
    refine ⟨H1, H2, fun b hb => ?_⟩
    rw [H3 b hb]
    constructor
    · intro q i hi
      have : i = 0 := by omega
      subst this
      exact q
    · intro q
      exact q 0 (by omega)
  refine wp_mono (take_l hN g.br l (by omega) cl st92 (fun i hi => spz_b g hi) N 1 _ (by have := g.br.1; omega) (by have := g.2.1; omega) (fun x y _ => rfl) (Or.inr hI)) ?_
  rintro h' ⟨t1, t2⟩
  refine ⟨cl.frm (fun x y n1 n2 => t1 x y (by omega)), fun i hi => ?_, ?_, t2, fun x y np => ?_⟩
  · rw [t1 _ _ (by omega)]; exact st92 i hi
  · rw [t1 _ _ (by omega), pv_up_ne (by omega), d1 _ _ (by omega), pv_up_self]
  · rw [t1 _ _ (by omega)]; exact f1 x y np
theorem ffc_C {h : pv_H} {str : Nat → Int} {bend : Int} (hN : 100 ≤ N) (g : brz n st sg su) (l : lwB lw) (c : clz h r n st sg su lw) (hs : ∀ i, i < n → h 92 i = str i) (hs2 : ∀ i, i < n → 1 ≤ str i ∧ str i ≤ 999) (eb : h 80 5 = bend) (b0 : 0 ≤ bend) (b1 : bend ≤ 237600) (e6 : h 78 6 = -1) : wpz (fX1_findFirstCell N h) fun h' => h' 78 6 = (amz (fun i => ldz n (lw 7) st i bend - str i) n).1 ∧ (∀ i, i < n → h' 93 i = ldz n (lw 7) st i bend) ∧ ∀ x y, ¬ (x = 78 ∧ y = 6 ∨ x = 93) → h' x y = h x y := by
  have lp : ∀ (f i : Nat) (q : pv_H), i ≤ n → n < i + f → (∀ x y, ¬ (x = 78 ∧ y = 6 ∨ x = 93) → q x y = h x y) → q 78 6 = (amz (fun i => ldz n (lw 7) st i bend - str i) i).1 → (∀ j, j < i → q 93 j = ldz n (lw 7) st j bend) → wpz (fX1_findFirstCell_4 N f (amz (fun i => ldz n (lw 7) st i bend - str i) i).2 (i : Int) q) fun h' => h' 78 6 = (amz (fun i => ldz n (lw 7) st i bend - str i) n).1 ∧ (∀ i, i < n → h' 93 i = ldz n (lw 7) st i bend) ∧ ∀ x y, ¬ (x = 78 ∧ y = 6 ∨ x = 93) → h' x y = h x y := by
    intro f
    induction f with
    | zero => intro i q h1 h2; omega
    | succ f ih =>
      intro i q h1 h2 hf h6 h93
      have c' : clz q r n st sg su lw := c.frm (fun x y n1 n2 => hf x y (by omega))
      obtain ⟨r1, r2⟩ := rod_g c'
      have q0 : q r 0 = (n : Int) := c'.2.2.2.1
      have q5 : q 80 5 = bend := by rw [hf _ _ (by omega)]; exact eb
      rw [fX1_findFirstCell_4, if_pos r1, bbs, r2, q0]
      by_cases z : n ≤ i
      · rw [if_pos (by omega)]
        have : i = n := by omega
        subst this
        exact wp_some.mpr ⟨h6, h93, hf⟩
      · have hi : i < n := by omega
        have n60 := g.2.1
        have lb := ld_b (st := st) (sg := sg) (su := su) g l hi b0
        have sb := hs2 i hi
        have q92 : q 92 i = str i := by rw [hf _ _ (by omega)]; exact hs i hi
        rw [if_neg (by omega), q5, load_C g l c' hi b0 (by omega), c1s]
        simp (disch := omega) only [if_pos, tnc, bbs, pu_eq, pu_ne, q92]
        rw [pv_w_id (x := ldz n (lw 7) st i bend - str i) (by omega) (by omega)]
        unfold fX1_findFirstCell_71
        have am : amz (fun i => ldz n (lw 7) st i bend - str i) (i + 1) = if (amz (fun i => ldz n (lw 7) st i bend - str i) i).2 < ldz n (lw 7) st i bend - str i then ((i : Int), ldz n (lw 7) st i bend - str i) else amz (fun i => ldz n (lw 7) st i bend - str i) i := rfl
        by_cases z2 : ldz n (lw 7) st i bend - str i ≤ (amz (fun i => ldz n (lw 7) st i bend - str i) i).2
        · rw [if_neg (by omega)] at am
          rw [if_pos z2, bbs, pws (by omega)]
          have := ih (i + 1) (pv_up q 93 i (ldz n (lw 7) st i bend)) (by omega) (by omega) (fun x y np => by rw [pv_up_ne (by omega)]; exact hf x y np) (by rw [am, pv_up_ne (by omega)]; exact h6) (fun j hj => by
            by_cases e : j = i
            · subst e; rw [pv_up_self]
            · rw [pv_up_ne (by omega)]; exact h93 j (by omega))
          rw [am] at this
          exact this
        · rw [if_pos (by omega)] at am
          rw [if_neg z2, bbs, pws (by omega)]
          have := ih (i + 1) (pv_up (pv_up q 93 i (ldz n (lw 7) st i bend)) 78 6 (i : Int)) (by omega) (by omega) (fun x y np => by rw [pv_up_ne (by omega), pv_up_ne (by omega)]; exact hf x y np) (by rw [am, pv_up_self]) (fun j hj => by
            rw [pv_up_ne (by omega)]
            by_cases e : j = i
            · subst e; rw [pv_up_self]
            · rw [pv_up_ne (by omega)]; exact h93 j (by omega))
          rw [am] at this
          exact this
  exact lp N 0 h (by omega) (by have := g.2.1; omega) (fun x y _ => rfl) e6 (fun j hj => absurd hj (Nat.not_lt_zero j))
/-- what the class holds ready for its WAVES: BEND and TURN as the TICKS below last are over (bd, tn) -/
def rdz (h : pv_H) (n : Nat) (st lw str bd tn : Nat → Int) (last : Nat) : Prop :=
  ∃ (L : Int) (T : Nat), Lz n (lw 7) st str L ∧ T ≤ last ∧ (∀ k, k < T → bd k < L) ∧ (T < last ∧ L ≤ bd T ∧ h 78 7 = (T : Int) ∧ h 78 6 = (amz (fun i => ldz n (lw 7) st i (bd T) - str i) n).1 ∧ h 80 5 = bd T ∧ h 80 6 = tn T ∧ (∀ i, i < n → h 93 i = ldz n (lw 7) st i (bd T)) ∨ T = last ∧ h 78 6 = -1 ∧ h 80 4 = (last : Int) ∧ h 80 5 = (if last = 0 then 0 else bd (last - 1)) ∧ h 80 6 = (if last = 0 then 0 else tn (last - 1)))
theorem bendBy_C {h : pv_H} {str : Nat → Int} {d m : Nat} {K U T : Nat → Int} {p : Int} (hN : 100 ≤ N) (g : brz n st sg su) (l : lwB lw) (c : clz h r n st sg su lw) (hs : ∀ i, i < n → h 92 i = str i) (hs2 : ∀ i, i < n → 1 ≤ str i ∧ str i ≤ 999) (hL : Lz n (lw 7) st str (h 78 5)) (hd : d + 4 ≤ 78 ∨ 98 < d) (cd : cvz h d m K U T) (gd : gdz K U T) (hp : 1 ≤ p) (hp2 : p ≤ 9) {last : Nat} (el : (last : Int) = min (tbz (fun j => T j * p) m) 4000) : wpz (fX1_bendBy N d p h) fun h' => rdz h' n st lw str (fun t => bbz K (fun j => U j / p) (fun j => T j * p) m ((t : Int) + 1)) (fun t => btz K (fun j => U j / p) (fun j => T j * p) m ((t : Int) + 1)) last ∧ h' 78 5 = h 78 5 ∧ ∀ x y, ¬ (x = 78 ∧ (y = 6 ∨ y = 7) ∨ x = 80 ∧ (y = 4 ∨ y = 5 ∨ y = 6) ∨ x = 93) → h' x y = h x y := by
  have hF := gd_F (p := p) gd hp
  have hB := gd_B (p := p) gd hp
  obtain ⟨L1, L2, L3⟩ := id hL
  unfold fX1_bendBy
  refine wp_c1I (tob_C hN cd gd hp hp2 L1 L2) ?_
  intro t ht
  have tb : -1 ≤ t ∧ t < 4000 := by
    rcases ht with ⟨a, _⟩ | ⟨a, b, _⟩ <;> omega
  simp (disch := omega) only [bbs, pu_ne, pu_eq]
  rw [pv_w_id (x := t + 1) (by omega) (by omega)]
  have cd' : ∀ h', (∀ x y, ¬ (x = 78 ∧ (y = 6 ∨ y = 7) ∨ x = 80 ∧ (y = 4 ∨ y = 5 ∨ y = 6) ∨ x = 93) → h' x y = h x y) → cvz h' d m K U T := by
    intro h' f
    obtain ⟨c1, c2, c3⟩ := cd
    refine ⟨by rw [f _ _ (by omega)]; exact c1, c2, fun j hj => ?_⟩
    rw [f _ _ (by omega), f _ _ (by omega), f _ _ (by omega)]
    exact c3 j hj
  have main : ∀ over : Int, 0 ≤ over → over ≤ 4000 → (t = -1 → over = (last : Int)) → (t ≠ -1 → over = t + 1) → wpz (fX1_bendBy_46 N d p over (pv_up (pv_up h 78 7 t) 78 6 (-1))) fun h' => rdz h' n st lw str (fun t => bbz K (fun j => U j / p) (fun j => T j * p) m ((t : Int) + 1)) (fun t => btz K (fun j => U j / p) (fun j => T j * p) m ((t : Int) + 1)) last ∧ h' 78 5 = h 78 5 ∧ ∀ x y, ¬ (x = 78 ∧ (y = 6 ∨ y = 7) ∨ x = 80 ∧ (y = 4 ∨ y = 5 ∨ y = 6) ∨ x = 93) → h' x y = h x y := by
    intro over o1 o2 o3 o4
    unfold fX1_bendBy_46 fX1_bendBy_99
    simp only [bbs]
    rw [bend_C hN (cd' _ (fun x y np => by simp (disch := omega) only [pu_ne])) gd hp hp2 o1 (by omega), c1s, turn_C hN (cd' _ (fun x y np => by simp (disch := omega) only [pu_ne])) gd hp hp2 o1 (by omega), c1s]
    simp (disch := omega) only [pu_ne, pu_eq]
    by_cases z : t = -1
    · rw [if_pos z]
      have ov := o3 z
      rcases ht with ⟨_, h2⟩ | ⟨a, _⟩
      · refine wp_some.mpr ⟨⟨h 78 5, last, hL, Nat.le_refl _, fun k hk => h2 k (by omega) (by omega), Or.inr ⟨rfl, ?_, ?_, ?_, ?_⟩⟩, ?_, fun x y np => ?_⟩
        · simp (disch := omega) only [pu_ne, pu_eq]
        · simp (disch := omega) only [pu_ne, pu_eq]
          exact ov
        · simp (disch := omega) only [pu_ne, pu_eq]
          by_cases l0 : last = 0
          · rw [if_pos l0, ov, l0]
            exact bb_0 hF
          · rw [if_neg l0, ov]
            congr 1; omega
        · simp (disch := omega) only [pu_ne, pu_eq]
          by_cases l0 : last = 0
          · rw [if_pos l0, ov, l0]
            exact bt_0 hF
          · rw [if_neg l0, ov]
            congr 1; omega
        · simp (disch := omega) only [pu_ne]
        · simp (disch := omega) only [pu_ne]
      · omega
    · rw [if_neg z]
      have ov := o4 z
      rcases ht with ⟨a, _⟩ | ⟨h1, h2, h3, h4, h5⟩
      · omega
      · obtain ⟨T', rfl⟩ := Int.eq_ofNat_of_zero_le h1
        have bb := bb_b (K := K) hF hB m ((T' : Int) + 1)
        have m12 := cd.2.1
        refine wp_c1I (ffc_C (bend := bbz K (fun j => U j / p) (fun j => T j * p) m ((T' : Int) + 1)) hN g l (c.frm (fun x y n1 n2 => ?_)) (fun i hi => ?_) hs2 ?_ bb.1 (by omega) ?_) ?_
        · simp (disch := omega) only [pu_ne]
        · simp (disch := omega) only [pu_ne]
          exact hs i hi
        · simp (disch := omega) only [pu_ne, pu_eq, ov]
        · simp (disch := omega) only [pu_ne, pu_eq]
        · rintro h' ⟨k1, k2, k3⟩
          refine wp_some.mpr ⟨⟨h 78 5, T', hL, by omega, fun k hk => h5 k (by omega) (by omega), Or.inl ⟨by omega, h4, ?_, k1, ?_, ?_, k2⟩⟩, ?_, fun x y np => ?_⟩
          · rw [k3 _ _ (by omega)]
            simp (disch := omega) only [pu_ne, pu_eq]
          · rw [k3 _ _ (by omega)]
            simp (disch := omega) only [pu_ne, pu_eq, ov]
          · rw [k3 _ _ (by omega)]
            simp (disch := omega) only [pu_eq, ov]
          · rw [k3 _ _ (by omega)]
            simp (disch := omega) only [pu_ne]
          · rw [k3 _ _ (by omega)]
            simp (disch := omega) only [pu_ne]
  by_cases z : t = -1
  · have tn := tb_nn (F := T) (fun j => (gd j).2.2.2.2.1) m
    have t24 := tb_2400 gd m
    have m12 := cd.2.1
    have tbp := tb_p (T := T) (p := p) m
    have tb9 : tbz T m * p ≤ tbz T m * 9 := Int.mul_le_mul_of_nonneg_left hp2 (by omega)
    have tb0 : 0 ≤ tbz T m * p := Int.mul_nonneg (by omega) (by omega)
    rw [if_pos z, ticks_C hN (cd' _ (fun x y np => by simp (disch := omega) only [pu_ne])) gd, c1s, pv_w_id (x := tbz T m * p) (by omega) (by omega)]
    exact main _ (by omega) (by omega) (fun _ => by omega) (fun q => absurd z q)
  · rw [if_neg z]
    exact main _ (by omega) (by omega) (fun q => absurd q z) (fun _ => rfl)
end TB
