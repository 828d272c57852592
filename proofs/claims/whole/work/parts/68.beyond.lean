/-! BEYOND: what holds from WAVE to WAVE; the call -/
def ALz (n c nw : Nat) (hc hm : pv_H) : Prop :=
  (∀ i, i < n → hm 18 i = 0) ∧ (∀ i, i < n → hc 95 i = 0 ∨ hc 95 i = 1) ∧ hm 17 c = 1 ∧ (∀ i, i < n → i ≠ c → hm 17 i = 0) ∧ (hm 25 0 = (c : Int) ∧ hm 26 0 = 0 ∧ hm 29 0 = 0 ∧ hm 25 1 = (c : Int) ∧ hm 26 1 = 1 ∧ hm 29 1 = 0) ∧ (hm 19 0 = 1 → 0 ≤ hc 97 0 ∧ hc 97 0 ≤ (c : Int) ∧ ∀ i, i < n → (i : Int) < hc 97 0 → hc 95 i = 0) ∧ (hm 19 1 = 1 → (c : Int) ≤ hc 97 1 ∧ hc 97 1 ≤ (n : Int) - 1 ∧ ∀ i, i < n → hc 97 1 < (i : Int) → hc 95 i = 0) ∧ ∀ w, 2 ≤ w → w < nw → hm 29 w = 1 ∧ (hm 19 w = 1 → (hm 26 w = 1 ∧ ¬ hm 19 0 = 1 ∧ -1 ≤ hc 97 w ∧ hc 97 w < (c : Int)) ∨ (hm 26 w = 0 ∧ ¬ hm 19 1 = 1 ∧ (c : Int) < hc 97 w ∧ hc 97 w ≤ (n : Int)))
theorem ALz.frm {n c nw : Nat} {hc hm hc' hm' : pv_H} (A : ALz n c nw hc hm) (f : ∀ x y, x = 95 ∨ x = 97 → hc' x y = hc x y) (g : ∀ x y, x = 17 ∨ x = 18 ∨ x = 19 ∨ x = 25 ∨ x = 26 ∨ x = 29 → hm' x y = hm x y) : ALz n c nw hc' hm' := by
  have e95 : ∀ i, hc' 95 i = hc 95 i := fun i => f _ _ (by omega)
  have e97 : ∀ i, hc' 97 i = hc 97 i := fun i => f _ _ (by omega)
  have e17 : ∀ i, hm' 17 i = hm 17 i := fun i => g _ _ (by omega)
  have e18 : ∀ i, hm' 18 i = hm 18 i := fun i => g _ _ (by omega)
  have e19 : ∀ i, hm' 19 i = hm 19 i := fun i => g _ _ (by omega)
  have e25 : ∀ i, hm' 25 i = hm 25 i := fun i => g _ _ (by omega)
  have e26 : ∀ i, hm' 26 i = hm 26 i := fun i => g _ _ (by omega)
  have e29 : ∀ i, hm' 29 i = hm 29 i := fun i => g _ _ (by omega)
  unfold ALz at A ⊢
  simp only [e95, e97, e17, e18, e19, e25, e26, e29]
  exact A
def JAz (r n c : Nat) (st sg su lw str : Nat → Int) (bend off : Int) (hc0 hm0 : pv_H) (last : Nat → Int) (nw ng : Nat) (hc hm : pv_H) : Prop := STz r n st sg su lw str bend off 1 hc hm ∧ BRz n 1 hc hm ∧ WRz nw ng hc hm ∧ GWz (lw 2) n nw last hc hm ∧ 2 ≤ nw ∧ ALz n c nw hc hm ∧ GRz n str hc hm ∧ (∀ x y, ¬ DCz x y → hc x y = hc0 x y) ∧ ∀ x y, ¬ DMz x y → ¬ (x = 0 ∧ y = 41) → hm x y = hm0 x y
section ALONE
variable {N r n v c nw ng : Nat} {st sg su lw str bd tn : Nat → Int} {bend off tk a3 : Int} {last : Nat → Int} {hc hm hc0 hm0 : pv_H}
theorem JA_ok (l : lwB lw) : JOK n (lw 2) (JAz r n c st sg su lw str bend off hc0 hm0) := by
  have l2 : 1 ≤ lw 2 ∧ lw 2 ≤ 9 := by obtain ⟨_, _, _, _, l3, l4, _⟩ := l; exact ⟨l3, l4⟩
  refine ⟨fun last nw ng hc hm J => J.2.2.1, fun last nw ng hc hm J => J.2.2.2.1, l2.1, l2.2, fun last last' nw ng hc hm e J => ?_, fun last nw ng ng' hc hc' hm J f e le => ?_, fun last nw ng hc hm J => J.1.2.1.2.2 2 (by omega), fun last nw ng hc hm hm' J g => ?_, fun last nw ng hc hm J => ?_⟩
  · obtain ⟨j1, j2, j3, j4, j5, j6, j7, j8, j9⟩ := J
    refine ⟨j1, j2, j3, fun w hw go => ?_, j5, j6, j7, j8, j9⟩
    have := j4 w hw go
    rw [e w hw go] at this
    exact this
  · obtain ⟨j1, j2, j3, j4, j5, j6, j7, j8, j9⟩ := J
    have F : ∀ x y, ¬ DCz x y → hc' x y = hc x y := fun x y np => f x y (by unfold DCz at np; omega) (by unfold DCz at np; omega)
    refine ⟨j1.frm F (fun _ _ _ => rfl), j2.frm (fun x y q => f x y (by unfold BCz at q; omega) (by unfold BCz at q; omega)) (fun _ _ _ => rfl), ?_, fun w hw go => ?_, j5, j6.frm (fun x y q => f x y (by omega) (by omega)) (fun _ _ _ => rfl), j7.frm (fun x y q => f x y (by omega) (by omega)) (fun _ _ _ => rfl), fun x y np => by rw [F x y np]; exact j8 x y np, j9⟩
    · obtain ⟨w1, w2, w3, w4, w5, w6⟩ := j3
      refine ⟨by rw [f _ _ (by omega) (by omega)]; exact w1, w2, w3, e, le, fun w hw => ?_⟩
      rw [f _ _ (by omega) (by omega), f _ _ (by omega) (by omega), f _ _ (by omega) (by omega), f _ _ (by omega) (by omega), f _ _ (by omega) (by omega), f _ _ (by omega) (by omega)]
      exact w6 w hw
    · rw [f _ _ (by omega) (by omega), f _ _ (by omega) (by omega)]
      exact j4 w hw go
  · obtain ⟨j1, j2, j3, j4, j5, j6, j7, j8, j9⟩ := J
    refine ⟨?_, j2.frm (fun _ _ _ => rfl) (fun x y q => g x y (by unfold BMz at q; omega)), j3.frm (fun _ _ _ => rfl) (fun x y q => g x y (by unfold FMz at q; omega)), fun w hw go => ?_, j5, j6.frm (fun _ _ _ => rfl) (fun x y q => g x y (by omega)), j7.frm (fun _ _ _ => rfl) (fun x y q => g x y (by omega)), j8, fun x y n1 n2 => by rw [g x y n2]; exact j9 x y n1 n2⟩
    · obtain ⟨s1, s2, s3, s4, s5, s6, s7⟩ := j1
      refine ⟨s1, s2.fr2 (fun x y q => g x y (by omega)), fun i hi => ?_, s4, s5, by rw [g _ _ (by omega)]; exact s6, by rw [g _ _ (by omega)]; exact s7⟩
      rw [g 11 i (by omega)]
      exact s3 i hi
    · rw [g 19 w (by omega)] at go
      rw [g 31 w (by omega), g 27 w (by omega), g 26 w (by omega), g 25 w (by omega)]
      exact j4 w hw go
  · rw [J.2.1.2.1]
    omega
theorem step_A (hN : 100 ≤ N) (gb : brz n st sg su) (l : lwB lw) (b0 : 0 ≤ bend) (b1 : bend ≤ 237600) (hs2 : ∀ i, i < n → 1 ≤ str i ∧ str i ≤ 999) (hcn : c < n) (J : JAz r n c st sg su lw str bend off hc0 hm0 last nw ng hc hm) (hv : v < nw) (go : hm 19 v = 1) (hl : last v = tk - lw 2) (t0 : 0 ≤ tk) (t2 : tk ≤ 4000) (ta : 0 ≤ a3) (tb : a3 ≤ 300000) (eo : off = if lw 3 ≤ lw 2 then a3 * lw 4 / 100 else 0) : ∃ (hc' hm' : pv_H) (rr : Int) (nw' ng' : Nat), fX1_goesOn N (v : Int) tk hc = some (hc', rr) ∧ fX10_comes N (v : Int) tk a3 hm = some hm' ∧ SWz (lw 2) tk n v nw ng nw' ng' last rr hc hm hc' hm' ∧ JAz r n c st sg su lw str bend off hc0 hm0 (fun w => if w = v ∨ nw ≤ w then tk else last w) nw' ng' hc' hm' ∧ hm' 0 41 = hm 0 41 ∧ hm' 0 37 = hm 0 37 := by
  obtain ⟨S, B, W, G, nw2, A, R, F0, G0⟩ := J
  have n60 := gb.2.1
  have l2 : 1 ≤ lw 2 := by obtain ⟨_, _, _, _, l3, l4, _⟩ := l; exact l3
  obtain ⟨q, at', s, q0, eq, r0, r1, eC, eM, e⟩ := enter_2 (N := N) (a3 := a3) hv W G l S.2.1 n60 go hl t2
  rw [eC, eM]
  obtain ⟨a18, a95, a17, an17, ⟨k0, k1, k2, k3, k4, k5⟩, aL, aR, aE⟩ := id A
  obtain ⟨g1, g2, g3, ⟨q', p1, p2, p3, p4⟩, g5, g6, g7, g8⟩ := G v hv go
  have wv := W.2.2.2.2.2 v hv
  have c7 : hm 26 v = 0 ∨ hm 26 v = 1 := wv.2.2.2.2.2.2.1
  have qq : q = q' + 1 := by
    have h1 : lw 2 * q = lw 2 * (q' + 1) := by rw [Int.mul_add, Int.mul_one]; omega
    exact Int.eq_of_mul_eq_mul_left (show lw 2 ≠ 0 by omega) h1
  have at0 : hm 26 v = 0 → at' = hc 97 v - 1 := fun z => by
    have := p3 z
    have := (r0 z).1
    omega
  have at1 : hm 26 v = 1 → at' = hc 97 v + 1 := fun z => by
    have := p4 z
    have := (r1 z).1
    omega
  have pos : (v = 0 ∧ hm 26 v = 0 ∧ hm 29 v = 0 ∧ -1 ≤ at' ∧ at' < (c : Int) ∧ at' = hc 97 v - 1) ∨ (v = 1 ∧ hm 26 v = 1 ∧ hm 29 v = 0 ∧ (c : Int) < at' ∧ at' ≤ (n : Int) ∧ at' = hc 97 v + 1) ∨ (2 ≤ v ∧ hm 29 v = 1 ∧ ((hm 26 v = 1 ∧ ¬ hm 19 0 = 1 ∧ 0 ≤ at' ∧ at' ≤ (c : Int)) ∨ (hm 26 v = 0 ∧ ¬ hm 19 1 = 1 ∧ (c : Int) ≤ at' ∧ at' ≤ (n : Int) - 1))) := by
    rcases (show v = 0 ∨ v = 1 ∨ 2 ≤ v by omega) with z | z | z
    · subst z
      obtain ⟨u1, u2, _⟩ := aL go
      have := at0 k1
      exact Or.inl ⟨rfl, k1, k2, by omega, by omega, this⟩
    · subst z
      obtain ⟨u1, u2, _⟩ := aR go
      have := at1 k4
      exact Or.inr (Or.inl ⟨rfl, k4, k5, by omega, by omega, this⟩)
    · obtain ⟨u1, u2⟩ := aE v z hv
      refine Or.inr (Or.inr ⟨z, u1, ?_⟩)
      rcases u2 go with ⟨y1, y2, y3, y4⟩ | ⟨y1, y2, y3, y4⟩
      · have := at1 y1
        exact Or.inl ⟨y1, y2, by omega, by omega⟩
      · have := at0 y1
        exact Or.inr ⟨y1, y2, by omega, by omega⟩
  by_cases out : at' < 0 ∨ (n : Int) ≤ at' ∨ 0 ≤ at' ∧ at' < n ∧ hm 17 at'.toNat = 1
  · obtain ⟨hc', hm', x1, x2, nw', ng', x3, F, F2, nx, kp⟩ := step_out0 (N := N) (a3 := a3) hv W G l S B n60 go t0 t2 (fun z => ⟨(r0 z).2.1, (r0 z).2.2⟩) (fun z => ⟨(r1 z).2.1, (r1 z).2.2⟩) e out
    obtain ⟨y1, y2, y3, y4, y5, y6, y7, y8, y9⟩ := id x3
    have out' : at' < 0 ∨ (n : Int) ≤ at' ∨ 0 ≤ at' ∧ at' < n ∧ hc 94 at'.toNat = 1 := by
      rcases out with z | z | ⟨z1, z2, z3⟩
      · exact Or.inl z
      · exact Or.inr (Or.inl z)
      · exact Or.inr (Or.inr ⟨z1, z2, by rw [(B.2.2.2.1 at'.toNat (by omega)).1]; exact z3⟩)
    have new : nw' = nw ∨ nw' = nw + 1 ∧ ¬ hm 29 v = 1 ∧ hm' 26 nw = 1 - hm 26 v ∧ hm' 29 nw = 1 ∧ hc' 97 nw = at' := by
      rcases nx with z | ⟨z1, z2, z3, z4⟩
      · exact Or.inl z
      · refine Or.inr ⟨z1, fun y => ?_, z3, z4, ?_⟩
        · have w200 := W.2.2.1
          have ee := out_echo (N := N) (tk := tk) (v := v) (by omega) S.1 l n60 y out' g1 g2 g3
          rw [x1] at ee
          have eh : hc' = pv_up hc 97 v at' := congrArg Prod.fst (Option.some.inj ee)
          have u1 : hc' 80 2 = (nw : Int) := by rw [eh, pv_up_ne (by omega)]; exact W.1
          have u2 := y3.1
          omega
        · obtain ⟨u1, u2, u3⟩ := y6 nw (Nat.le_refl _) (by omega)
          obtain ⟨_, _, _, ⟨q2, h1, h2, h3, h4⟩, _⟩ := y9 nw (by omega) u2
          dsimp only at h2
          rw [if_pos (Or.inr (Nat.le_refl _)), u3] at h2
          have q20 : q2 = 0 := by
            have h5 : lw 2 * q2 = 0 := by omega
            rcases Int.mul_eq_zero.mp h5 with y | y
            · omega
            · exact y
          rcases (y3.2.2.2.2.2 nw (by omega)).2.2.2.2.2.2.1 with y | y
          · rw [h3 y, z2, q20, Int.sub_zero]
          · rw [h4 y, z2, q20, Int.add_zero]
    have m95 : ∀ i, hc' 95 i = hc 95 i := fun i => F _ _ (by unfold FCz; omega)
    have m18 : ∀ i, hm' 18 i = hm 18 i := fun i => F2 _ _ (by unfold FMz; omega)
    have m17 : ∀ i, hm' 17 i = hm 17 i := fun i => F2 _ _ (by unfold FMz; omega)
    have nn : ∀ w, w < nw → ¬ hm 19 w = 1 → ¬ hm' 19 w = 1 := fun w hw y => by
      by_cases ev : w = v
      · subst ev; omega
      · rw [(y8 w hw).2 ev]; exact y
    refine ⟨hc', hm', 0, nw', ng', x1, x2, x3, ⟨S.frm (fun x y np => F x y (by unfold DCz at np; unfold FCz; omega)) (fun x y np => F2 x y (by unfold DMz at np; unfold FMz; omega)), B.frm (fun x y q => F x y (by unfold BCz at q; unfold FCz; omega)) (fun x y q => F2 x y (by unfold BMz at q; unfold FMz; omega)), y3, y9, by omega, ⟨fun i hi => by rw [m18]; exact a18 i hi, fun i hi => by rw [m95]; exact a95 i hi, by rw [m17]; exact a17, fun i hi ne => by rw [m17]; exact an17 i hi ne, ?_, fun y => ?_, fun y => ?_, fun w w2 hw => ?_⟩, R.frm (fun x y z => F x y (by unfold FCz; omega)) (fun x y z => F2 x y (by unfold FMz; omega)), fun x y np => ?_, fun x y n1 n2 => ?_⟩, F2 _ _ (by unfold FMz; omega), F2 _ _ (by unfold FMz; omega)⟩
    · obtain ⟨u1, u2, u3, _⟩ := kp 0 (by omega)
      obtain ⟨v1, v2, v3, _⟩ := kp 1 (by omega)
      rw [u1, u2, u3, v1, v2, v3]
      exact ⟨k0, k1, k2, k3, k4, k5⟩
    · have n0 : (0 : Nat) ≠ v := fun z => by subst z; omega
      obtain ⟨_, _, _, u4, _⟩ := kp 0 (by omega)
      rw [(y8 0 (by omega)).2 n0] at y
      obtain ⟨h1, h2, h3⟩ := aL y
      rw [u4 n0]
      exact ⟨h1, h2, fun i hi lt => by rw [m95]; exact h3 i hi lt⟩
    · have n0 : (1 : Nat) ≠ v := fun z => by subst z; omega
      obtain ⟨_, _, _, u4, _⟩ := kp 1 (by omega)
      rw [(y8 1 (by omega)).2 n0] at y
      obtain ⟨h1, h2, h3⟩ := aR y
      rw [u4 n0]
      exact ⟨h1, h2, fun i hi lt => by rw [m95]; exact h3 i hi lt⟩
    · by_cases hw' : w < nw
      · obtain ⟨u1, u2, u3, u4, u5⟩ := kp w hw'
        obtain ⟨h1, h2⟩ := aE w w2 hw'
        refine ⟨by rw [u3]; exact h1, fun y => ?_⟩
        by_cases ev : w = v
        · subst ev; omega
        · rw [(y8 w hw').2 ev] at y
          rw [u2, u4 ev]
          rcases h2 y with ⟨z1, z2, z3, z4⟩ | ⟨z1, z2, z3, z4⟩
          · exact Or.inl ⟨z1, nn 0 (by omega) z2, z3, z4⟩
          · exact Or.inr ⟨z1, nn 1 (by omega) z2, z3, z4⟩
      · rcases new with z | ⟨z1, z2, z3, z4, z5⟩
        · omega
        · have ew : w = nw := by omega
          subst ew
          refine ⟨z4, fun _ => ?_⟩
          rw [z3, z5]
          rcases pos with ⟨h1, h2, h3, h4, h5, h6⟩ | ⟨h1, h2, h3, h4, h5, h6⟩ | ⟨h1, h2, h3⟩
          · left
            have h7 : at' < 0 := by
              rcases out with y | y | ⟨y1, y2, y3⟩
              · exact y
              · omega
              · have := an17 at'.toNat (by omega) (by omega)
                omega
            subst h1
            exact ⟨by omega, by omega, by omega, by omega⟩
          · right
            subst h1
            exact ⟨by omega, by omega, by omega, by omega⟩
          · exact absurd h2 z2
    · rw [F x y (by unfold DCz at np; unfold FCz; omega)]; exact F0 x y np
    · rw [F2 x y (by unfold DMz at n1; unfold FMz; omega)]; exact G0 x y n1 n2
  · obtain ⟨i, rfl⟩ := Int.eq_ofNat_of_zero_le (show 0 ≤ at' by omega)
    rw [tnc] at out
    have hi : i < n := by omega
    have nb0 := (B.2.2.2.1 i hi).2
    have nbr : hm 17 i = 0 := by omega
    have ic : i ≠ c := fun z => by subst z; omega
    have ne : ¬ hm 29 v = 1 → hc 95 i = 0 := fun y => by
      rcases pos with ⟨h1, h2, h3, h4, h5, h6⟩ | ⟨h1, h2, h3, h4, h5, h6⟩ | ⟨h1, h2, h3⟩
      · subst h1
        exact (aL go).2.2 i hi (by omega)
      · subst h1
        exact (aR go).2.2 i hi (by omega)
      · exact absurd h2 y
    obtain ⟨hc', hm', rr, x1, x2, x3, RR, x95, x97, F, F2⟩ := step_al (N := N) (a3 := a3) hN hv W G gb l b0 b1 hs2 S B go t0 t2 ta tb eo q0 eq hi (fun z => (r0 z).1) (fun z => (r1 z).1) e nbr (a18 i hi) (a95 i hi) ne R
    obtain ⟨y1, y2, y3, y4, y5, y6, y7, y8, y9⟩ := id x3
    have m95 : ∀ j, j ≠ i → hc' 95 j = hc 95 j := fun j nj => F _ _ (by omega)
    have m97 : ∀ w, w ≠ v → hc' 97 w = hc 97 w := fun w nj => F _ _ (by omega)
    have m25 : ∀ w, hm' 25 w = hm 25 w := fun w => F2 _ _ (by omega)
    have m26 : ∀ w, hm' 26 w = hm 26 w := fun w => F2 _ _ (by omega)
    have m29 : ∀ w, hm' 29 w = hm 29 w := fun w => F2 _ _ (by omega)
    have m17 : ∀ w, hm' 17 w = hm 17 w := fun w => F2 _ _ (by omega)
    have m18 : ∀ w, hm' 18 w = hm 18 w := fun w => F2 _ _ (by omega)
    have nn : ∀ w, w < nw → ¬ hm 19 w = 1 → ¬ hm' 19 w = 1 := fun w hw y => by
      by_cases ev : w = v
      · subst ev; omega
      · rw [(y8 w hw).2 ev]; exact y
    refine ⟨hc', hm', rr, nw, ng, x1, x2, x3, ⟨S.frm (fun x y np => F x y (by unfold DCz at np; omega)) (fun x y np => F2 x y (by unfold DMz at np; omega)), B.frm (fun x y q => F x y (by unfold BCz at q; omega)) (fun x y q => F2 x y (by unfold BMz at q; omega)), y3, y9, nw2, ⟨fun j hj => by rw [m18]; exact a18 j hj, fun j hj => ?_, by rw [m17]; exact a17, fun j hj ne => by rw [m17]; exact an17 j hj ne, ?_, fun y => ?_, fun y => ?_, fun w w2 hw => ?_⟩, RR, fun x y np => ?_, fun x y n1 n2 => ?_⟩, F2 _ _ (by omega), F2 _ _ (by omega)⟩
    · by_cases ej : j = i
      · subst ej; exact x95
      · rw [m95 j ej]; exact a95 j hj
    · rw [m25, m26, m29, m25, m26, m29]
      exact ⟨k0, k1, k2, k3, k4, k5⟩
    · by_cases n0 : (0 : Nat) = v
      · subst n0
        obtain ⟨h1, h2, h3⟩ := aL go
        rw [x97]
        rcases pos with ⟨_, z2, z3, z4, z5, z6⟩ | ⟨z1, _⟩ | ⟨z1, _⟩
        · refine ⟨by omega, by omega, fun j hj lt => ?_⟩
          rw [m95 j (by omega)]
          exact h3 j hj (by omega)
        · omega
        · omega
      · rw [(y8 0 (by omega)).2 n0] at y
        obtain ⟨h1, h2, h3⟩ := aL y
        rw [m97 0 n0]
        refine ⟨h1, h2, fun j hj lt => ?_⟩
        rw [m95 j (fun ej => by
          subst ej
          rcases pos with ⟨z1, _⟩ | ⟨z1, z2, z3, z4, z5, z6⟩ | ⟨z1, z2, z3 | z3⟩
          · omega
          · omega
          · exact z3.2.1 y
          · omega)]
        exact h3 j hj lt
    · by_cases n0 : (1 : Nat) = v
      · subst n0
        obtain ⟨h1, h2, h3⟩ := aR go
        rw [x97]
        rcases pos with ⟨z1, _⟩ | ⟨_, z2, z3, z4, z5, z6⟩ | ⟨z1, _⟩
        · omega
        · refine ⟨by omega, by omega, fun j hj lt => ?_⟩
          rw [m95 j (by omega)]
          exact h3 j hj (by omega)
        · omega
      · rw [(y8 1 (by omega)).2 n0] at y
        obtain ⟨h1, h2, h3⟩ := aR y
        rw [m97 1 n0]
        refine ⟨h1, h2, fun j hj lt => ?_⟩
        rw [m95 j (fun ej => by
          subst ej
          rcases pos with ⟨z1, z2, z3, z4, z5, z6⟩ | ⟨z1, _⟩ | ⟨z1, z2, z3 | z3⟩
          · omega
          · omega
          · omega
          · exact z3.2.1 y)]
        exact h3 j hj lt
    · obtain ⟨h1, h2⟩ := aE w w2 hw
      refine ⟨by rw [m29]; exact h1, fun y => ?_⟩
      rw [m26]
      by_cases ev : w = v
      · subst ev
        rw [x97]
        rcases pos with ⟨z1, _⟩ | ⟨z1, _⟩ | ⟨_, z2, z3 | z3⟩
        · omega
        · omega
        · exact Or.inl ⟨z3.1, nn 0 (by omega) z3.2.1, by omega, by omega⟩
        · exact Or.inr ⟨z3.1, nn 1 (by omega) z3.2.1, by omega, by omega⟩
      · rw [(y8 w hw).2 ev] at y
        rw [m97 w ev]
        rcases h2 y with ⟨z1, z2, z3, z4⟩ | ⟨z1, z2, z3, z4⟩
        · exact Or.inl ⟨z1, nn 0 (by omega) z2, z3, z4⟩
        · exact Or.inr ⟨z1, nn 1 (by omega) z2, z3, z4⟩
    · rw [F x y (by unfold DCz at np; omega)]; exact F0 x y np
    · rw [F2 x y (by unfold DMz at n1; omega)]; exact G0 x y n1 n2
theorem run_A {last : Nat} (hN : 10000 ≤ N) (gb : brz n st sg su) (l : lwB lw) (hs2 : ∀ i, i < n → 1 ≤ str i ∧ str i ≤ 999) (RC : RDC hc r n st sg su lw str bd tn last) (RM : RDM hm n st sg su lw str bd tn last) (e43 : hm 0 43 = 1) : ∃ (hc' hm' : pv_H) (np : Nat), fX1_sendWaves N (-1) 1 hc = some (hc', (np : Int)) ∧ fX10_runs N (-1) hm = some hm' ∧ hm' 0 42 = (np : Int) ∧ GRz n str hc' hm' ∧ (∀ i, i < n → hc' 92 i = str i) ∧ (∀ x y, ¬ RCz x y → hc' x y = hc x y) ∧ ∀ x y, ¬ RMz x y → hm' x y = hm x y := by
  have n3 := gb.1
  have n60 := gb.2.1
  have l2 : 1 ≤ lw 2 ∧ lw 2 ≤ 9 := by obtain ⟨_, _, _, _, l3, l4, _⟩ := l; exact ⟨l3, l4⟩
  have s92 := RC.2.1
  have fin : ∀ (hcE hmE : pv_H), fX1_sendWaves N (-1) 1 hc = fX1_sendWaves_219 N (-1) 1 hcE → fX10_runs N (-1) hm = fX10_runs_338 N (-1) hmE → clz hcE r n st sg su lw → mlz hmE n st sg su lw → (∀ i, i < n → hcE 94 i = hmE 17 i ∧ (hmE 17 i = 0 ∨ hmE 17 i = 1)) → (∀ i, i < n → hcE 95 i = 0 ∨ hcE 95 i = 1) → GRz n str hcE hmE → (∀ x y, ¬ RCz x y → hcE x y = hc x y) → (∀ x y, ¬ RMz x y → hmE x y = hm x y) → ∃ (hc' hm' : pv_H) (np : Nat), fX1_sendWaves N (-1) 1 hc = some (hc', (np : Int)) ∧ fX10_runs N (-1) hm = some hm' ∧ hm' 0 42 = (np : Int) ∧ GRz n str hc' hm' ∧ (∀ i, i < n → hc' 92 i = str i) ∧ (∀ x y, ¬ RCz x y → hc' x y = hc x y) ∧ ∀ x y, ¬ RMz x y → hm' x y = hm x y := by
    intro hcE hmE eC eM c m b94 b95 R F G
    obtain ⟨hc', hm', np, x1, x2, x3, x4, x5, x6, x7, x8, x9, x10⟩ := count_2 (N := N) (n := n) (r := r) (by omega) n3 n60 c.1 c.2.1 c.2.2.1 c.2.2.2.1 m.1 b94 b95
    have F' : ∀ x y, ¬ RCz x y → hc' x y = hc x y := fun x y np' => by rw [x9 x y (by unfold RCz at np'; omega) (by unfold RCz at np'; omega), F x y np']
    have G' : ∀ x y, ¬ RMz x y → hm' x y = hm x y := fun x y np' => by rw [x10 x y (by unfold RMz at np'; omega) (by unfold RMz at np'; omega), G x y np']
    refine ⟨hc', hm', np, ?_, ?_, x6, R.frm (fun x y z => x9 x y (by omega) (by omega)) (fun x y z => x10 x y (by omega) (by omega)), fun i hi => by rw [F' _ _ (by unfold RCz DCz; omega)]; exact s92 i hi, F', G'⟩
    · rw [eC]
      unfold fX1_sendWaves_219
      rw [x1, c1s, x5]
    · rw [eM]
      unfold fX10_runs_338
      rw [x2, c1s]
  obtain ⟨hcA, hmA, F, G, H⟩ := prel_2 (N := N) (a1 := -1) hN gb l hs2 RC RM e43 (Or.inr rfl) (Or.inl rfl)
  rcases H with ⟨eC, eM, c, m, L, B, W, _, _, _, _, z1, z2, z3⟩ | ⟨T, c, off, a3, t4, n78, eC, eM, q41, ea, a30, a31, eo, b0, b1, q5, q6, BG⟩
  · exact fin hcA hmA eC eM c m B.2.2.2.1 (fun i hi => by have := L.1 i hi; omega) (Or.inl ⟨z1, z2, z3⟩) F G
  · obtain ⟨S, L, B, W, G0, gz, z18, hcn, z17, zo, ⟨w0, w1, w2, w3, w4, w5, w6, w7⟩, z1, z2, z3⟩ := BG
    have K := JA_ok (n := n) (r := r) (c := c) (st := st) (sg := sg) (su := su) (str := str) (bend := bd T) (off := off) (hc0 := hcA) (hm0 := hmA) l
    have el : (T : Int) + lw 2 - lw 2 = T := by omega
    have AL : ALz n c 2 hcA hmA := by
      refine ⟨z18, fun i hi => by have := L.1 i hi; omega, z17, zo, ⟨w0, w1, w2, w4, w5, w6⟩, fun y => ?_, fun y => ?_, fun w h1 h2 => by omega⟩
      · obtain ⟨_, _, _, ⟨q, h1, h2, h3, h4⟩, g5, g6, _⟩ := G0 0 (by omega) y
        have u1 := h3 w1
        have u2 := g5 w1
        exact ⟨u2.1, by omega, fun i hi _ => by rw [(L.1 i hi).1]; exact z18 i hi⟩
      · obtain ⟨_, _, _, ⟨q, h1, h2, h3, h4⟩, g5, g6, _⟩ := G0 1 (by omega) y
        have u1 := h4 w5
        have u2 := g6 w5
        exact ⟨by omega, u2.2, fun i hi _ => by rw [(L.1 i hi).1]; exact z18 i hi⟩
    obtain ⟨hc1, hm1, nw', ng', e, last', x1, x2, x3, x4, x5, x6⟩ := loops (N := N) (a1 := -1) (a3 := a3) (A1 := -1) (A2 := 1) K hN (fun tk last nw ng hc hm v t0 t1 J hv go hl _ => step_A (by omega) gb l b0 b1 hs2 hcn J hv go hl t0 t1 a30 a31 eo) 4000 N N ((T : Int) + lw 2) 2 2 hcA hmA (by omega) (by omega) (by omega) (by omega) (by omega) (by omega) (by rw [el]; exact ⟨S, B, W, G0, Nat.le_refl _, AL, Or.inl ⟨z1, z2, z3⟩, fun _ _ _ => rfl, fun _ _ _ _ => rfl⟩) gz (by rw [q41]; omega) ea (by omega)
    rw [el] at x1
    obtain ⟨j1, j2, j3, j4, j5, j6, j7, j8, j9⟩ := x3
    generalize hE : pv_up hc1 80 4 e = hcE
    have fE : ∀ x y, ¬ (x = 80 ∧ y = 4) → hcE x y = hc1 x y := fun x y np => by rw [← hE, pv_up_ne (by omega)]
    refine fin hcE hm1 ?_ ?_ (j1.1.frm (fun x y n1 n2 => fE x y (by omega))) j1.2.1 (fun i hi => by rw [fE _ _ (by omega)]; exact j2.2.2.2.1 i hi) (fun i hi => by rw [fE _ _ (by omega)]; exact j6.2.1 i hi) (j7.frm (fun x y z => fE x y (by omega)) (fun _ _ _ => rfl)) (fun x y np => ?_) (fun x y np => ?_)
    · rw [eC, x1]
      unfold fX1_sendWaves_218
      rw [if_pos (by omega), bbs, show Int.toNat 4 = 4 from rfl, hE]
    · rw [eM, x2]
    · rw [fE x y (by unfold RCz at np; omega), j8 x y (by unfold RCz at np; exact fun h => np (Or.inl h))]
      exact F x y np
    · rw [j9 x y (by unfold RMz at np; exact fun h => np (Or.inl h)) (by unfold RMz at np; omega)]
      exact G x y np
end ALONE
theorem s_beyond : sm_beyond SSz := by
  intro hc hm S a1 a2 a3 a4 _ _ _ _
  refine two_th S fun hm S => ?_
  unfold fX9_beyond fX9_beyond_26 fX10_beyond_27
  by_cases hr : rodOk hm a1
  · obtain ⟨a, rfl⟩ := Int.eq_ofNat_of_zero_le hr.1
    have ha : a < 4 := by have := hr.2.1; omega
    have hA : 0 ≤ (a : Int) ∧ (a : Int) < 4 := by omega
    rw [hasRod_1 S hr, c1s, if_neg n10]
    by_cases hd : 0 ≤ a2 ∧ a2 < 4
    · obtain ⟨b, rfl⟩ := Int.eq_ofNat_of_zero_le hd.1
      have hb : b < 4 := by omega
      rw [hasDo_1 hd, c1s, if_neg n10, isBoth_1 hr hd, c1s, if_neg n10]
      by_cases h4 : 0 ≤ a4 ∧ a4 ≤ 2
      · obtain ⟨n, fl, st, sg, no, su, g, g99, c, v⟩ := S.rod2 hr
        obtain ⟨m, K, U, T, gd, cd, vd⟩ := S.dov2 hb
        obtain ⟨_, lw1, lw2⟩ := S.lawv
        have l : lwB (fun j => hm 2 (1116 + j)) := lw2
        obtain ⟨h1, h2, e1, e2, j1, j2, j3⟩ := ready_C (N := pv_NN) (seed := a3) (p := 1) (by decide) g l (show 35 + 6 * a + 6 ≤ 78 ∨ _ by omega) (by
          rcases (show a = 0 ∨ a = 1 ∨ a = 2 ∨ a = 3 by omega) with rfl | rfl | rfl | rfl <;> decide) c lw1 (show 59 + 4 * b + 4 ≤ 78 ∨ _ by omega) cd gd (by omega) (by omega)
        generalize hM : pv_up hm 0 43 1 = m0
        have fM : ∀ x y, ¬ (x = 0 ∧ y = 43) → m0 x y = hm x y := fun x y np => by rw [← hM, pv_up_ne (by omega)]
        have m43 : m0 0 43 = 1 := by rw [← hM, pv_up_self]
        have v0 : vrz m0 (242 * a) n fl st sg no su := by
          obtain ⟨q1, q2, q3⟩ := v
          refine ⟨by rw [fM _ _ (by omega)]; exact q1, by rw [fM _ _ (by omega)]; exact q2, fun i hi => ?_⟩
          rw [fM _ _ (by omega), fM _ _ (by omega), fM _ _ (by omega), fM _ _ (by omega)]
          exact q3 i hi
        obtain ⟨m1, e3, f1, f2⟩ := takes_M (N := pv_NN) (by decide) ha g.1 g.2.1 v0
        have vd1 : mvz m1 (968 + 37 * b) m K U T := by
          obtain ⟨q1, q2, q3⟩ := vd
          refine ⟨by rw [f1 _ _ (by unfold PTz; omega), fM _ _ (by omega)]; exact q1, q2, fun j hj => ?_⟩
          rw [f1 2 _ (by unfold PTz; omega), f1 2 _ (by unfold PTz; omega), f1 2 _ (by unfold PTz; omega), fM 2 _ (by omega), fM 2 _ (by omega), fM 2 _ (by omega)]
          exact q3 j hj
        obtain ⟨m2, e4, f3, f4⟩ := ready_D (N := pv_NN) (p := 1) (by decide) hb vd1 gd (by omega) (by omega)
        have f5 : mrz m2 n fl st sg no su := f2.frm (fun x y q => f3 x y (by unfold PDz; omega))
        obtain ⟨m3, e5, f6, f7⟩ := draw_M (N := pv_NN) (seed := a3) (by decide) g f5
        have RM : RDM m3 n st sg su (fun j => hm 2 (1116 + j)) (spz fl sg no a3) (bdz K U T 1 m) (tnz K U T 1 m) (lsz T 1 m) := by
          refine RDM.mk' (mrz.ml (f5.frm (fun x y q => f6 x y (by omega))) (fun j hj => ?_)) f7 (f4.frm (fun x y q => f6 x y (by omega)))
          rw [f6 _ _ (by omega), f3 _ _ (by unfold PDz; omega), f1 _ _ (by unfold PTz; omega), fM _ _ (by omega)]
        have G3 : ∀ x y, ¬ PMz x y → m3 x y = m0 x y := fun x y np => by
          rw [f6 x y (by unfold PMz at np; omega), f3 x y (fun q => np (PDz_PM q)), f1 x y (fun q => np (PTz_PM q))]
        have z43 : m3 0 43 = 1 := by rw [G3 _ _ (by unfold PMz; omega)]; exact m43
        obtain ⟨hc', m4, np, x1, x2, x3, x4, x5, x6, x7⟩ := run_A (N := pv_NN) (by decide) g.br l (fun i hi => spz_b g hi) j1 RM z43
        rw [if_neg (show ¬ a4 < 0 by omega), if_pos (show a4 ≤ 2 by omega), if_pos hA, tnc, bbs, e1, c1s, if_pos (show 0 ≤ (b : Int) ∧ (b : Int) < 4 by omega), tnc, bbs, e2, c1s, x1, c2s, wn_1 h4, c1s, if_neg n10, bbs]
        unfold fX10_piecesOf
        rw [e3, c1s, e4, c1s, e5, c1s, x2, c1s, c2s, bbs]
        generalize hE : pv_up m4 0 43 0 = m5
        have fE : ∀ x y, ¬ (x = 0 ∧ y = 43) → m5 x y = m4 x y := fun x y np => by rw [← hE, pv_up_ne (by omega)]
        have R : GRz n (spz fl sg no a3) hc' m5 := x4.frm (fun _ _ _ => rfl) (fun x y z => fE x y (by omega))
        have F' : frz PCz hc hc' := fun x y np => by
          rw [x6 x y (by unfold PCz at np; unfold RCz DCz; omega), j3 x y (by unfold PCz at np; unfold TCz; omega)]
        have G' : frz PMz hm m5 := fun x y np => by
          by_cases z : x = 0 ∧ y = 43
          · obtain ⟨zx, zy⟩ := z
            subst zx
            subst zy
            rw [← hE, pv_up_self]
            exact S.2.2.2.2.2.2.symm
          · rw [fE x y z, x7 x y (by unfold PMz at np; unfold RMz DMz; omega), G3 x y np, fM x y z]
        have S' := S.frz F' G'
        have n60 := g.2.1
        rcases R with ⟨r1, r2, r3⟩ | ⟨k, k0, k1, k2, k3, k4, k5, k6⟩
        · rw [if_pos r3]
          unfold fX10_beyond_75
          by_cases q0 : a4 = 0
          · rw [if_pos q0, if_neg (show ¬ a4 = 2 by omega)]
            exact wend r1 S'
          · rw [if_neg q0]
            by_cases q1 : a4 = 1
            · rw [if_pos q1, if_neg (show ¬ a4 = 2 by omega)]
              exact wend r2 S'
            · rw [if_neg q1, if_pos (show a4 = 2 by omega)]
              unfold fX1_aboveStrength fX1_aboveStrength_27
              rw [if_pos r2, c1s]
              exact wend rfl S'
        · rw [if_neg (show ¬ m5 0 60 = -1 by omega)]
          unfold fX10_beyond_105
          by_cases q0 : a4 = 0
          · rw [if_pos q0, if_pos q0]
            exact wend k3 S'
          · rw [if_neg q0, if_neg q0]
            by_cases q1 : a4 = 1
            · rw [if_pos q1, if_pos q1]
              exact wend (k1.trans k2.symm) S'
            · rw [if_neg q1, if_neg q1]
              unfold fX1_aboveStrength fX1_aboveStrength_27
              have sb := spz_b (seed := a3) g k0
              rw [if_neg (show ¬ hc' 78 2 = -1 by omega), if_pos (show 0 ≤ hc' 78 2 ∧ hc' 78 2 < 60 by omega), k1, tnc, x5 k k0, k3, pv_w_id (by omega) (by omega), c1s]
              exact wend k6.symm S'
      · rw [wn_0 h4, c1s, if_pos rfl]
        by_cases z : a4 < 0
        · rw [if_pos z]; exact no2 S
        · rw [if_neg z, if_neg (show ¬ a4 ≤ 2 by omega)]; exact no2 S
    · rw [hasDo_0 hd, c1s, if_pos rfl, isBoth_0 (fun z => hd z.2), c1s, if_pos rfl]
      exact no2 S
  · rw [hasRod_0 S hr, c1s, if_pos rfl, isBoth_0 (fun z => hr z.1), c1s, if_pos rfl]
    exact no2 S
