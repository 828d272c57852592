/-! one step of one WAVE, RUNS as they are -/
def STz (r n : Nat) (st sg su lw str : Nat → Int) (bend off al : Int) (hc hm : pv_H) : Prop := clz hc r n st sg su lw ∧ mlz hm n st sg su lw ∧ (∀ i, i < n → hc 92 i = str i ∧ hm 11 i = str i ∧ hc 93 i = ldz n (lw 7) st i bend) ∧ hc 78 8 = off ∧ hc 78 9 = al ∧ hm 0 43 = al ∧ hm 0 36 = bend
def LTz (n : Nat) (hc hm : pv_H) : Prop := (∀ i, i < n → hc 95 i = hm 18 i ∧ (hm 18 i = 0 ∨ hm 18 i = 1)) ∧ hc 80 3 = hm 0 40 ∧ -2147483648 ≤ hm 0 40 ∧ hm 0 40 ≤ 2147483647
def DCz (x y : Nat) : Prop := x = 80 ∧ (y = 0 ∨ y = 2 ∨ y = 3) ∨ x = 78 ∧ (y = 1 ∨ y = 2 ∨ y = 10) ∨ x = 81 ∨ x = 82 ∨ 94 ≤ x ∧ x ≤ 98
def DMz (x y : Nat) : Prop := x = 0 ∧ (y = 38 ∨ y = 39 ∨ y = 40 ∨ y = 59 ∨ y = 60 ∨ y = 61) ∨ 17 ≤ x ∧ x ≤ 23 ∨ 25 ≤ x ∧ x ≤ 31
theorem mlz.frm {n : Nat} {st sg su lw : Nat → Int} {h h' : pv_H} (c : mlz h n st sg su lw) (f : ∀ x y, ¬ DMz x y → h' x y = h x y) : mlz h' n st sg su lw := by
  obtain ⟨c1, c2, c3⟩ := c
  refine ⟨by rw [f _ _ (by unfold DMz; omega)]; exact c1, fun i hi => ?_, fun j hj => by rw [f _ _ (by unfold DMz; omega)]; exact c3 j hj⟩
  rw [f _ _ (by unfold DMz; omega), f _ _ (by unfold DMz; omega), f _ _ (by unfold DMz; omega), f _ _ (by unfold DMz; omega)]
  exact c2 i hi
theorem STz.frm {r n : Nat} {st sg su lw str : Nat → Int} {bend off al : Int} {hc hm hc' hm' : pv_H} (s : STz r n st sg su lw str bend off al hc hm) (f : ∀ x y, ¬ DCz x y → hc' x y = hc x y) (g : ∀ x y, ¬ DMz x y → hm' x y = hm x y) : STz r n st sg su lw str bend off al hc' hm' := by
  obtain ⟨s1, s2, s3, s4, s5, s6, s7⟩ := s
  refine ⟨s1.frm (fun x y n1 n2 => f x y (by unfold DCz; omega)), s2.frm g, fun i hi => ?_, ?_, ?_, ?_, ?_⟩
  · rw [f _ _ (by unfold DCz; omega), f _ _ (by unfold DCz; omega), g _ _ (by unfold DMz; omega)]; exact s3 i hi
  · rw [f _ _ (by unfold DCz; omega)]; exact s4
  · rw [f _ _ (by unfold DCz; omega)]; exact s5
  · rw [g _ _ (by unfold DMz; omega)]; exact s6
  · rw [g _ _ (by unfold DMz; omega)]; exact s7
def GWz (lr : Int) (n nw : Nat) (last : Nat → Int) (hc hm : pv_H) : Prop := ∀ w, w < nw → hm 19 w = 1 → hc 98 w = hm 31 w ∧ 0 ≤ hm 31 w ∧ hm 31 w ≤ 1000000 ∧ (∃ q, 0 ≤ q ∧ last w = hm 27 w + lr * q ∧ (hm 26 w = 0 → hc 97 w = hm 25 w - q) ∧ (hm 26 w = 1 → hc 97 w = hm 25 w + q)) ∧ (hm 26 w = 0 → 0 ≤ hc 97 w ∧ hc 97 w ≤ n) ∧ (hm 26 w = 1 → -1 ≤ hc 97 w ∧ hc 97 w ≤ (n : Int) - 1) ∧ -1 ≤ hm 25 w ∧ hm 25 w ≤ n
def SWz (lr tk : Int) (n v nw ng nw' ng' : Nat) (last : Nat → Int) (rr : Int) (hc hm hc' hm' : pv_H) : Prop := nw ≤ nw' ∧ ng' + nw = ng + nw' ∧ WRz nw' ng' hc' hm' ∧ (rr = 0 ∨ rr = 1) ∧ hm' 19 v = rr ∧ (∀ w, nw ≤ w → w < nw' → hc' 96 (ng + (w - nw)) = (w : Int) ∧ hm' 19 w = 1 ∧ hm' 27 w = tk) ∧ (∀ a, a < ng → hc' 96 a = hc 96 a) ∧ (∀ w, w < nw → hm' 27 w = hm 27 w ∧ (w ≠ v → hm' 19 w = hm 19 w)) ∧ GWz lr n nw' (fun w => if w = v ∨ nw ≤ w then tk else last w) hc' hm'
section FIN
variable {n v nw ng nw' ng' : Nat} {tk lr rr : Int} {last : Nat → Int} {hc hm hcA hmA hc' hm' : pv_H}
theorem WRz.mid (W : WRz nw ng hc hm) (f : ∀ x y, FCz x y → x ≠ 97 → x ≠ 98 → ¬ (x = 82 ∧ y = 1000 + v) → hcA x y = hc x y) (g : ∀ x y, FMz x y → ¬ ((x = 31 ∨ x = 30 ∨ x = 19) ∧ y = v) → hmA x y = hm x y) (h1 : hcA 82 (1000 + v) = hmA 30 v) (h2 : -2147483648 ≤ hmA 30 v ∧ hmA 30 v ≤ 2147483647) (h3 : hmA 19 v = 0 ∨ hmA 19 v = 1) : WRz nw ng hcA hmA := by
  obtain ⟨w1, w2, w3, w4, w5, w6⟩ := W
  refine ⟨by rw [f _ _ (by unfold FCz; omega) (by omega) (by omega) (by omega)]; exact w1, by rw [g _ _ (by unfold FMz; omega) (by omega)]; exact w2, w3, by rw [f _ _ (by unfold FCz; omega) (by omega) (by omega) (by omega)]; exact w4, w5, fun w hw => ?_⟩
  obtain ⟨c1, c2, c3, c4, c5, c6, c7, c8, c9, c10, c11, c12, c13⟩ := w6 w hw
  rw [f 82 w (by unfold FCz; omega) (by omega) (by omega) (by omega), f 82 (200 + w) (by unfold FCz; omega) (by omega) (by omega) (by omega), f 82 (400 + w) (by unfold FCz; omega) (by omega) (by omega) (by omega), f 82 (600 + w) (by unfold FCz; omega) (by omega) (by omega) (by omega), f 82 (800 + w) (by unfold FCz; omega) (by omega) (by omega) (by omega), g 25 w (by unfold FMz; omega) (by omega), g 26 w (by unfold FMz; omega) (by omega), g 27 w (by unfold FMz; omega) (by omega), g 28 w (by unfold FMz; omega) (by omega), g 29 w (by unfold FMz; omega) (by omega)]
  by_cases e : w = v
  · subst e
    exact ⟨c1, c2, c3, c4, c5, h1, c7, c8, c9, c10, h2.1, h2.2, h3⟩
  · rw [f 82 (1000 + w) (by unfold FCz; omega) (by omega) (by omega) (by omega), g 30 w (by unfold FMz; omega) (by omega), g 19 w (by unfold FMz; omega) (by omega)]
    exact ⟨c1, c2, c3, c4, c5, c6, c7, c8, c9, c10, c11, c12, c13⟩
theorem fin_W (hv : v < nw) (W : WRz nw ng hc hm) (G : GWz lr n nw last hc hm) (E : EXz tk n nw ng nw' ng' hcA hmA hc' hm') (fA : ∀ w, w < nw → w ≠ v → hcA 97 w = hc 97 w ∧ hcA 98 w = hc 98 w ∧ hmA 19 w = hm 19 w ∧ hmA 31 w = hm 31 w) (fB : ∀ w, w < nw → hmA 25 w = hm 25 w ∧ hmA 26 w = hm 26 w ∧ hmA 27 w = hm 27 w) (fC : ∀ a, hcA 96 a = hc 96 a) (r01 : rr = 0 ∨ rr = 1) (e19 : hmA 19 v = rr) (vv : rr = 1 → hcA 98 v = hmA 31 v ∧ 0 ≤ hmA 31 v ∧ hmA 31 v ≤ 1000000 ∧ (∃ q, 0 ≤ q ∧ tk = hm 27 v + lr * q ∧ (hm 26 v = 0 → hcA 97 v = hm 25 v - q) ∧ (hm 26 v = 1 → hcA 97 v = hm 25 v + q)) ∧ (hm 26 v = 0 → 0 ≤ hcA 97 v ∧ hcA 97 v ≤ n) ∧ (hm 26 v = 1 → -1 ≤ hcA 97 v ∧ hcA 97 v ≤ (n : Int) - 1) ∧ -1 ≤ hm 25 v ∧ hm 25 v ≤ n) : SWz lr tk n v nw ng nw' ng' last rr hc hm hc' hm' := by
  obtain ⟨x1, x2, x3, x4, x5, x6⟩ := E
  refine ⟨x1, x2, x3, r01, ?_, fun w h1 h2 => ?_, fun a ha => ?_, fun w hw => ?_, fun w hw q => ?_⟩
  · rw [(x6 v hv).2.2.1]; exact e19
  · obtain ⟨c1, c2, c3, _⟩ := x4 w h1 h2
    exact ⟨c1, c2, c3⟩
  · rw [x5 a ha, fC]
  · obtain ⟨d1, d2, d3, d4, d5, d6, d7, d8, d9, d10⟩ := x6 w hw
    rw [d6, d3, (fB w hw).2.2]
    exact ⟨rfl, fun e => (fA w hw e).2.2.1⟩
  · by_cases z : w < nw
    · obtain ⟨d1, d2, d3, d4, d5, d6, d7, d8, d9, d10⟩ := x6 w z
      obtain ⟨k1, k2, k3⟩ := fB w z
      rw [d3] at q
      rw [d1, d2, d4, d5, d6, d10, k1, k2, k3]
      by_cases e : w = v
      · subst e
        dsimp only
        rw [if_pos (Or.inl rfl)]
        exact vv (by omega)
      · obtain ⟨j1, j2, j3, j4⟩ := fA w z e
        dsimp only
        rw [if_neg (by omega), j1, j2, j4]
        rw [j3] at q
        exact G w z q
    · obtain ⟨c1, c2, c3, c4, c5, c6, c7, c8, c9⟩ := x4 w (by omega) hw
      dsimp only
      rw [if_pos (Or.inr (by omega)), c4, c5]
      have w26 := (x3.2.2.2.2.2 w hw).2.2.2.2.2.2.1
      refine ⟨rfl, c6, c7, ⟨0, Int.le_refl _, by rw [c3]; omega, fun _ => by omega, fun _ => by omega⟩, c8, c9, ?_, ?_⟩
      · rcases w26 with z | z
        · have := c8 z; omega
        · have := c9 z; omega
      · rcases w26 with z | z
        · have := c8 z; omega
        · have := c9 z; omega
end FIN
theorem note_C {N : Nat} (a b : Int) (h : pv_H) : ∃ h', fX1_noteGreatest N a b h = some h' ∧ ∀ x y, ¬ (x = 78 ∧ (y = 1 ∨ y = 2)) → h' x y = h x y := by
  unfold fX1_noteGreatest fX1_noteGreatest_24 fX1_noteGreatest_34
  simp only [bbs]
  have u : ∀ x y, ¬ (x = 78 ∧ (y = 1 ∨ y = 2)) → pv_up (pv_up h 78 1 b) 78 2 a x y = h x y := fun x y np => by
    rw [pv_up_ne (by omega), pv_up_ne (by omega)]
  by_cases z1 : h 78 1 < b
  · rw [if_pos z1]; exact ⟨_, rfl, u⟩
  · rw [if_neg z1]
    by_cases z2 : b = h 78 1
    · rw [if_pos z2]
      by_cases z3 : h 78 2 ≤ a
      · rw [if_pos z3]; exact ⟨h, rfl, fun _ _ _ => rfl⟩
      · rw [if_neg z3]; exact ⟨_, rfl, u⟩
    · rw [if_neg z2]; exact ⟨h, rfl, fun _ _ _ => rfl⟩
section STEP
variable {N r n v nw ng nb : Nat} {st sg su lw str : Nat → Int} {bend off tk a3 : Int} {last : Nat → Int} {hc hm : pv_H}
/-- how both come to the cell -/
theorem enter_2 (hv : v < nw) (W : WRz nw ng hc hm) (G : GWz (lw 2) n nw last hc hm) (l : lwB lw) (m : mlz hm n st sg su lw) (h60 : n ≤ 60) (go : hm 19 v = 1) (hl : last v = tk - lw 2) (t2 : tk ≤ 4000) : ∃ (q at' s : Int), 0 ≤ q ∧ tk = hm 27 v + lw 2 * q ∧ (hm 26 v = 0 → at' = hm 25 v - q ∧ -1 ≤ at' ∧ at' ≤ (n : Int) - 1) ∧ (hm 26 v = 1 → at' = hm 25 v + q ∧ 0 ≤ at' ∧ at' ≤ n) ∧ fX1_goesOn N (v : Int) tk hc = fX1_goesOn_69 N (v : Int) tk (if hm 26 v = 0 then 1 else 0) (if hm 29 v = 1 then 1 else 0) at' hc ∧ fX10_comes N (v : Int) tk a3 hm = fX10_comes_42 N (v : Int) tk a3 s (hm 25 v) hm ∧ pv_w (hm 25 v + s) = at' := by
  obtain ⟨w1, w2, w3, w4, w5, w6⟩ := id W
  obtain ⟨c1, c2, c3, c4, c5, c6, c7, c8, c9, c10, c11, c12, c13⟩ := w6 v hv
  obtain ⟨g1, g2, g3, ⟨q, q1, q2, q3, q4⟩, g5, g6, g7, g8⟩ := G v hv go
  have l2 : 1 ≤ lw 2 := by obtain ⟨_, _, _, _, l3, l4, _⟩ := l; exact l3
  have eq : tk = hm 27 v + lw 2 * (q + 1) := by rw [Int.mul_add, Int.mul_one]; omega
  obtain ⟨s, s1, s2⟩ := com_at (N := N) (a3 := a3) (v := v) (by omega) l (m.2.2 2 (by omega)) rfl rfl q1 eq g7 (by omega) t2 c9
  have x2 : pv_w (200 + (v : Int)) = ((200 + v : Nat) : Int) := by rw [pv_w_id (by omega) (by omega)]; omega
  have x8 : pv_w (800 + (v : Int)) = ((800 + v : Nat) : Int) := by rw [pv_w_id (by omega) (by omega)]; omega
  have cls : ∀ p : Int, p = hc 97 v → fX1_goesOn N (v : Int) tk hc = fX1_goesOn_69 N (v : Int) tk (if hm 26 v = 0 then 1 else 0) (if hm 29 v = 1 then 1 else 0) (if hm 26 v = 0 then pv_w (p - 1) else pv_w (p + 1)) hc := by
    intro p hp
    unfold fX1_goesOn fX1_goesOn_21 fX1_goesOn_44
    rw [x2, x8, if_pos (by omega), tnc, c2]
    by_cases z : hm 26 v = 0
    · rw [if_pos z, if_pos (by omega), tnc, c5, if_pos z, if_pos z]
      by_cases z2 : hm 29 v = 1
      · rw [if_pos z2, if_neg (by omega), if_pos (by omega), tnc, ← hp, if_pos z2]
      · rw [if_neg z2, if_neg (by omega), if_pos (by omega), tnc, ← hp, if_neg z2]
    · rw [if_neg z, if_pos (by omega), tnc, c5, if_neg z, if_neg z]
      by_cases z2 : hm 29 v = 1
      · rw [if_pos z2, if_pos rfl, if_pos (by omega), tnc, ← hp, if_pos z2]
      · rw [if_neg z2, if_pos rfl, if_pos (by omega), tnc, ← hp, if_neg z2]
  refine ⟨q + 1, if hm 26 v = 0 then hm 25 v - (q + 1) else hm 25 v + (q + 1), s, by omega, eq, fun z => ?_, fun z => ?_, ?_, s1, s2⟩
  · have a1 := q3 z
    have a2 := g5 z
    rw [if_pos z]
    omega
  · have a1 := q4 z
    have a2 := g6 z
    rw [if_neg (by omega)]
    omega
  · have e : (if hm 26 v = 0 then pv_w (hc 97 v - 1) else pv_w (hc 97 v + 1)) = (if hm 26 v = 0 then hm 25 v - (q + 1) else hm 25 v + (q + 1)) := by
      rcases c7 with z | z
      · have a1 := q3 z
        have a2 := g5 z
        rw [if_pos z, if_pos z, pv_w_id (by omega) (by omega)]
        omega
      · have a1 := q4 z
        have a2 := g6 z
        rw [if_neg (by omega), if_neg (by omega), pv_w_id (by omega) (by omega)]
        omega
    rw [cls _ rfl, e]
/-- what a step of both leaves -/
def PSz (r n : Nat) (st sg su lw str : Nat → Int) (bend off tk : Int) (v nw ng : Nat) (last : Nat → Int) (rr : Int) (hc hm hc' hm' : pv_H) : Prop := ∃ nb' nw' ng' : Nat, 0 < nb' ∧ STz r n st sg su lw str bend off 0 hc' hm' ∧ LTz n hc' hm' ∧ BRz n nb' hc' hm' ∧ SWz (lw 2) tk n v nw ng nw' ng' last rr hc hm hc' hm' ∧ (∀ x y, ¬ DCz x y → hc' x y = hc x y) ∧ ∀ x y, ¬ DMz x y → hm' x y = hm x y
theorem LTz.frm {hc' hm' : pv_H} (L : LTz n hc hm) (f : ∀ x y, x = 95 ∨ x = 80 ∧ y = 3 → hc' x y = hc x y) (g : ∀ x y, x = 18 ∨ x = 0 ∧ y = 40 → hm' x y = hm x y) : LTz n hc' hm' := by
  obtain ⟨l1, l2, l3, l4⟩ := L
  refine ⟨fun i hi => ?_, ?_, ?_, ?_⟩
  · rw [f _ _ (by omega), g _ _ (by omega)]; exact l1 i hi
  · rw [f _ _ (by omega), g _ _ (by omega)]; exact l2
  · rw [g _ _ (by omega)]; exact l3
  · rw [g _ _ (by omega)]; exact l4
/-- what a step beyond the CELLS leaves -/
def OUz (lr : Int) (n : Nat) (at' tk : Int) (v nw ng : Nat) (last : Nat → Int) (hc hm hc' hm' : pv_H) : Prop := ∃ nw' ng' : Nat, SWz lr tk n v nw ng nw' ng' last 0 hc hm hc' hm' ∧ (∀ x y, ¬ FCz x y → hc' x y = hc x y) ∧ (∀ x y, ¬ FMz x y → hm' x y = hm x y) ∧ (nw' = nw ∨ nw' = nw + 1 ∧ hm' 25 nw = at' ∧ hm' 26 nw = 1 - hm 26 v ∧ hm' 29 nw = 1) ∧ ∀ w, w < nw → hm' 25 w = hm 25 w ∧ hm' 26 w = hm 26 w ∧ hm' 29 w = hm 29 w ∧ (w ≠ v → hc' 97 w = hc 97 w) ∧ (w = v → hc' 97 w = at')
theorem step_out0 {al : Int} (hv : v < nw) (W : WRz nw ng hc hm) (G : GWz (lw 2) n nw last hc hm) (l : lwB lw) (S : STz r n st sg su lw str bend off al hc hm) (B : BRz n nb hc hm) (h60 : n ≤ 60) (go : hm 19 v = 1) (t0 : 0 ≤ tk) (t2 : tk ≤ 4000) {at' s : Int} (r0 : hm 26 v = 0 → -1 ≤ at' ∧ at' ≤ (n : Int) - 1) (r1 : hm 26 v = 1 → 0 ≤ at' ∧ at' ≤ n) (e : pv_w (hm 25 v + s) = at') (out : at' < 0 ∨ (n : Int) ≤ at' ∨ 0 ≤ at' ∧ at' < n ∧ hm 17 at'.toNat = 1) : ∃ hc' hm', fX1_goesOn_69 N (v : Int) tk (if hm 26 v = 0 then 1 else 0) (if hm 29 v = 1 then 1 else 0) at' hc = some (hc', 0) ∧ fX10_comes_42 N (v : Int) tk a3 s (hm 25 v) hm = some hm' ∧ OUz (lw 2) n at' tk v nw ng last hc hm hc' hm' := by
  obtain ⟨w1, w2, w3, w4, w5, w6⟩ := id W
  obtain ⟨c1, c2, c3, c4, c5, c6, c7, c8, c9, c10, c11, c12, c13⟩ := w6 v hv
  obtain ⟨g1, g2, g3, _, _, _, _, _⟩ := G v hv go
  obtain ⟨s1, s2, s3, s4, s5, s6, s7⟩ := id S
  obtain ⟨l1, l2⟩ := law_g s1
  have out' : at' < 0 ∨ (n : Int) ≤ at' ∨ 0 ≤ at' ∧ at' < n ∧ hc 94 at'.toNat = 1 := by
    rcases out with z | z | ⟨z1, z2, z3⟩
    · exact Or.inl z
    · exact Or.inr (Or.inl z)
    · exact Or.inr (Or.inr ⟨z1, z2, by rw [(B.2.2.2.1 at'.toNat (by omega)).1]; exact z3⟩)
  have lb : 0 ≤ lw 5 ∧ lw 5 ≤ 100 := by obtain ⟨_, _, _, _, _, _, _, _, _, _, l3, l4, _⟩ := l; exact ⟨l3, l4⟩
  have p1 : 0 ≤ hm 31 v * lw 5 := Int.mul_nonneg g2 lb.1
  have p2 : hm 31 v * lw 5 ≤ hm 31 v * 100 := Int.mul_le_mul_of_nonneg_left lb.2 g2
  generalize hA : pv_up hc 97 v at' = hcA
  generalize hB : pv_up hm 19 v 0 = hmA
  have fA : ∀ x y, ¬ (x = 97 ∧ y = v) → hcA x y = hc x y := fun x y np => by rw [← hA, pv_up_ne (by omega)]
  have fB : ∀ x y, ¬ (x = 19 ∧ y = v) → hmA x y = hm x y := fun x y np => by rw [← hB, pv_up_ne (by omega)]
  have e19 : hmA 19 v = 0 := by rw [← hB, pv_up_self]
  have WA : WRz nw ng hcA hmA := W.mid (v := v) (fun x y _ n1 n2 n3 => fA x y (by omega)) (fun x y _ n1 => fB x y (by omega)) (by rw [fA _ _ (by omega), fB _ _ (by omega)]; exact c6) (by rw [fB _ _ (by omega)]; exact ⟨c11, c12⟩) (Or.inl e19)
  have eC : fX1_goesOn_69 N (v : Int) tk (if hm 26 v = 0 then 1 else 0) (if hm 29 v = 1 then 1 else 0) at' hc = if (if hm 29 v = 1 then (1 : Int) else 0) = 0 ∧ 0 < hm 31 v * lw 5 / 100 then pv_c1 (fX1_beginWave N at' (1 - hm 26 v) tk (hm 31 v * lw 5 / 100) 1 hcA) fun h54 => some (h54, 0) else some (hcA, 0) := by
    rw [go_out s1 (by omega) h60 out', hA]
    refine go_107 (by omega) ?_ ?_ l ?_ ?_ g2 g3 ?_
    · rw [fA _ _ (by omega)]; exact l1
    · rw [fA _ _ (by omega)]; exact l2
    · rw [fA _ _ (by omega)]; exact s1.2.2.2.2.2.2 5 (by omega)
    · rw [fA _ _ (by omega)]; exact g1
    · rcases c7 with z | z
      · rw [if_pos z, if_neg (by omega)]; omega
      · rw [if_neg (show ¬ hm 26 v = 0 by omega), if_pos rfl]; omega
  have eM : fX10_comes_42 N (v : Int) tk a3 s (hm 25 v) hm = pv_c1 (if ¬ hm 29 v = 1 ∧ 0 < hm 31 v * lw 5 / 100 then fX10_begins N at' (1 - hm 26 v) tk (hm 31 v * lw 5 / 100) 1 hmA else some hmA) fun h19 => some h19 := by
    rw [com_out s2.1 h60 e out, stop_M (by omega) l (s2.2.2 5 (by omega)) rfl g2 g3 rfl rfl c7, hB]
  -- how it ends
  have fin : ∀ (hc' hm' : pv_H) (nw' ng' : Nat), EXz tk n nw ng nw' ng' hcA hmA hc' hm' → (∀ x y, ¬ FCz x y → hc' x y = hcA x y) → (∀ x y, ¬ FMz x y → hm' x y = hmA x y) → (nw' = nw ∨ nw' = nw + 1 ∧ hm' 25 nw = at' ∧ hm' 26 nw = 1 - hm 26 v ∧ hm' 29 nw = 1) → OUz (lw 2) n at' tk v nw ng last hc hm hc' hm' := by
    intro hc' hm' nw' ng' E f g nx
    have F : ∀ x y, ¬ FCz x y → hc' x y = hc x y := fun x y np => by rw [f x y np, fA x y (by unfold FCz at np; omega)]
    have F2 : ∀ x y, ¬ FMz x y → hm' x y = hm x y := fun x y np => by rw [g x y np, fB x y (by unfold FMz at np; omega)]
    refine ⟨nw', ng', ?_, F, F2, nx, fun w hw => ?_⟩
    · exact fin_W hv W G E (fun w hw ne => ⟨fA _ _ (by omega), fA _ _ (by omega), fB _ _ (by omega), fB _ _ (by omega)⟩) (fun w hw => ⟨fB _ _ (by omega), fB _ _ (by omega), fB _ _ (by omega)⟩) (fun a => fA _ _ (by omega)) (Or.inl rfl) e19 (fun z => by omega)
    · obtain ⟨_, _, _, _, _, E6⟩ := E
      obtain ⟨u1, u2, _, u4, u5, _, _, u8, _, _⟩ := E6 w hw
      have b25 : hmA 25 w = hm 25 w := fB _ _ (by omega)
      have b26 : hmA 26 w = hm 26 w := fB _ _ (by omega)
      have b29 : hmA 29 w = hm 29 w := fB _ _ (by omega)
      have b97 : w ≠ v → hcA 97 w = hc 97 w := fun ne => fA _ _ (by omega)
      have b97v : hcA 97 v = at' := by rw [← hA, pv_up_self]
      refine ⟨by omega, by omega, by omega, fun ne => by rw [u1, b97 ne], fun ev => by subst ev; rw [u1, b97v]⟩
  rw [eC, eM]
  by_cases z : ¬ hm 29 v = 1 ∧ 0 < hm 31 v * lw 5 / 100
  · obtain ⟨hc', hm', nw', ng', b1, b2, b3, b4, b5⟩ := beg_2 (N := N) (n := n) WA (fr' := at') (wy := 1 - hm 26 v) (tk := tk) (am := hm 31 v * lw 5 / 100) (ec := 1) (fun y => by have := r1 (by omega); omega) (fun y => by have := r0 (by omega); omega) (by omega) t0 t2 (by omega) (by omega) (Or.inr rfl)
    have z1 : (if hm 29 v = 1 then (1 : Int) else 0) = 0 ∧ 0 < hm 31 v * lw 5 / 100 := ⟨if_neg z.1, z.2⟩
    rw [if_pos z1, if_pos z, b1, b2, c1s, c1s]
    refine ⟨hc', hm', rfl, rfl, fin hc' hm' nw' ng' b3 b4 b5 ?_⟩
    by_cases y : nw < 200
    · have := begM (nw := nw) WA.2.1 y (Or.inr rfl) b2
      have e39 := b3.2.2.1.2.1
      exact Or.inr ⟨by omega, this.2.1, this.2.2.1, this.2.2.2.1⟩
    · have e39 := b3.2.2.1.2.2.1
      have := b3.1
      exact Or.inl (by omega)
  · have z1 : ¬ ((if hm 29 v = 1 then (1 : Int) else 0) = 0 ∧ 0 < hm 31 v * lw 5 / 100) := fun q => z ⟨fun y => by rw [if_pos y] at q; omega, q.2⟩
    rw [if_neg z1, if_neg z, c1s]
    exact ⟨hcA, hmA, rfl, rfl, fin hcA hmA nw ng (EXz.rf WA) (fun _ _ _ => rfl) (fun _ _ _ => rfl) (Or.inl rfl)⟩
theorem step_out (hv : v < nw) (W : WRz nw ng hc hm) (G : GWz (lw 2) n nw last hc hm) (l : lwB lw) (S : STz r n st sg su lw str bend off 0 hc hm) (L : LTz n hc hm) (B : BRz n nb hc hm) (B0 : 0 < nb) (h60 : n ≤ 60) (go : hm 19 v = 1) (t0 : 0 ≤ tk) (t2 : tk ≤ 4000) {at' s : Int} (r0 : hm 26 v = 0 → -1 ≤ at' ∧ at' ≤ (n : Int) - 1) (r1 : hm 26 v = 1 → 0 ≤ at' ∧ at' ≤ n) (e : pv_w (hm 25 v + s) = at') (out : at' < 0 ∨ (n : Int) ≤ at' ∨ 0 ≤ at' ∧ at' < n ∧ hm 17 at'.toNat = 1) : ∃ hc' hm', fX1_goesOn_69 N (v : Int) tk (if hm 26 v = 0 then 1 else 0) (if hm 29 v = 1 then 1 else 0) at' hc = some (hc', 0) ∧ fX10_comes_42 N (v : Int) tk a3 s (hm 25 v) hm = some hm' ∧ PSz r n st sg su lw str bend off tk v nw ng last 0 hc hm hc' hm' := by
  obtain ⟨hc', hm', x1, x2, nw', ng', x3, F, F2, _, _⟩ := step_out0 (N := N) (a3 := a3) hv W G l S B h60 go t0 t2 r0 r1 e out
  exact ⟨hc', hm', x1, x2, nb, nw', ng', B0, S.frm (fun x y np => F x y (by unfold DCz at np; unfold FCz; omega)) (fun x y np => F2 x y (by unfold DMz at np; unfold FMz; omega)), L.frm (fun x y q => F x y (by unfold FCz; omega)) (fun x y q => F2 x y (by unfold FMz; omega)), B.frm (fun x y q => F x y (by unfold BCz at q; unfold FCz; omega)) (fun x y q => F2 x y (by unfold BMz at q; unfold FMz; omega)), x3, fun x y np => F x y (by unfold DCz at np; unfold FCz; omega), fun x y np => F2 x y (by unfold DMz at np; unfold FMz; omega)⟩
end STEP
