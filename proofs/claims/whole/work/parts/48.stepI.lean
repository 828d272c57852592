/-! a WAVE comes to a cell that isn't broken, in both -/
section STEPI
variable {N r n v i nw ng nb : Nat} {st sg su lw str : Nat → Int} {bend off tk a3 : Int} {last : Nat → Int} {hc hm : pv_H}
theorem step_in (hN : 100 ≤ N) (hv : v < nw) (W : WRz nw ng hc hm) (G : GWz (lw 2) n nw last hc hm) (gb : brz n st sg su) (l : lwB lw) (b0 : 0 ≤ bend) (b1 : bend ≤ 237600) (hs2 : ∀ i, i < n → 1 ≤ str i ∧ str i ≤ 999) (S : STz r n st sg su lw str bend off 0 hc hm) (L : LTz n hc hm) (B : BRz n nb hc hm) (B0 : 0 < nb) (go : hm 19 v = 1) (t0 : 0 ≤ tk) (t2 : tk ≤ 4000) (ta : 0 ≤ a3) (tb : a3 ≤ 300000) (eo : off = if lw 3 ≤ lw 2 then a3 * lw 4 / 100 else 0) {s q : Int} (q0 : 0 ≤ q) (eq : tk = hm 27 v + lw 2 * q) (hi : i < n) (r0 : hm 26 v = 0 → (i : Int) = hm 25 v - q) (r1 : hm 26 v = 1 → (i : Int) = hm 25 v + q) (e : pv_w (hm 25 v + s) = (i : Int)) (nbr : hm 17 i = 0) : ∃ hc' hm' rr, fX1_goesOn_69 N (v : Int) tk (if hm 26 v = 0 then 1 else 0) (if hm 29 v = 1 then 1 else 0) (i : Int) hc = some (hc', rr) ∧ fX10_comes_42 N (v : Int) tk a3 s (hm 25 v) hm = some hm' ∧ PSz r n st sg su lw str bend off tk v nw ng last rr hc hm hc' hm' := by
  obtain ⟨w1, w2, w3, w4, w5, w6⟩ := id W
  obtain ⟨c1, c2, c3, c4, c5, c6, c7, c8, c9, c10, c11, c12, c13⟩ := w6 v hv
  obtain ⟨g1, g2, g3, _, _, _, g7, g8⟩ := G v hv go
  obtain ⟨s1, s2, s3, s4, s5, s6, s7⟩ := id S
  obtain ⟨k92, k11, k93⟩ := s3 i hi
  obtain ⟨L1, L2, L3, L4⟩ := id L
  obtain ⟨j1, j2⟩ := L1 i hi
  have n60 := gb.2.1
  have n3 := gb.1
  have sb := hs2 i hi
  have hb := htz_b (s := su i) l g2 g3
  have lb := ld_b (st := st) (sg := sg) (su := su) gb l hi b0
  have b94 : ¬ hc 94 i = 1 := by rw [(B.2.2.2.1 i hi).1]; omega
  have ob : 0 ≤ off ∧ off ≤ 300000 := by
    have l4 : 0 ≤ lw 4 ∧ lw 4 ≤ 100 := by obtain ⟨_, _, _, _, _, _, _, _, l5, l6, _⟩ := l; exact ⟨l5, l6⟩
    have tp1 : 0 ≤ a3 * lw 4 := Int.mul_nonneg ta l4.1
    have tp2 : a3 * lw 4 ≤ a3 * 100 := Int.mul_le_mul_of_nonneg_left l4.2 ta
    rw [eo]
    by_cases z : lw 3 ≤ lw 2
    · rw [if_pos z]; omega
    · rw [if_neg z]; omega
  generalize eh : htz lw (su i) (hm 31 v) = hit at hb
  generalize ell : ldz n (lw 7) st i bend = ld at lb k93
  obtain ⟨lo, elo⟩ : ∃ lo, lo = if hm 18 i = 0 then ld else 0 := ⟨_, rfl⟩
  have lob : 0 ≤ lo ∧ lo ≤ 3000000 := by
    rw [elo]
    by_cases z : hm 18 i = 0
    · rw [if_pos z]; omega
    · rw [if_neg z]; omega
  have eloC : (if hc 95 i = 1 then 0 else ld) = lo := by
    rw [elo, j1]
    rcases j2 with z | z
    · rw [if_neg (by omega), if_pos z]
    · rw [if_pos z, if_neg (by omega)]
  generalize (if hm 26 v = 0 then (1 : Int) else 0) = v3
  obtain ⟨v4, hv4⟩ : ∃ v4, v4 = if hm 29 v = 1 then (1 : Int) else 0 := ⟨_, rfl⟩
  rw [← hv4]
  have eC := go_in (N := N) (tk := tk) (v3 := v3) (v4 := v4) s1 l (show v < 200 by omega) n60 hi b94 g1 g2 g3 eh c6 k93
  generalize hB : pv_up (pv_up (pv_up hc 97 v (i : Int)) 98 v hit) 82 (1000 + v) (pv_w (hm 30 v + 1)) = hcB at eC
  generalize hD : pv_up (pv_up hm 31 v hit) 30 v (pv_w (hm 30 v + 1)) = hmB
  have fB : ∀ x y, ¬ ((x = 97 ∨ x = 98) ∧ y = v ∨ x = 82 ∧ y = 1000 + v) → hcB x y = hc x y := fun x y np => by rw [← hB, pv_up_ne (by omega), pv_up_ne (by omega), pv_up_ne (by omega)]
  have fD : ∀ x y, ¬ ((x = 31 ∨ x = 30) ∧ y = v) → hmB x y = hm x y := fun x y np => by rw [← hD, pv_up_ne (by omega), pv_up_ne (by omega)]
  have eloM : fX10_loadOf N (i : Int) hmB = some lo := by
    unfold fX10_loadOf
    rw [if_pos (by omega), tnc, fD 18 i (by omega), fD 0 36 (by omega), s7]
    by_cases z : hm 18 i = 0
    · rw [if_pos z, load_M gb l (s2.frm (fun x y np => fD x y (by unfold DMz at np; omega))) hi b0 (by omega), c1s, elo, if_pos z, ell]
    · rw [if_neg z, elo, if_neg z]
  have eM := com_in (N := N) (tk := tk) (a3 := a3) (off := off) (lo := lo) s2 l (show v < 200 by omega) n60 hi nbr rfl g2 g3 eh e rfl ta tb eo (by rw [hD]; exact eloM) lob.1 lob.2
  rw [hD] at eM
  rw [eloC] at eC
  by_cases z0 : hit = 0
  · -- nothing is left of it
    rw [if_pos z0] at eC eM
    generalize hA : pv_up (pv_up hc 97 v (i : Int)) 98 v hit = hcA at eC
    generalize hE : pv_up (pv_up hm 31 v hit) 19 v 0 = hmA at eM
    have fA : ∀ x y, ¬ ((x = 97 ∨ x = 98) ∧ y = v) → hcA x y = hc x y := fun x y np => by rw [← hA, pv_up_ne (by omega), pv_up_ne (by omega)]
    have fE : ∀ x y, ¬ ((x = 31 ∨ x = 19) ∧ y = v) → hmA x y = hm x y := fun x y np => by rw [← hE, pv_up_ne (by omega), pv_up_ne (by omega)]
    have e19 : hmA 19 v = 0 := by rw [← hE, pv_up_self]
    have WA : WRz nw ng hcA hmA := W.mid (v := v) (fun x y _ n1 n2 n3 => fA x y (by omega)) (fun x y _ n1 => fE x y (by omega)) (by rw [fA _ _ (by omega), fE _ _ (by omega)]; exact c6) (by rw [fE _ _ (by omega)]; exact ⟨c11, c12⟩) (Or.inl e19)
    refine ⟨hcA, hmA, 0, eC, eM, nb, nw, ng, B0, S.frm (fun x y np => fA x y (by unfold DCz at np; omega)) (fun x y np => fE x y (by unfold DMz at np; omega)), L.frm (fun x y q => fA x y (by omega)) (fun x y q => fE x y (by omega)), B.frm (fun x y q => fA x y (by unfold BCz at q; omega)) (fun x y q => fE x y (by unfold BMz at q; omega)), ?_, fun x y np => fA x y (by unfold DCz at np; omega), fun x y np => fE x y (by unfold DMz at np; omega)⟩
    exact fin_W hv W G (EXz.rf WA) (fun w hw ne => ⟨fA _ _ (by omega), fA _ _ (by omega), fE _ _ (by omega), fE _ _ (by omega)⟩) (fun w hw => ⟨fE _ _ (by omega), fE _ _ (by omega), fE _ _ (by omega)⟩) (fun a => fA _ _ (by omega)) (Or.inl rfl) e19 (fun z => by omega)
  · rw [if_neg z0] at eC eM
    have h1 : 0 < hit := by omega
    unfold fX1_goesOn_248 at eC
    unfold fX10_comes_228 at eM
    rw [bbs, pv_w_id (x := hit + lo) (by omega) (by omega), fB 78 9 (by omega), s5, if_pos rfl, if_pos (by omega), fB 78 8 (by omega), s4, pv_w_id (x := hit + lo - off) (by omega) (by omega), tnc, fB 92 i (by omega), k92] at eC
    rw [fD 0 43 (by omega), s6, if_pos rfl, if_pos (by omega), pv_w_id (x := lo + hit - off) (by omega) (by omega), tnc, fD 11 i (by omega), k11] at eM
    have pc : -2147483648 ≤ pv_w (hm 30 v + 1) ∧ pv_w (hm 30 v + 1) ≤ 2147483647 := ⟨pv_w_lo _, pv_w_hi _⟩
    have d30 : hmB 30 v = pv_w (hm 30 v + 1) := by rw [← hD, pv_up_self]
    have d31 : hmB 31 v = hit := by rw [← hD, pv_up_ne (by omega), pv_up_self]
    have d82 : hcB 82 (1000 + v) = pv_w (hm 30 v + 1) := by rw [← hB, pv_up_self]
    have d98 : hcB 98 v = hit := by rw [← hB, pv_up_ne (by omega), pv_up_self]
    have d97 : hcB 97 v = (i : Int) := by rw [← hB, pv_up_ne (by omega), pv_up_ne (by omega), pv_up_self]
    by_cases z1 : hit + lo - off ≤ str i
    · -- it goes on
      rw [if_pos z1] at eC
      rw [if_pos (show lo + hit - off ≤ str i by omega), if_pos (by omega)] at eM
      -- the reference
      obtain ⟨o1, ho1⟩ : ∃ o1, o1 = if lo + hit ≤ str i then hm 0 40 else pv_w (hm 0 40 + 1) := ⟨_, rfl⟩
      have o1b : -2147483648 ≤ o1 ∧ o1 ≤ 2147483647 := by
        rw [ho1]
        by_cases z : lo + hit ≤ str i
        · rw [if_pos z]; exact ⟨L3, L4⟩
        · rw [if_neg z]; exact ⟨pv_w_lo _, pv_w_hi _⟩
      have eM2 : fX10_comes_42 N (v : Int) tk a3 s (hm 25 v) hm = some (pv_up (pv_up hmB 0 40 o1) 18 i 1) := by
        rw [eM]
        unfold fX10_comes_312
        rw [fD 0 40 (by omega)]
        by_cases z : lo + hit ≤ str i
        · rw [if_pos z, bbs, if_pos (by omega), tnc, Int.add_zero, pv_w_id L3 L4, bbs, ho1, if_pos z]
        · rw [if_neg z, bbs, if_pos (by omega), tnc, bbs, ho1, if_neg z]
      generalize hE : pv_up (pv_up hmB 0 40 o1) 18 i 1 = hmC at eM2
      have fE : ∀ x y, ¬ (x = 0 ∧ y = 40 ∨ x = 18 ∧ y = i) → hmC x y = hmB x y := fun x y np => by rw [← hE, pv_up_ne (by omega), pv_up_ne (by omega)]
      have m40 : hmC 0 40 = o1 := by rw [← hE, pv_up_ne (by omega), pv_up_self]
      have m18 : hmC 18 i = 1 := by rw [← hE, pv_up_self]
      -- the class
      have cl : ∃ hcC, fX1_goesOn_69 N (v : Int) tk v3 v4 (i : Int) hc = some (hcC, 1) ∧ (∀ x y, ¬ (x = 78 ∧ (y = 1 ∨ y = 2) ∨ x = 80 ∧ y = 3 ∨ x = 95 ∧ y = i) → hcC x y = hcB x y) ∧ hcC 80 3 = o1 ∧ hcC 95 i = 1 := by
        have f334 : ∀ g : pv_H, ∃ g', fX1_goesOn_334 N (v : Int) tk v4 (i : Int) (hit + lo) g = some (g', 1) ∧ ∀ x y, ¬ (x = 78 ∧ (y = 1 ∨ y = 2)) → g' x y = g x y := by
          intro g
          unfold fX1_goesOn_334 fX1_goesOn_347
          by_cases y : hm 29 v = 1
          · rw [if_pos y] at hv4
            rw [if_neg (by omega)]
            exact ⟨g, rfl, fun _ _ _ => rfl⟩
          · rw [if_neg y] at hv4
            rw [if_pos hv4]
            obtain ⟨g', n1, n2⟩ := note_C (N := N) (i : Int) (hit + lo) g
            rw [n1, c1s]
            exact ⟨g', rfl, n2⟩
        rw [eC]
        unfold fX1_goesOn_301
        rw [if_pos (by omega), bbs, if_pos (by omega), tnc, pv_up_ne (by omega), fB 92 i (by omega), k92]
        by_cases z : hit + lo ≤ str i
        · rw [if_pos z]
          obtain ⟨g', n1, n2⟩ := f334 (pv_up hcB 95 i 1)
          refine ⟨g', n1, fun x y np => ?_, ?_, ?_⟩
          · rw [n2 _ _ (by omega), pv_up_ne (by omega)]
          · rw [n2 _ _ (by omega), pv_up_ne (by omega), fB _ _ (by omega), L2, ho1, if_pos (by omega)]
          · rw [n2 _ _ (by omega), pv_up_self]
        · rw [if_neg z, bbs]
          obtain ⟨g', n1, n2⟩ := f334 (pv_up (pv_up hcB 95 i 1) 80 3 (pv_w (pv_up hcB 95 i 1 80 3 + 1)))
          refine ⟨g', n1, fun x y np => ?_, ?_, ?_⟩
          · rw [n2 _ _ (by omega), pv_up_ne (by omega), pv_up_ne (by omega)]
          · rw [n2 _ _ (by omega), pv_up_self, pv_up_ne (by omega), fB _ _ (by omega), L2, ho1, if_neg (by omega)]
          · rw [n2 _ _ (by omega), pv_up_ne (by omega), pv_up_self]
      obtain ⟨hcC, eC2, fC, m80, m95⟩ := cl
      have F : ∀ x y, ¬ (x = 78 ∧ (y = 1 ∨ y = 2) ∨ x = 80 ∧ y = 3 ∨ x = 95 ∧ y = i ∨ (x = 97 ∨ x = 98) ∧ y = v ∨ x = 82 ∧ y = 1000 + v) → hcC x y = hc x y := fun x y np => by rw [fC _ _ (by omega), fB _ _ (by omega)]
      have F2 : ∀ x y, ¬ (x = 0 ∧ y = 40 ∨ x = 18 ∧ y = i ∨ (x = 31 ∨ x = 30) ∧ y = v) → hmC x y = hm x y := fun x y np => by rw [fE _ _ (by omega), fD _ _ (by omega)]
      have e19 : hmC 19 v = 1 := by rw [F2 _ _ (by omega)]; exact go
      have WA : WRz nw ng hcC hmC := W.mid (v := v) (fun x y z n1 n2 n3 => F x y (by unfold FCz at z; omega)) (fun x y z n1 => F2 x y (by unfold FMz at z; omega)) (by rw [fC _ _ (by omega), fE _ _ (by omega), d82, d30]) (by rw [fE _ _ (by omega), d30]; exact pc) (Or.inr e19)
      have LA : LTz n hcC hmC := by
        refine ⟨fun k hk => ?_, by rw [m80, m40], by rw [m40]; exact o1b.1, by rw [m40]; exact o1b.2⟩
        by_cases ek : k = i
        · subst ek
          rw [m95, m18]
          exact ⟨rfl, Or.inr rfl⟩
        · rw [F _ _ (by omega), F2 _ _ (by omega)]
          exact L1 k hk
      refine ⟨hcC, hmC, 1, eC2, eM2, nb, nw, ng, B0, S.frm (fun x y np => F x y (by unfold DCz at np; omega)) (fun x y np => F2 x y (by unfold DMz at np; omega)), LA, B.frm (fun x y q => F x y (by unfold BCz at q; omega)) (fun x y q => F2 x y (by unfold BMz at q; omega)), ?_, fun x y np => F x y (by unfold DCz at np; omega), fun x y np => F2 x y (by unfold DMz at np; omega)⟩
      refine fin_W hv W G (EXz.rf WA) (fun w hw ne => ⟨F _ _ (by omega), F _ _ (by omega), F2 _ _ (by omega), F2 _ _ (by omega)⟩) (fun w hw => ⟨F2 _ _ (by omega), F2 _ _ (by omega), F2 _ _ (by omega)⟩) (fun a => F _ _ (by omega)) (Or.inr rfl) e19 (fun _ => ?_)
      have v98 : hcC 98 v = hit := by rw [fC _ _ (by omega)]; exact d98
      have v97 : hcC 97 v = (i : Int) := by rw [fC _ _ (by omega)]; exact d97
      have v31 : hmC 31 v = hit := by rw [fE _ _ (by omega)]; exact d31
      rw [v98, v97, v31]
      exact ⟨rfl, by omega, by omega, ⟨q, q0, eq, r0, r1⟩, fun _ => by omega, fun _ => by omega, g7, g8⟩
    · -- it breaks
      rw [if_neg z1] at eC
      rw [if_neg (show ¬ lo + hit - off ≤ str i by omega), if_pos (by omega), bbs, tnc] at eM
      generalize hE : pv_up hmB 19 v 0 = hmA at eM
      have fE : ∀ x y, ¬ (x = 19 ∧ y = v) → hmA x y = hmB x y := fun x y np => by rw [← hE, pv_up_ne (by omega)]
      have F2 : ∀ x y, ¬ ((x = 31 ∨ x = 30 ∨ x = 19) ∧ y = v) → hmA x y = hm x y := fun x y np => by rw [fE _ _ (by omega), fD _ _ (by omega)]
      have e19 : hmA 19 v = 0 := by rw [← hE, pv_up_self]
      have WA : WRz nw ng hcB hmA := W.mid (v := v) (fun x y z n1 n2 n3 => fB x y (by unfold FCz at z; omega)) (fun x y z n1 => F2 x y (by unfold FMz at z; omega)) (by rw [fE _ _ (by omega), d82, d30]) (by rw [fE _ _ (by omega), d30]; exact pc) (Or.inl e19)
      have BA : BRz n nb hcB hmA := B.frm (fun x y q => fB x y (by unfold BCz at q; omega)) (fun x y q => F2 x y (by unfold BMz at q; omega))
      have m29 : hmA 29 v = hm 29 v := F2 _ _ (by omega)
      rw [if_pos (by omega), m29, pv_w_id (x := 1 + hm 29 v) (by omega) (by omega)] at eM
      obtain ⟨hc', hm', nw', ng', x1, x2, x3, x4, x5, x6, x7, x8⟩ := brk_2 (N := N) (tk := tk) (lw := lw) (sg := sg) (str := str) (c := i) (kd := 1 + hm 29 v) (how := 1 + hm 29 v) (by' := hit + lo - off) WA BA l n3 n60 (by rw [fB _ _ (by omega)]; exact s1.2.2.2.2.2.1) (by rw [fB _ _ (by omega)]; exact s1.2.2.2.2.2.2 0 (by omega)) (by rw [F2 _ _ (by omega)]; exact s2.2.2 0 (by omega)) (by rw [F2 _ _ (by omega)]; exact s2.1) hi (by rw [F2 _ _ (by omega)]; exact nbr) (by rw [F2 _ _ (by omega)]; exact (s2.2.1 i hi).2.1) (by rw [F2 _ _ (by omega)]; exact k11) (Or.inl ⟨by omega, rfl⟩) t0 t2 (by omega) (by omega)
      have eC2 : fX1_goesOn_69 N (v : Int) tk v3 v4 (i : Int) hc = some (hc', 0) := by
        rw [eC]
        unfold fX1_goesOn_289
        rw [fB 78 8 (by omega), s4, pv_w_id (x := hit + lo - off) (by omega) (by omega)]
        rcases c8 with y | y
        · rw [if_neg (show ¬ hm 29 v = 1 by omega)] at hv4
          rw [if_pos hv4]
          rw [y] at x1
          have x1 : fX1_breakCell N (i : Int) tk 1 (hit + lo - off) hcB = some hc' := x1
          rw [x1, c1s]
        · rw [if_pos y] at hv4
          rw [if_neg (by omega)]
          rw [y] at x1
          have x1 : fX1_breakCell N (i : Int) tk 2 (hit + lo - off) hcB = some hc' := x1
          rw [x1, c1s]
      have eM2 : fX10_comes_42 N (v : Int) tk a3 s (hm 25 v) hm = some hm' := by
        have ex : lo + hit - off = hit + lo - off := by omega
        rw [eM, ex, x2, c1s]
      have H : ∀ x y, ¬ FCz x y → ¬ BCz x y → hc' x y = hc x y := fun x y n1 n2 => by rw [x7 x y n1 n2, fB x y (by unfold FCz at n1; omega)]
      have H2 : ∀ x y, ¬ FMz x y → ¬ BMz x y → hm' x y = hm x y := fun x y n1 n2 => by rw [x8 x y n1 n2, F2 x y (by unfold FMz at n1; omega)]
      refine ⟨hc', hm', 0, eC2, eM2, nb + 1, nw', ng', Nat.succ_pos nb, S.frm (fun x y np => H x y (by unfold DCz at np; unfold FCz; omega) (by unfold DCz at np; unfold BCz; omega)) (fun x y np => H2 x y (by unfold DMz at np; unfold FMz; omega) (by unfold DMz at np; unfold BMz; omega)), L.frm (fun x y q => H x y (by unfold FCz; omega) (by unfold BCz; omega)) (fun x y q => H2 x y (by unfold FMz; omega) (by unfold BMz; omega)), x4, ?_, fun x y np => H x y (by unfold DCz at np; unfold FCz; omega) (by unfold DCz at np; unfold BCz; omega), fun x y np => H2 x y (by unfold DMz at np; unfold FMz; omega) (by unfold DMz at np; unfold BMz; omega)⟩
      exact fin_W hv W G x3 (fun w hw ne => ⟨fB _ _ (by omega), fB _ _ (by omega), F2 _ _ (by omega), F2 _ _ (by omega)⟩) (fun w hw => ⟨F2 _ _ (by omega), F2 _ _ (by omega), F2 _ _ (by omega)⟩) (fun a => fB _ _ (by omega)) (Or.inl rfl) e19 (fun z => by omega)
/-- one step of one WAVE -/
theorem step_N (hN : 100 ≤ N) (hv : v < nw) (W : WRz nw ng hc hm) (G : GWz (lw 2) n nw last hc hm) (gb : brz n st sg su) (l : lwB lw) (b0 : 0 ≤ bend) (b1 : bend ≤ 237600) (hs2 : ∀ i, i < n → 1 ≤ str i ∧ str i ≤ 999) (S : STz r n st sg su lw str bend off 0 hc hm) (L : LTz n hc hm) (B : BRz n nb hc hm) (B0 : 0 < nb) (go : hm 19 v = 1) (hl : last v = tk - lw 2) (t0 : 0 ≤ tk) (t2 : tk ≤ 4000) (ta : 0 ≤ a3) (tb : a3 ≤ 300000) (eo : off = if lw 3 ≤ lw 2 then a3 * lw 4 / 100 else 0) : ∃ hc' hm' rr, fX1_goesOn N (v : Int) tk hc = some (hc', rr) ∧ fX10_comes N (v : Int) tk a3 hm = some hm' ∧ PSz r n st sg su lw str bend off tk v nw ng last rr hc hm hc' hm' := by
  obtain ⟨q, at', s, q0, eq, r0, r1, eC, eM, e⟩ := enter_2 (N := N) (a3 := a3) hv W G l S.2.1 gb.2.1 go hl t2
  rw [eC, eM]
  have c7 := (W.2.2.2.2.2 v hv).2.2.2.2.2.2.1
  by_cases out : at' < 0 ∨ (n : Int) ≤ at' ∨ 0 ≤ at' ∧ at' < n ∧ hm 17 at'.toNat = 1
  · obtain ⟨hc', hm', x1, x2, x3⟩ := step_out (N := N) (a3 := a3) hv W G l S L B B0 gb.2.1 go t0 t2 (fun z => ⟨(r0 z).2.1, (r0 z).2.2⟩) (fun z => ⟨(r1 z).2.1, (r1 z).2.2⟩) e out
    exact ⟨hc', hm', 0, x1, x2, x3⟩
  · obtain ⟨i, rfl⟩ := Int.eq_ofNat_of_zero_le (show 0 ≤ at' by omega)
    rw [tnc] at out
    have nb0 := (B.2.2.2.1 i (by omega)).2
    exact step_in hN hv W G gb l b0 b1 hs2 S L B B0 go t0 t2 ta tb eo q0 eq (by omega) (fun z => (r0 z).1) (fun z => (r1 z).1) e (by omega)
end STEPI
