/-! BEYOND: RUNS in which nothing breaks but the first: one step of one WAVE -/
def GRz (n : Nat) (str : Nat → Int) (hc hm : pv_H) : Prop := (hc 78 1 = -1 ∧ hc 78 2 = -1 ∧ hm 0 60 = -1) ∨ ∃ k : Nat, k < n ∧ hc 78 2 = (k : Int) ∧ hm 0 60 = (k : Int) ∧ hc 78 1 = hm 0 59 ∧ 1 ≤ hm 0 59 ∧ hm 0 59 ≤ 4000000 ∧ hm 0 61 = hm 0 59 - str k
theorem GRz.frm {n : Nat} {str : Nat → Int} {hc hm hc' hm' : pv_H} (R : GRz n str hc hm) (f : ∀ x y, x = 78 ∧ (y = 1 ∨ y = 2) → hc' x y = hc x y) (g : ∀ x y, x = 0 ∧ (y = 59 ∨ y = 60 ∨ y = 61) → hm' x y = hm x y) : GRz n str hc' hm' := by
  unfold GRz at R ⊢
  rw [f 78 1 (by omega), f 78 2 (by omega), g 0 59 (by omega), g 0 60 (by omega), g 0 61 (by omega)]
  exact R
theorem note_2 {N n i v : Nat} {str : Nat → Int} {x : Int} {g m : pv_H} (R : GRz n str g m) (hv : v < 200) (hi : i < n) (n60 : n ≤ 60) (m11 : m 11 i = str i) (m29 : ¬ m 29 v = 1) (x1 : 1 ≤ x) (x2 : x ≤ 4000000) (sb : 1 ≤ str i ∧ str i ≤ 999) : ∃ g' m', fX1_noteGreatest N (i : Int) x g = some g' ∧ fX10_looks N (v : Int) (i : Int) x m = some m' ∧ GRz n str g' m' ∧ (∀ a b, ¬ (a = 78 ∧ (b = 1 ∨ b = 2)) → g' a b = g a b) ∧ ∀ a b, ¬ (a = 0 ∧ (b = 59 ∨ b = 60 ∨ b = 61)) → m' a b = m a b := by
  obtain ⟨gs, hgs⟩ : ∃ gs, gs = pv_up (pv_up g 78 1 x) 78 2 (i : Int) := ⟨_, rfl⟩
  obtain ⟨ms, hms⟩ : ∃ ms, ms = pv_up (pv_up (pv_up m 0 59 x) 0 60 (i : Int)) 0 61 (x - str i) := ⟨_, rfl⟩
  have fg : ∀ a b, ¬ (a = 78 ∧ (b = 1 ∨ b = 2)) → gs a b = g a b := fun a b np => by rw [hgs, pv_up_ne (by omega), pv_up_ne (by omega)]
  have fm : ∀ a b, ¬ (a = 0 ∧ (b = 59 ∨ b = 60 ∨ b = 61)) → ms a b = m a b := fun a b np => by rw [hms, pv_up_ne (by omega), pv_up_ne (by omega), pv_up_ne (by omega)]
  have g1 : gs 78 1 = x := by rw [hgs, pv_up_ne (by omega), pv_up_self]
  have g2 : gs 78 2 = (i : Int) := by rw [hgs, pv_up_self]
  have m1 : ms 0 59 = x := by rw [hms, pv_up_ne (by omega), pv_up_ne (by omega), pv_up_self]
  have m2 : ms 0 60 = (i : Int) := by rw [hms, pv_up_ne (by omega), pv_up_self]
  have m3 : ms 0 61 = x - str i := by rw [hms, pv_up_self]
  have c24 : fX1_noteGreatest_24 N (i : Int) x g = some gs := by
    unfold fX1_noteGreatest_24 fX1_noteGreatest_34
    rw [bbs, bbs, hgs]
  have m44 : fX10_looks_44 N (v : Int) (i : Int) x m = some ms := by
    unfold fX10_looks_44
    rw [bbs, bbs, if_pos (by omega), tnc, pv_up_ne (by omega), pv_up_ne (by omega), m11, pv_w_id (by omega) (by omega), bbs, hms]
  have eM : fX10_looks N (v : Int) (i : Int) x m = if m 0 60 = -1 then some ms else if x < m 0 59 then some m else if x = m 0 59 then (if (i : Int) ≤ m 0 60 then some ms else some m) else some ms := by
    unfold fX10_looks fX10_looks_43
    rw [if_pos (by omega), tnc, if_neg m29, m44]
  have eC : fX1_noteGreatest N (i : Int) x g = if g 78 1 < x then some gs else if x = g 78 1 then (if g 78 2 ≤ (i : Int) then some g else some gs) else some g := by
    unfold fX1_noteGreatest fX1_noteGreatest_34
    rw [c24]
  have s : GRz n str gs ms := Or.inr ⟨i, hi, g2, m2, by rw [g1, m1], by rw [m1]; exact x1, by rw [m1]; exact x2, by rw [m3, m1]⟩
  rcases id R with ⟨r1, r2, r3⟩ | ⟨k, k0, k1, k2, k3, k4, k5, k6⟩
  · refine ⟨gs, ms, ?_, ?_, s, fg, fm⟩
    · rw [eC, r1, if_pos (by omega)]
    · rw [eM, if_pos r3]
  · have eC2 : fX1_noteGreatest N (i : Int) x g = if m 0 59 < x then some gs else if x = m 0 59 then (if (k : Int) ≤ (i : Int) then some g else some gs) else some g := by rw [eC, k1, k3]
    have eM2 : fX10_looks N (v : Int) (i : Int) x m = if x < m 0 59 then some m else if x = m 0 59 then (if (i : Int) ≤ (k : Int) then some ms else some m) else some ms := by rw [eM, k2, if_neg (show ¬ (k : Int) = -1 by omega)]
    by_cases y1 : m 0 59 < x
    · refine ⟨gs, ms, ?_, ?_, s, fg, fm⟩
      · rw [eC2, if_pos y1]
      · rw [eM2, if_neg (by omega), if_neg (by omega)]
    · rw [if_neg y1] at eC2
      by_cases y2 : x = m 0 59
      · rw [if_pos y2] at eC2
        rw [if_neg (by omega), if_pos y2] at eM2
        by_cases y3 : (k : Int) ≤ (i : Int)
        · rw [if_pos y3] at eC2
          by_cases y4 : (i : Int) ≤ (k : Int)
          · rw [if_pos y4] at eM2
            exact ⟨g, ms, eC2, eM2, Or.inr ⟨i, hi, by omega, m2, by rw [m1, k3, y2], by rw [m1]; exact x1, by rw [m1]; exact x2, by rw [m3, m1]⟩, fun _ _ _ => rfl, fm⟩
          · rw [if_neg y4] at eM2
            exact ⟨g, m, eC2, eM2, R, fun _ _ _ => rfl, fun _ _ _ => rfl⟩
        · rw [if_neg y3] at eC2
          rw [if_pos (by omega)] at eM2
          exact ⟨gs, ms, eC2, eM2, s, fg, fm⟩
      · rw [if_neg y2] at eC2
        rw [if_pos (by omega)] at eM2
        exact ⟨g, m, eC2, eM2, R, fun _ _ _ => rfl, fun _ _ _ => rfl⟩
section ALONE
variable {N r n v i c nw ng nb : Nat} {st sg su lw str : Nat → Int} {bend off tk a3 : Int} {last : Nat → Int} {hc hm : pv_H}
/-- an ECHO that comes to no cell, or to a broken one -/
theorem out_echo {at' : Int} (hv : v < 200) (s1 : clz hc r n st sg su lw) (l : lwB lw) (h60 : n ≤ 60) (e29 : hm 29 v = 1) (out' : at' < 0 ∨ (n : Int) ≤ at' ∨ 0 ≤ at' ∧ at' < n ∧ hc 94 at'.toNat = 1) (g1 : hc 98 v = hm 31 v) (g2 : 0 ≤ hm 31 v) (g3 : hm 31 v ≤ 1000000) : fX1_goesOn_69 N (v : Int) tk (if hm 26 v = 0 then 1 else 0) (if hm 29 v = 1 then 1 else 0) at' hc = some (pv_up hc 97 v at', 0) := by
  obtain ⟨l1, l2⟩ := law_g s1
  rw [go_out s1 hv h60 out']
  refine (go_107 (am := hm 31 v) (lw := lw) hv ?_ ?_ l ?_ ?_ g2 g3 rfl).trans ?_
  · rw [pv_up_ne (by omega)]; exact l1
  · rw [pv_up_ne (by omega)]; exact l2
  · rw [pv_up_ne (by omega)]; exact s1.2.2.2.2.2.2 5 (by omega)
  · rw [pv_up_ne (by omega)]; exact g1
  · have z : ¬ ((if hm 29 v = 1 then (1 : Int) else 0) = 0 ∧ 0 < hm 31 v * lw 5 / 100) := fun q => by
      rw [if_pos e29] at q
      omega
    rw [if_neg z]
theorem step_al (hN : 100 ≤ N) (hv : v < nw) (W : WRz nw ng hc hm) (G : GWz (lw 2) n nw last hc hm) (gb : brz n st sg su) (l : lwB lw) (b0 : 0 ≤ bend) (b1 : bend ≤ 237600) (hs2 : ∀ i, i < n → 1 ≤ str i ∧ str i ≤ 999) (S : STz r n st sg su lw str bend off 1 hc hm) (B : BRz n nb hc hm) (go : hm 19 v = 1) (t0 : 0 ≤ tk) (t2 : tk ≤ 4000) (ta : 0 ≤ a3) (tb : a3 ≤ 300000) (eo : off = if lw 3 ≤ lw 2 then a3 * lw 4 / 100 else 0) {s q : Int} (q0 : 0 ≤ q) (eq : tk = hm 27 v + lw 2 * q) (hi : i < n) (r0 : hm 26 v = 0 → (i : Int) = hm 25 v - q) (r1 : hm 26 v = 1 → (i : Int) = hm 25 v + q) (e : pv_w (hm 25 v + s) = (i : Int)) (nbr : hm 17 i = 0) (z18 : hm 18 i = 0) (l95 : hc 95 i = 0 ∨ hc 95 i = 1) (ne : ¬ hm 29 v = 1 → hc 95 i = 0) (R : GRz n str hc hm) : ∃ hc' hm' rr, fX1_goesOn_69 N (v : Int) tk (if hm 26 v = 0 then 1 else 0) (if hm 29 v = 1 then 1 else 0) (i : Int) hc = some (hc', rr) ∧ fX10_comes_42 N (v : Int) tk a3 s (hm 25 v) hm = some hm' ∧ SWz (lw 2) tk n v nw ng nw ng last rr hc hm hc' hm' ∧ GRz n str hc' hm' ∧ (hc' 95 i = 0 ∨ hc' 95 i = 1) ∧ hc' 97 v = (i : Int) ∧ (∀ x y, ¬ (x = 78 ∧ (y = 1 ∨ y = 2) ∨ x = 80 ∧ y = 3 ∨ x = 95 ∧ y = i ∨ (x = 97 ∨ x = 98) ∧ y = v ∨ x = 82 ∧ y = 1000 + v) → hc' x y = hc x y) ∧ ∀ x y, ¬ (x = 0 ∧ (y = 59 ∨ y = 60 ∨ y = 61) ∨ (x = 31 ∨ x = 30 ∨ x = 19) ∧ y = v) → hm' x y = hm x y := by
  obtain ⟨w1, w2, w3, w4, w5, w6⟩ := id W
  obtain ⟨c1, c2, c3, c4, c5, c6, c7, c8, c9, c10, c11, c12, c13⟩ := w6 v hv
  obtain ⟨g1, g2, g3, _, _, _, g7, g8⟩ := G v hv go
  obtain ⟨s1, s2, s3, s4, s5, s6, s7⟩ := id S
  obtain ⟨k92, k11, k93⟩ := s3 i hi
  have n60 := gb.2.1
  have n3 := gb.1
  have sb := hs2 i hi
  have hb := htz_b (s := su i) l g2 g3
  have lb := ld_b (st := st) (sg := sg) (su := su) gb l hi b0
  have b94 : ¬ hc 94 i = 1 := by rw [(B.2.2.2.1 i hi).1]; omega
  generalize eh : htz lw (su i) (hm 31 v) = hit at hb
  generalize ell : ldz n (lw 7) st i bend = ld at lb k93
  have ld3 : 0 ≤ ld ∧ ld ≤ 3000000 := by omega
  obtain ⟨lc, elc⟩ : ∃ lc, lc = if hc 95 i = 1 then 0 else ld := ⟨_, rfl⟩
  have lcb : 0 ≤ lc ∧ lc ≤ 3000000 := by
    rw [elc]
    by_cases z : hc 95 i = 1
    · rw [if_pos z]; omega
    · rw [if_neg z]; omega
  generalize (if hm 26 v = 0 then (1 : Int) else 0) = v3
  obtain ⟨v4, hv4⟩ : ∃ v4, v4 = if hm 29 v = 1 then (1 : Int) else 0 := ⟨_, rfl⟩
  rw [← hv4]
  have eC := go_in (N := N) (tk := tk) (v3 := v3) (v4 := v4) s1 l (show v < 200 by omega) n60 hi b94 g1 g2 g3 eh c6 k93
  generalize hB : pv_up (pv_up (pv_up hc 97 v (i : Int)) 98 v hit) 82 (1000 + v) (pv_w (hm 30 v + 1)) = hcB at eC
  generalize hD : pv_up (pv_up hm 31 v hit) 30 v (pv_w (hm 30 v + 1)) = hmB
  have fB : ∀ x y, ¬ ((x = 97 ∨ x = 98) ∧ y = v ∨ x = 82 ∧ y = 1000 + v) → hcB x y = hc x y := fun x y np => by rw [← hB, pv_up_ne (by omega), pv_up_ne (by omega), pv_up_ne (by omega)]
  have fD : ∀ x y, ¬ ((x = 31 ∨ x = 30) ∧ y = v) → hmB x y = hm x y := fun x y np => by rw [← hD, pv_up_ne (by omega), pv_up_ne (by omega)]
  have eloM : fX10_loadOf N (i : Int) hmB = some ld := by
    unfold fX10_loadOf
    rw [if_pos (by omega), tnc, fD 18 i (by omega), fD 0 36 (by omega), s7, if_pos z18, load_M gb l (s2.frm (fun x y np => fD x y (by unfold DMz at np; omega))) hi b0 (by omega), c1s, ell]
  have eM := com_in (N := N) (tk := tk) (a3 := a3) (off := off) (lo := ld) s2 l (show v < 200 by omega) n60 hi nbr rfl g2 g3 eh e rfl ta tb eo (by rw [hD]; exact eloM) ld3.1 ld3.2
  rw [hD] at eM
  rw [← elc] at eC
  by_cases z0 : hit = 0
  · rw [if_pos z0] at eC eM
    generalize hA : pv_up (pv_up hc 97 v (i : Int)) 98 v hit = hcA at eC
    generalize hE : pv_up (pv_up hm 31 v hit) 19 v 0 = hmA at eM
    have fA : ∀ x y, ¬ ((x = 97 ∨ x = 98) ∧ y = v) → hcA x y = hc x y := fun x y np => by rw [← hA, pv_up_ne (by omega), pv_up_ne (by omega)]
    have fE : ∀ x y, ¬ ((x = 31 ∨ x = 19) ∧ y = v) → hmA x y = hm x y := fun x y np => by rw [← hE, pv_up_ne (by omega), pv_up_ne (by omega)]
    have e19 : hmA 19 v = 0 := by rw [← hE, pv_up_self]
    have WA : WRz nw ng hcA hmA := W.mid (v := v) (fun x y _ n1 n2 n3 => fA x y (by omega)) (fun x y _ n1 => fE x y (by omega)) (by rw [fA _ _ (by omega), fE _ _ (by omega)]; exact c6) (by rw [fE _ _ (by omega)]; exact ⟨c11, c12⟩) (Or.inl e19)
    refine ⟨hcA, hmA, 0, eC, eM, ?_, R.frm (fun x y z => fA x y (by omega)) (fun x y z => fE x y (by omega)), by rw [fA _ _ (by omega)]; exact l95, by rw [← hA, pv_up_ne (by omega), pv_up_self], fun x y np => fA x y (by omega), fun x y np => fE x y (by omega)⟩
    exact fin_W hv W G (EXz.rf WA) (fun w hw ne => ⟨fA _ _ (by omega), fA _ _ (by omega), fE _ _ (by omega), fE _ _ (by omega)⟩) (fun w hw => ⟨fE _ _ (by omega), fE _ _ (by omega), fE _ _ (by omega)⟩) (fun a => fA _ _ (by omega)) (Or.inl rfl) e19 (fun z => by omega)
  · rw [if_neg z0] at eC eM
    have h1 : 0 < hit := by omega
    unfold fX1_goesOn_248 at eC
    unfold fX10_comes_228 at eM
    rw [bbs, pv_w_id (x := hit + lc) (by omega) (by omega), fB 78 9 (by omega), s5, if_neg (by omega)] at eC
    rw [fD 0 43 (by omega), s6, if_neg (by omega)] at eM
    have pc : -2147483648 ≤ pv_w (hm 30 v + 1) ∧ pv_w (hm 30 v + 1) ≤ 2147483647 := ⟨pv_w_lo _, pv_w_hi _⟩
    have d30 : hmB 30 v = pv_w (hm 30 v + 1) := by rw [← hD, pv_up_self]
    have d31 : hmB 31 v = hit := by rw [← hD, pv_up_ne (by omega), pv_up_self]
    have d82 : hcB 82 (1000 + v) = pv_w (hm 30 v + 1) := by rw [← hB, pv_up_self]
    have d98 : hcB 98 v = hit := by rw [← hB, pv_up_ne (by omega), pv_up_self]
    have d97 : hcB 97 v = (i : Int) := by rw [← hB, pv_up_ne (by omega), pv_up_ne (by omega), pv_up_self]
    -- up to what is noted
    have cl : ∃ hcD, fX1_goesOn_69 N (v : Int) tk v3 v4 (i : Int) hc = fX1_goesOn_334 N (v : Int) tk v4 (i : Int) (hit + lc) hcD ∧ (∀ x y, ¬ (x = 80 ∧ y = 3 ∨ x = 95 ∧ y = i) → hcD x y = hcB x y) ∧ hcD 95 i = 1 := by
      rw [eC]
      unfold fX1_goesOn_301
      rw [if_pos (by omega), bbs, if_pos (by omega), tnc]
      by_cases z : hit + lc ≤ pv_up hcB 95 i 1 92 i
      · rw [if_pos z]
        exact ⟨pv_up hcB 95 i 1, rfl, fun x y np => pv_up_ne (by omega), pv_up_self _ _ _ _⟩
      · rw [if_neg z, bbs]
        exact ⟨_, rfl, fun x y np => by rw [pv_up_ne (by omega), pv_up_ne (by omega)], by rw [pv_up_ne (by omega), pv_up_self]⟩
    obtain ⟨hcD, eC2, fD2, m95⟩ := cl
    -- what both note
    have nt : ∃ hcC hmC, fX1_goesOn_334 N (v : Int) tk v4 (i : Int) (hit + lc) hcD = some (hcC, 1) ∧ fX10_looks N (v : Int) (i : Int) (ld + hit) hmB = some hmC ∧ GRz n str hcC hmC ∧ (∀ x y, ¬ (x = 78 ∧ (y = 1 ∨ y = 2)) → hcC x y = hcD x y) ∧ ∀ x y, ¬ (x = 0 ∧ (y = 59 ∨ y = 60 ∨ y = 61)) → hmC x y = hmB x y := by
      have RD : GRz n str hcD hmB := R.frm (fun x y z => by rw [fD2 x y (by omega), fB x y (by omega)]) (fun x y z => fD x y (by omega))
      unfold fX1_goesOn_334 fX1_goesOn_347
      by_cases y : hm 29 v = 1
      · rw [if_pos y] at hv4
        rw [if_neg (by omega)]
        refine ⟨hcD, hmB, rfl, ?_, RD, fun _ _ _ => rfl, fun _ _ _ => rfl⟩
        unfold fX10_looks
        rw [if_pos (by omega), tnc, fD 29 v (by omega), if_pos y]
      · rw [if_neg y] at hv4
        rw [if_pos hv4]
        have e95 := ne y
        have el : lc = ld := by rw [elc, if_neg (by omega)]
        have ex : ld + hit = hit + lc := by omega
        rw [ex]
        obtain ⟨g', m', n1, n2, n3', n4, n5⟩ := note_2 (N := N) (i := i) (v := v) (x := hit + lc) RD (by omega) hi n60 (by rw [fD 11 i (by omega)]; exact k11) (by rw [fD 29 v (by omega)]; exact y) (by omega) (by omega) sb
        rw [n1, c1s]
        exact ⟨g', m', rfl, n2, n3', n4, n5⟩
    obtain ⟨hcC, hmC, eC3, eM3, RC, fC, fE⟩ := nt
    have F : ∀ x y, ¬ (x = 78 ∧ (y = 1 ∨ y = 2) ∨ x = 80 ∧ y = 3 ∨ x = 95 ∧ y = i ∨ (x = 97 ∨ x = 98) ∧ y = v ∨ x = 82 ∧ y = 1000 + v) → hcC x y = hc x y := fun x y np => by rw [fC _ _ (by omega), fD2 _ _ (by omega), fB _ _ (by omega)]
    have F2 : ∀ x y, ¬ (x = 0 ∧ (y = 59 ∨ y = 60 ∨ y = 61) ∨ (x = 31 ∨ x = 30) ∧ y = v) → hmC x y = hm x y := fun x y np => by rw [fE _ _ (by omega), fD _ _ (by omega)]
    have e19 : hmC 19 v = 1 := by rw [F2 _ _ (by omega)]; exact go
    have x30 : hmC 30 v = pv_w (hm 30 v + 1) := by rw [fE _ _ (by omega)]; exact d30
    have x82 : hcC 82 (1000 + v) = pv_w (hm 30 v + 1) := by rw [fC _ _ (by omega), fD2 _ _ (by omega)]; exact d82
    have WA : WRz nw ng hcC hmC := W.mid (v := v) (fun x y z n1 n2 n3 => F x y (by unfold FCz at z; omega)) (fun x y z n1 => F2 x y (by unfold FMz at z; omega)) (by rw [x82, x30]) (by rw [x30]; exact pc) (Or.inr e19)
    have v98 : hcC 98 v = hit := by rw [fC _ _ (by omega), fD2 _ _ (by omega)]; exact d98
    have v97 : hcC 97 v = (i : Int) := by rw [fC _ _ (by omega), fD2 _ _ (by omega)]; exact d97
    have v31 : hmC 31 v = hit := by rw [fE _ _ (by omega)]; exact d31
    have v95 : hcC 95 i = 1 := by rw [fC _ _ (by omega)]; exact m95
    refine ⟨hcC, hmC, 1, by rw [eC2, eC3], by rw [eM, eM3, c1s], ?_, RC, Or.inr v95, v97, F, fun x y np => F2 x y (by omega)⟩
    refine fin_W hv W G (EXz.rf WA) (fun w hw ne => ⟨F _ _ (by omega), F _ _ (by omega), F2 _ _ (by omega), F2 _ _ (by omega)⟩) (fun w hw => ⟨F2 _ _ (by omega), F2 _ _ (by omega), F2 _ _ (by omega)⟩) (fun a => F _ _ (by omega)) (Or.inr rfl) e19 (fun _ => ?_)
    rw [v98, v97, v31]
    exact ⟨rfl, by omega, by omega, ⟨q, q0, eq, r0, r1⟩, fun _ => by omega, fun _ => by omega, g7, g8⟩
end ALONE
