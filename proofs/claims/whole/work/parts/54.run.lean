/-! a run, both -/
/-- what holds between two moves -/
def JNz (r n : Nat) (st sg su lw str : Nat → Int) (bend off : Int) (hc0 hm0 : pv_H) (last : Nat → Int) (nw ng : Nat) (hc hm : pv_H) : Prop := (∃ nb, 0 < nb ∧ BRz n nb hc hm) ∧ STz r n st sg su lw str bend off 0 hc hm ∧ LTz n hc hm ∧ WRz nw ng hc hm ∧ GWz (lw 2) n nw last hc hm ∧ (∀ x y, ¬ DCz x y → hc x y = hc0 x y) ∧ ∀ x y, ¬ DMz x y → ¬ (x = 0 ∧ y = 41) → hm x y = hm0 x y
/-- a run's RESULTS, both -/
def RESz (n np : Nat) (hc hm : pv_H) : Prop := ∃ nb nw ng : Nat, BRz n nb hc hm ∧ WRz nw ng hc hm ∧ 1 ≤ np ∧ np ≤ n ∧ hc 80 1 = (np : Int) ∧ hm 0 42 = (np : Int) ∧ (∀ k, k < np → hc 83 k = hm 24 k ∧ 1 ≤ hm 24 k ∧ hm 24 k ≤ 60) ∧ hc 80 3 = hm 0 40 ∧ hc 80 4 = hm 0 41 ∧ hc 80 5 = hm 0 36 ∧ hc 80 6 = hm 0 37 ∧ hc 80 7 = sumz (hm 18) n ∧ ∀ i, i < n → hm 18 i = 0 ∨ hm 18 i = 1
section RUN
variable {N n r : Nat} {st sg su lw str bd tn : Nat → Int} {last : Nat} {hc hm : pv_H} {a1 al : Int}
theorem JN_ok (l : lwB lw) {bend off : Int} {hc0 hm0 : pv_H} : JOK n (lw 2) (JNz r n st sg su lw str bend off hc0 hm0) := by
  have l2 : 1 ≤ lw 2 ∧ lw 2 ≤ 9 := by obtain ⟨_, _, _, _, l3, l4, _⟩ := l; exact ⟨l3, l4⟩
  refine ⟨fun last nw ng hc hm J => J.2.2.2.1, fun last nw ng hc hm J => J.2.2.2.2.1, l2.1, l2.2, fun last last' nw ng hc hm e J => ?_, fun last nw ng ng' hc hc' hm J f e le => ?_, fun last nw ng hc hm J => J.2.1.2.1.2.2 2 (by omega), fun last nw ng hc hm hm' J g => ?_, fun last nw ng hc hm J => ?_⟩
  · obtain ⟨j1, j2, j3, j4, j5, j6, j7⟩ := J
    refine ⟨j1, j2, j3, j4, fun w hw go => ?_, j6, j7⟩
    have := j5 w hw go
    rw [e w hw go] at this
    exact this
  · obtain ⟨⟨nb, b0, b1⟩, j2, j3, j4, j5, j6, j7⟩ := J
    have F : ∀ x y, ¬ DCz x y → hc' x y = hc x y := fun x y np => f x y (by unfold DCz at np; omega) (by unfold DCz at np; omega)
    refine ⟨⟨nb, b0, b1.frm (fun x y q => f x y (by unfold BCz at q; omega) (by unfold BCz at q; omega)) (fun _ _ _ => rfl)⟩, j2.frm F (fun _ _ _ => rfl), j3.frm (fun x y q => f x y (by omega) (by omega)) (fun _ _ _ => rfl), ?_, fun w hw go => ?_, fun x y np => by rw [F x y np]; exact j6 x y np, j7⟩
    · obtain ⟨w1, w2, w3, w4, w5, w6⟩ := j4
      refine ⟨by rw [f _ _ (by omega) (by omega)]; exact w1, w2, w3, e, le, fun w hw => ?_⟩
      rw [f _ _ (by omega) (by omega), f _ _ (by omega) (by omega), f _ _ (by omega) (by omega), f _ _ (by omega) (by omega), f _ _ (by omega) (by omega), f _ _ (by omega) (by omega)]
      exact w6 w hw
    · rw [f _ _ (by omega) (by omega), f _ _ (by omega) (by omega)]
      exact j5 w hw go
  · obtain ⟨⟨nb, b0, b1⟩, j2, j3, j4, j5, j6, j7⟩ := J
    refine ⟨⟨nb, b0, b1.frm (fun _ _ _ => rfl) (fun x y q => g x y (by unfold BMz at q; omega))⟩, ?_, j3.frm (fun _ _ _ => rfl) (fun x y q => g x y (by omega)), j4.frm (fun _ _ _ => rfl) (fun x y q => g x y (by unfold FMz at q; omega)), fun w hw go => ?_, j6, fun x y n1 n2 => by rw [g x y n2]; exact j7 x y n1 n2⟩
    · obtain ⟨s1, s2, s3, s4, s5, s6, s7⟩ := j2
      refine ⟨s1, s2.fr2 (fun x y q => g x y (by omega)), fun i hi => ?_, s4, s5, by rw [g _ _ (by omega)]; exact s6, by rw [g _ _ (by omega)]; exact s7⟩
      rw [g 11 i (by omega)]
      exact s3 i hi
    · rw [g 19 w (by omega)] at go
      rw [g 31 w (by omega), g 27 w (by omega), g 26 w (by omega), g 25 w (by omega)]
      exact j5 w hw go
  · obtain ⟨⟨nb, b0, b1⟩, _⟩ := J
    rw [b1.2.1]
    omega
theorem rdz.frm {h h' : pv_H} (c : rdz h n st lw str bd tn last) (f : ∀ x y, ¬ RCz x y → h' x y = h x y) (z : h 78 6 = -1 → h' 80 4 = h 80 4) : rdz h' n st lw str bd tn last := by
  obtain ⟨L, T, hL, h1, h2, h3⟩ := c
  refine ⟨L, T, hL, h1, h2, ?_⟩
  rw [f 78 7 (by unfold RCz DCz; omega), f 78 6 (by unfold RCz DCz; omega), f 80 5 (by unfold RCz DCz; omega), f 80 6 (by unfold RCz DCz; omega)]
  rcases h3 with ⟨a1, a2, a3, a4, a5, a6, a7⟩ | ⟨a1, a2, a3, a4⟩
  · exact Or.inl ⟨a1, a2, a3, a4, a5, a6, fun i hi => by rw [f _ _ (by unfold RCz DCz; omega)]; exact a7 i hi⟩
  · exact Or.inr ⟨a1, a2, by rw [z a2]; exact a3, a4⟩
theorem RDC.frm {h h' : pv_H} (c : RDC h r n st sg su lw str bd tn last) (f : ∀ x y, ¬ RCz x y → h' x y = h x y) (z : h 78 6 = -1 → h' 80 4 = h 80 4) : RDC h' r n st sg su lw str bd tn last := by
  obtain ⟨c1, c2, c3⟩ := c
  exact ⟨c1.frm (fun x y n1 n2 => f x y (by unfold RCz DCz; omega)), fun i hi => by rw [f _ _ (by unfold RCz DCz; omega)]; exact c2 i hi, c3.frm f z⟩
theorem RDM.frm {h h' : pv_H} (c : RDM h n st sg su lw str bd tn last) (f : ∀ x y, ¬ RMz x y → h' x y = h x y) : RDM h' n st sg su lw str bd tn last := by
  obtain ⟨c1, c2, c3, c4, c5, c6, c7⟩ := c
  refine ⟨c1.fr2 (fun x y q => f x y (by unfold RMz DMz; omega)), fun i hi => by rw [f _ _ (by unfold RMz DMz; omega)]; exact c2 i hi, by rw [f _ _ (by unfold RMz DMz; omega)]; exact c3, c4, by rw [f _ _ (by unfold RMz DMz; omega)]; exact c5, by rw [f _ _ (by unfold RMz DMz; omega)]; exact c6, fun t ht => ?_⟩
  rw [f _ _ (by unfold RMz DMz; omega), f _ _ (by unfold RMz DMz; omega), f _ _ (by unfold RMz DMz; omega)]
  exact c7 t ht
theorem run_2 (hN : 10000 ≤ N) (gb : brz n st sg su) (l : lwB lw) (hs2 : ∀ i, i < n → 1 ≤ str i ∧ str i ≤ 999) (RC : RDC hc r n st sg su lw str bd tn last) (RM : RDM hm n st sg su lw str bd tn last) (e43 : hm 0 43 = 0) (ha1 : a1 = -1 ∨ 0 ≤ a1 ∧ a1 ≤ 999) : ∃ (hc' hm' : pv_H) (np : Nat), fX1_sendWaves N a1 0 hc = some (hc', (np : Int)) ∧ fX10_runs N a1 hm = some hm' ∧ RESz n np hc' hm' ∧ RDC hc' r n st sg su lw str bd tn last ∧ RDM hm' n st sg su lw str bd tn last ∧ (∀ x y, ¬ RCz x y → hc' x y = hc x y) ∧ ∀ x y, ¬ RMz x y → hm' x y = hm x y := by
  have n3 := gb.1
  have n60 := gb.2.1
  have l2 : 1 ≤ lw 2 ∧ lw 2 ≤ 9 := by obtain ⟨_, _, _, _, l3, l4, _⟩ := l; exact ⟨l3, l4⟩
  -- the PIECES, and the end
  have fin : ∀ (hcE hmE : pv_H) (nb nw ng : Nat), fX1_sendWaves N a1 0 hc = fX1_sendWaves_219 N a1 0 hcE → fX10_runs N a1 hm = fX10_runs_338 N a1 hmE → clz hcE r n st sg su lw → mlz hmE n st sg su lw → BRz n nb hcE hmE → WRz nw ng hcE hmE → LTz n hcE hmE → hcE 80 4 = hmE 0 41 → hcE 80 5 = hmE 0 36 → hcE 80 6 = hmE 0 37 → (∀ x y, ¬ RCz x y → hcE x y = hc x y) → (∀ x y, ¬ RMz x y → hmE x y = hm x y) → (hc 78 6 = -1 → hcE 80 4 = hc 80 4) → ∃ (hc' hm' : pv_H) (np : Nat), fX1_sendWaves N a1 0 hc = some (hc', (np : Int)) ∧ fX10_runs N a1 hm = some hm' ∧ RESz n np hc' hm' ∧ RDC hc' r n st sg su lw str bd tn last ∧ RDM hm' n st sg su lw str bd tn last ∧ (∀ x y, ¬ RCz x y → hc' x y = hc x y) ∧ ∀ x y, ¬ RMz x y → hm' x y = hm x y := by
    intro hcE hmE nb nw ng eC eM c m B W L q4 q5 q6 F G z
    obtain ⟨hc', hm', np, x1, x2, x3, x4, x5, x6, x7, x8, x9, x10⟩ := count_2 (N := N) (n := n) (r := r) (by omega) n3 n60 c.1 c.2.1 c.2.2.1 c.2.2.2.1 m.1 B.2.2.2.1 (fun i hi => by have := L.1 i hi; omega)
    have F' : ∀ x y, ¬ RCz x y → hc' x y = hc x y := fun x y np' => by rw [x9 x y (by unfold RCz at np'; omega) (by unfold RCz at np'; omega), F x y np']
    have G' : ∀ x y, ¬ RMz x y → hm' x y = hm x y := fun x y np' => by rw [x10 x y (by unfold RMz at np'; omega) (by unfold RMz at np'; omega), G x y np']
    have e18 : ∀ i, hm' 18 i = hmE 18 i := fun i => x10 _ _ (by omega) (by omega)
    refine ⟨hc', hm', np, ?_, ?_, ⟨nb, nw, ng, ?_, ?_, x4, x3, x5, x6, x8, ?_, ?_, ?_, ?_, ?_, fun i hi => ?_⟩, RC.frm F' (fun y => by rw [x9 80 4 (by omega) (by omega)]; exact z y), RM.frm G', F', G'⟩
    · rw [eC]
      unfold fX1_sendWaves_219
      rw [x1, c1s, x5]
    · rw [eM]
      unfold fX10_runs_338
      rw [x2, c1s]
    · exact B.frm (fun x y q => x9 x y (by unfold BCz at q; omega) (by unfold BCz at q; omega)) (fun x y q => x10 x y (by unfold BMz at q; omega) (by unfold BMz at q; omega))
    · exact W.frm (fun x y q => x9 x y (by unfold FCz at q; omega) (by unfold FCz at q; omega)) (fun x y q => x10 x y (by unfold FMz at q; omega) (by unfold FMz at q; omega))
    · rw [x9 _ _ (by omega) (by omega), x10 _ _ (by omega) (by omega)]; exact L.2.1
    · rw [x9 _ _ (by omega) (by omega), x10 _ _ (by omega) (by omega)]; exact q4
    · rw [x9 _ _ (by omega) (by omega), x10 _ _ (by omega) (by omega)]; exact q5
    · rw [x9 _ _ (by omega) (by omega), x10 _ _ (by omega) (by omega)]; exact q6
    · rw [x7]
      exact sumz_congr n (fun i hi => by rw [e18, (L.1 i hi).1])
    · rw [e18]; exact (L.1 i hi).2
  obtain ⟨hcA, hmA, F, G, H⟩ := prel_2 (N := N) hN gb l hs2 RC RM e43 (Or.inl rfl) ha1
  rcases H with ⟨eC, eM, c, m, L, B, W, q4, q41, q5, q6, _⟩ | ⟨T, c, off, a3, t4, n78, eC, eM, q41, ea, a30, a31, eo, b0, b1, q5, q6, BG⟩
  · refine fin hcA hmA 0 0 0 eC eM c m B W L (by rw [q4, q41]) q5 q6 F G (fun y => ?_)
    obtain ⟨_, _, L', T', _, t1, t2, t3⟩ := RC
    rcases t3 with ⟨z1, z2, z3, z4, _⟩ | ⟨_, _, z3, _⟩
    · exfalso
      have all : ¬ ∀ i, i < n → ldz n (lw 7) st i (bd T') - str i ≤ 0 := fun q => by
        obtain ⟨hL1, hL2, hL3⟩ := ‹Lz n (lw 7) st str L'›
        have b := (RM.2.2.2.2.2.2 T' z1).2.2.1
        have := (hL3 (bd T') b).mpr (fun i hi => by have := q i hi; omega)
        omega
      rcases amz_p (fun i => ldz n (lw 7) st i (bd T') - str i) n with ⟨_, _, q⟩ | ⟨ci, _, q, _⟩
      · exact all q
      · rw [z4, q] at y; omega
    · rw [q4, z3]
  · obtain ⟨S, L, B, W, G0, gz, _⟩ := BG
    have K := JN_ok (n := n) (r := r) (st := st) (sg := sg) (su := su) (str := str) (bend := bd T) (off := off) (hc0 := hcA) (hm0 := hmA) l
    have el : (T : Int) + lw 2 - lw 2 = T := by omega
    obtain ⟨hc1, hm1, nw', ng', e, last', x1, x2, x3, x4, x5, x6⟩ := loops (N := N) (a1 := a1) (a3 := a3) (A1 := a1) (A2 := 0) K hN (fun tk last nw ng hc hm v t0 t1 J hv go hl _ => by
      obtain ⟨⟨nb, b0', b1'⟩, j2, j3, j4, j5, j6, j7⟩ := J
      obtain ⟨hc', hm', rr, y1, y2, nb', nw', ng', y3, y4, y5, y6, y7, y8, y9⟩ := step_N (N := N) (tk := tk) (a3 := a3) (by omega) hv j4 j5 gb l b0 b1 hs2 j2 j3 b1' b0' go hl t0 t1 a30 a31 eo
      exact ⟨hc', hm', rr, nw', ng', y1, y2, y7, ⟨⟨nb', y3, y6⟩, y4, y5, y7.2.2.1, y7.2.2.2.2.2.2.2.2, fun x y np => by rw [y8 x y np]; exact j6 x y np, fun x y n1 n2 => by rw [y9 x y n1]; exact j7 x y n1 n2⟩, y9 _ _ (by unfold DMz; omega), y9 _ _ (by unfold DMz; omega)⟩) 4000 N N ((T : Int) + lw 2) 2 2 hcA hmA (by omega) (by omega) (by omega) (by omega) (by omega) (by omega) (by rw [el]; exact ⟨⟨1, by omega, B⟩, S, L, W, G0, fun _ _ _ => rfl, fun _ _ _ _ => rfl⟩) gz (by rw [q41]; omega) ea (by omega)
    rw [el] at x1
    obtain ⟨⟨nb, b0', b1'⟩, j2, j3, j4, j5, j6, j7⟩ := x3
    generalize hE : pv_up hc1 80 4 e = hcE
    have fE : ∀ x y, ¬ (x = 80 ∧ y = 4) → hcE x y = hc1 x y := fun x y np => by rw [← hE, pv_up_ne (by omega)]
    have e4 : hcE 80 4 = e := by rw [← hE, pv_up_self]
    refine fin hcE hm1 nb nw' ng' ?_ ?_ (j2.1.frm (fun x y n1 n2 => fE x y (by omega))) j2.2.1 (b1'.frm (fun x y q => fE x y (by unfold BCz at q; omega)) (fun _ _ _ => rfl)) (j4.frm (fun x y q => fE x y (by unfold FCz at q; omega)) (fun _ _ _ => rfl)) (j3.frm (fun x y q => fE x y (by omega)) (fun _ _ _ => rfl)) (by rw [e4, x4]) ?_ ?_ (fun x y np => ?_) (fun x y np => ?_) (fun y => absurd y n78)
    · rw [eC, x1]
      unfold fX1_sendWaves_218
      rw [if_pos (by omega), bbs, show Int.toNat 4 = 4 from rfl, hE]
    · rw [eM, x2]
    · rw [fE _ _ (by omega), j6 _ _ (by unfold DCz; omega), q5, j2.2.2.2.2.2.2]
    · rw [fE _ _ (by omega), j6 _ _ (by unfold DCz; omega), q6, j7 _ _ (by unfold DMz; omega) (by omega)]
    · rw [fE x y (by unfold RCz at np; omega), j6 x y (by unfold RCz at np; exact fun h => np (Or.inl h))]
      exact F x y np
    · rw [j7 x y (by unfold RMz at np; exact fun h => np (Or.inl h)) (by unfold RMz at np; omega)]
      exact G x y np
end RUN
