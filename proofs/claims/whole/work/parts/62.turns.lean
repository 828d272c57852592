/-! calls that try turn after turn: least, line, grid */ -/
section SENDEQ
variable {N : Nat}
theorem send159_eq (t t' a2 : Int) : ∀ (f : Nat) (v3 v4 v5 : Int) (h : pv_H), fX1_sendWaves_159 N t a2 f v3 v4 v5 h = fX1_sendWaves_159 N t' a2 f v3 v4 v5 h := by
  intro f
  induction f with
  | zero => intro v3 v4 v5 h; rw [fX1_sendWaves_159, fX1_sendWaves_159]
  | succ f ih =>
    intro v3 v4 v5 h
    rw [fX1_sendWaves_159, fX1_sendWaves_159]
    simp only [ih]
    rfl
theorem send39_eq {t t' a2 s0 s0' o : Int} {h : pv_H} (e1 : fX2_offBy N 23 s0 h = some o) (e2 : fX2_offBy N 23 s0' h = some o) : fX1_sendWaves_39 N t a2 s0 23 h = fX1_sendWaves_39 N t' a2 s0' 23 h := by
  unfold fX1_sendWaves_39
  rw [e1, e2]
  have e : ∀ f v3 v4 v5 h, fX1_sendWaves_159 N t a2 f v3 v4 v5 h = fX1_sendWaves_159 N t' a2 f v3 v4 v5 h := send159_eq t t' a2
  simp only [e]
  rfl
/-- the class's run depends on the turn only by what it takes off -/
theorem send_eq {t t' : Int} {hc : pv_H} {lw : Nat → Int} (l : lwB lw) (e4 : hc 78 4 = 23) (hl : ∀ j, j < 8 → hc 24 j = lw j) (t0 : 0 ≤ t) (t1 : t ≤ 999) (s0 : 0 ≤ t') (s1 : t' ≤ 999) (eo : (if lw 3 ≤ lw 2 then t * lw 4 / 100 else 0) = (if lw 3 ≤ lw 2 then t' * lw 4 / 100 else 0)) : fX1_sendWaves N t 0 hc = fX1_sendWaves N t' 0 hc := by
  have F : ∀ x y, ¬ (x = 78 ∧ (y = 1 ∨ y = 2 ∨ y = 9)) → (pv_up (pv_up (pv_up hc 78 9 0) 78 1 (-1)) 78 2 (-1)) x y = hc x y := fun x y np => by rw [pv_up_ne (by omega), pv_up_ne (by omega), pv_up_ne (by omega)]
  unfold fX1_sendWaves
  rw [if_pos (Or.inl rfl), if_pos (Or.inl rfl), bbs, bbs, bbs, bbs, bbs, bbs]
  generalize pv_up (pv_up (pv_up hc 78 9 0) 78 1 (-1)) 78 2 (-1) = h4 at F
  have q4 : h4 78 4 = 23 := by rw [F _ _ (by omega)]; exact e4
  have t23 : Int.toNat 23 = 23 := rfl
  have g : 0 ≤ (23 : Int) ∧ Int.toNat 23 ∈ pv_l2 := ⟨by decide, by decide⟩
  simp only [bbs, q4, if_pos g, t23, if_neg (show ¬ t = -1 by omega), if_neg (show ¬ t' = -1 by omega)]
  have o1 := off_C (N := N) (hc := h4) l (fun j hj => by rw [F _ _ (by omega)]; exact hl j hj) t0 (show t ≤ 300000 by omega)
  have o2 := off_C (N := N) (hc := h4) l (fun j hj => by rw [F _ _ (by omega)]; exact hl j hj) s0 (show t' ≤ 300000 by omega)
  rw [← eo] at o2
  exact send39_eq o1 o2
end SENDEQ
/-- the reference made ready -/
theorem ready_M {N n a b m : Nat} {fl seed p : Int} {st sg no su lw K U T : Nat → Int} {hm : pv_H} (hN : 2000 ≤ N) (ha : a < 4) (hb : b < 4) (g : grz n fl st sg no su) (v : vrz hm (242 * a) n fl st sg no su) (gd : gdz K U T) (vd : mvz hm (968 + 37 * b) m K U T) (hlw : ∀ j, j < 8 → hm 2 (1116 + j) = lw j) (hp : 1 ≤ p) (hp2 : p ≤ 9) : ∃ m1 m2 m3, fX10_takes N (a : Int) hm = some m1 ∧ fX10_does N (b : Int) p m1 = some m2 ∧ fX10_draws N seed m2 = some m3 ∧ RDM m3 n st sg su lw (spz fl sg no seed) (bdz K U T p m) (tnz K U T p m) (lsz T p m) ∧ frz PMz hm m3 := by
  obtain ⟨m1, e3, f1, f2⟩ := takes_M (N := N) (by omega) ha g.1 g.2.1 v
  have vd1 : mvz m1 (968 + 37 * b) m K U T := by
    obtain ⟨q1, q2, q3⟩ := vd
    refine ⟨by rw [f1 _ _ (by unfold PTz; omega)]; exact q1, q2, fun j hj => ?_⟩
    rw [f1 2 _ (by unfold PTz; omega), f1 2 _ (by unfold PTz; omega), f1 2 _ (by unfold PTz; omega)]
    exact q3 j hj
  obtain ⟨m2, e4, f3, f4⟩ := ready_D (N := N) (p := p) hN hb vd1 gd hp hp2
  have f5 : mrz m2 n fl st sg no su := f2.frm (fun x y q => f3 x y (by unfold PDz; omega))
  obtain ⟨m3, e5, f6, f7⟩ := draw_M (N := N) (seed := seed) (by omega) g f5
  refine ⟨m1, m2, m3, e3, e4, e5, RDM.mk' ?_ f7 (f4.frm (fun x y q => f6 x y (by omega))), ?_⟩
  · refine mrz.ml (f5.frm (fun x y q => f6 x y (by omega))) (fun j hj => ?_)
    rw [f6 _ _ (by omega), f3 _ _ (by unfold PDz; omega), f1 _ _ (by unfold PTz; omega)]
    exact hlw j hj
  · exact ((f1.mono fun x y q => PTz_PM q).tr (f3.mono fun x y q => PDz_PM q)).tr (fun x y np => f6 x y (by unfold PMz at np; omega))
/-- turn after turn -/
theorem least_R {hc hm : pv_H} {n r : Nat} {st sg su lw str bd tn : Nat → Int} {last : Nat} {a1 a2 a3 a4 : Int} (gb : brz n st sg su) (l : lwB lw) (hs : ∀ i, i < n → 1 ≤ str i ∧ str i ≤ 999) (RC : RDC hc r n st sg su lw str bd tn last) (RM : RDM hm n st sg su lw str bd tn last) (e43 : hm 0 43 = 0) : ∃ (hc' hm' : pv_H) (x : Int), fX9_leastTurn_45 pv_NN a1 a2 a3 a4 pv_NN 0 hc = some (hc', x) ∧ fX10_leastTurn_14 pv_NN a1 a2 a3 a4 pv_NN 0 hm = some (hm', x) ∧ (∀ x y, ¬ RCz x y → hc' x y = hc x y) ∧ ∀ x y, ¬ RMz x y → hm' x y = hm x y := by
  -- what each turn gives
  obtain ⟨V, hV⟩ : ∃ V : Nat → Nat, ∀ t : Nat, t ≤ 999 → ∃ hm', fX10_runs pv_NN (t : Int) hm = some hm' ∧ hm' 0 42 = (V t : Int) := by
    have : ∀ t : Nat, ∃ np : Nat, t ≤ 999 → ∃ hm', fX10_runs pv_NN (t : Int) hm = some hm' ∧ hm' 0 42 = (np : Int) := fun t => by
      by_cases ht : t ≤ 999
      · obtain ⟨hc', hm', np, x1, x2, x3, _⟩ := run_2 (N := pv_NN) (a1 := (t : Int)) (by decide) gb l hs RC RM e43 (Or.inr ⟨by omega, by omega⟩)
        exact ⟨np, fun _ => ⟨hm', x2, x3.choose_spec.choose_spec.choose_spec.2.2.2.2.2.1⟩⟩
      · exact ⟨0, fun h => absurd h ht⟩
    exact ⟨fun t => (this t).choose, fun t => (this t).choose_spec⟩
  have cC : ∀ (t : Nat) (h : pv_H), t ≤ 999 → RDC h r n st sg su lw str bd tn last → ∃ h', fX1_sendWaves pv_NN (t : Int) 0 h = some (h', (V t : Int)) ∧ RDC h' r n st sg su lw str bd tn last ∧ ∀ x y, ¬ RCz x y → h' x y = h x y := by
    intro t h ht C
    obtain ⟨hc', hm', np, x1, x2, x3, x4, x5, x6, _⟩ := run_2 (N := pv_NN) (a1 := (t : Int)) (by decide) gb l hs C RM e43 (Or.inr ⟨by omega, by omega⟩)
    obtain ⟨hm2, y1, y2⟩ := hV t ht
    rw [x2] at y1
    cases y1
    have := x3.choose_spec.choose_spec.choose_spec.2.2.2.2.2.1
    rw [this] at y2
    exact ⟨hc', by rw [x1, y2], x4, x6⟩
  have cM : ∀ (t : Nat) (h : pv_H), t ≤ 999 → RDM h n st sg su lw str bd tn last → h 0 43 = 0 → ∃ h', fX10_runs pv_NN (t : Int) h = some h' ∧ h' 0 42 = (V t : Int) ∧ RDM h' n st sg su lw str bd tn last ∧ ∀ x y, ¬ RMz x y → h' x y = h x y := by
    intro t h ht C z
    obtain ⟨hc', hm', np, x1, x2, x3, x4, x5, x6, x7⟩ := run_2 (N := pv_NN) (a1 := (t : Int)) (by decide) gb l hs RC C z (Or.inr ⟨by omega, by omega⟩)
    obtain ⟨h2, y1, _⟩ := cC t hc ht RC
    rw [x1] at y1
    have e : (np : Int) = (V t : Int) := by
      have := Option.some.inj y1
      exact (Prod.mk.inj this).2
    exact ⟨hm', x2, by rw [← e]; exact x3.choose_spec.choose_spec.choose_spec.2.2.2.2.2.1, x5, x7⟩
  have same : ∀ t : Nat, 1 ≤ t → t ≤ 999 → (if lw 3 ≤ lw 2 then (t : Int) * lw 4 / 100 else 0) = (if lw 3 ≤ lw 2 then ((t - 1 : Nat) : Int) * lw 4 / 100 else 0) → V t = V (t - 1) := by
    intro t h1 h2 eo
    obtain ⟨x, x1, _⟩ := cC t hc h2 RC
    obtain ⟨y, y1, _⟩ := cC (t - 1) hc (by omega) RC
    rw [send_eq l RC.1.2.2.2.2.2.1 RC.1.2.2.2.2.2.2 (by omega) (by omega) (by omega) (by omega) eo, y1] at x1
    have := (Prod.mk.inj (Option.some.inj x1)).2
    omega
  have loop : ∀ (d t f f' : Nat) (h1 h2 : pv_H), t + d = 1000 → d < f → d < f' → (∀ u, u < t → V u ≠ 2) → RDC h1 r n st sg su lw str bd tn last → RDM h2 n st sg su lw str bd tn last → h2 0 43 = 0 → (∀ x y, ¬ RCz x y → h1 x y = hc x y) → (∀ x y, ¬ RMz x y → h2 x y = hm x y) → ∃ (hc' hm' : pv_H) (x : Int), fX9_leastTurn_45 pv_NN a1 a2 a3 a4 f (t : Int) h1 = some (hc', x) ∧ fX10_leastTurn_14 pv_NN a1 a2 a3 a4 f' (t : Int) h2 = some (hm', x) ∧ (∀ x y, ¬ RCz x y → hc' x y = hc x y) ∧ ∀ x y, ¬ RMz x y → hm' x y = hm x y := by
    intro d
    induction d with
    | zero =>
      intro t f f' h1 h2 q1 q2 q3 q4 C M z F G
      obtain ⟨f, rfl⟩ : ∃ g, f = g + 1 := ⟨f - 1, by omega⟩
      obtain ⟨f', rfl⟩ : ∃ g, f' = g + 1 := ⟨f' - 1, by omega⟩
      rw [fX9_leastTurn_45, fX10_leastTurn_14, if_pos (show (999 : Int) < (t : Int) by omega), if_pos (show (1000 : Int) ≤ (t : Int) by omega)]
      exact ⟨h1, h2, -1, rfl, rfl, F, G⟩
    | succ d ih =>
      intro t f f' h1 h2 q1 q2 q3 q4 C M z F G
      obtain ⟨f, rfl⟩ : ∃ g, f = g + 1 := ⟨f - 1, by omega⟩
      obtain ⟨f', rfl⟩ : ∃ g, f' = g + 1 := ⟨f' - 1, by omega⟩
      obtain ⟨m', y1, y2, y3, y4⟩ := cM t h2 (by omega) M z
      have z' : m' 0 43 = 0 := by rw [y4 _ _ (by unfold RMz DMz; omega)]; exact z
      have G' : ∀ x y, ¬ RMz x y → m' x y = hm x y := fun x y np => by rw [y4 x y np]; exact G x y np
      have eM : fX10_leastTurn_14 pv_NN a1 a2 a3 a4 (f' + 1) (t : Int) h2 = if V t = 2 then some (m', (t : Int)) else fX10_leastTurn_14 pv_NN a1 a2 a3 a4 f' ((t + 1 : Nat) : Int) m' := by
        rw [fX10_leastTurn_14, if_neg (show ¬ (1000 : Int) ≤ (t : Int) by omega), y1, c1s, y2]
        by_cases w : V t = 2
        · rw [if_pos (by omega), if_pos w]
        · rw [if_neg (by omega), if_neg w, bbs, pws (by omega)]
      -- the class runs, or not
      have runs : fX9_leastTurn_45 pv_NN a1 a2 a3 a4 (f + 1) (t : Int) h1 = fX9_leastTurn_87 pv_NN (fun v5_ hh => fX9_leastTurn_45 pv_NN a1 a2 a3 a4 f v5_ hh) a1 a2 a3 a4 (t : Int) h1 → ∃ (hc' hm' : pv_H) (x : Int), fX9_leastTurn_45 pv_NN a1 a2 a3 a4 (f + 1) (t : Int) h1 = some (hc', x) ∧ fX10_leastTurn_14 pv_NN a1 a2 a3 a4 (f' + 1) (t : Int) h2 = some (hm', x) ∧ (∀ x y, ¬ RCz x y → hc' x y = hc x y) ∧ ∀ x y, ¬ RMz x y → hm' x y = hm x y := by
        intro e
        obtain ⟨c', x1, x2, x3⟩ := cC t h1 (by omega) C
        have F' : ∀ x y, ¬ RCz x y → c' x y = hc x y := fun x y np => by rw [x3 x y np]; exact F x y np
        rw [e, eM]
        unfold fX9_leastTurn_87 fX9_leastTurn_92 fX9_leastTurn_116
        rw [if_neg n10, x1, c2s]
        by_cases w : V t = 2
        · rw [if_pos (show (V t : Int) = 2 by omega), if_pos w]
          exact ⟨c', m', (t : Int), rfl, rfl, F', G'⟩
        · rw [if_neg (show ¬ (V t : Int) = 2 by omega), if_neg w, bbs, pws (by omega)]
          exact ih (t + 1) f f' c' m' (by omega) (by omega) (by omega) (fun u hu => by
            by_cases e : u = t
            · subst e; exact w
            · exact q4 u (by omega)) x2 y3 z' F' G'
      by_cases t0 : t = 0
      · refine runs ?_
        rw [fX9_leastTurn_45, if_neg (show ¬ (999 : Int) < (t : Int) by omega), if_pos (show (t : Int) = 0 by omega)]
      · have o1 := off_C (N := pv_NN) (hc := h1) l C.1.2.2.2.2.2.2 (show 0 ≤ (t : Int) by omega) (show (t : Int) ≤ 300000 by omega)
        have o2 := off_C (N := pv_NN) (hc := h1) l C.1.2.2.2.2.2.2 (show 0 ≤ ((t - 1 : Nat) : Int) by omega) (show ((t - 1 : Nat) : Int) ≤ 300000 by omega)
        have et : pv_w ((t : Int) - 1) = ((t - 1 : Nat) : Int) := by rw [pv_w_id (by omega) (by omega)]; omega
        by_cases w : (if lw 3 ≤ lw 2 then (t : Int) * lw 4 / 100 else 0) = (if lw 3 ≤ lw 2 then ((t - 1 : Nat) : Int) * lw 4 / 100 else 0)
        · have sv := same t (by omega) (by omega) w
          have nv : V t ≠ 2 := by rw [sv]; exact q4 (t - 1) (by omega)
          have eC : fX9_leastTurn_45 pv_NN a1 a2 a3 a4 (f + 1) (t : Int) h1 = fX9_leastTurn_45 pv_NN a1 a2 a3 a4 f ((t + 1 : Nat) : Int) h1 := by
            rw [fX9_leastTurn_45, if_neg (show ¬ (999 : Int) < (t : Int) by omega), if_neg (show ¬ (t : Int) = 0 by omega), et, o1, o2, c1s, c1s, if_pos w]
            unfold fX9_leastTurn_92 fX9_leastTurn_116
            rw [if_pos rfl, bbs, pws (by omega)]
          rw [eC, eM, if_neg nv]
          exact ih (t + 1) f f' h1 m' (by omega) (by omega) (by omega) (fun u hu => by
            by_cases e : u = t
            · subst e; exact nv
            · exact q4 u (by omega)) C y3 z' F G'
        · refine runs ?_
          rw [fX9_leastTurn_45, if_neg (show ¬ (999 : Int) < (t : Int) by omega), if_neg (show ¬ (t : Int) = 0 by omega), et, o1, o2, c1s, c1s, if_neg w]
  exact loop 1000 0 pv_NN pv_NN hc hm (by omega) (by unfold pv_NN; omega) (by unfold pv_NN; omega) (fun u hu => by omega) RC RM e43 (fun _ _ _ => rfl) (fun _ _ _ => rfl)
theorem least_2 {hc hm : pv_H} (S : SSz hc hm) {a b : Nat} {seed p : Int} (hr : rodOk hm (a : Int)) (hb : b < 4) (hp : 1 ≤ p) (hp2 : p ≤ 9) : ∃ (hc' hm' : pv_H) (x : Int), fX9_leastTurn pv_NN (a : Int) (b : Int) seed p hc = some (hc', x) ∧ fX10_leastTurn pv_NN (a : Int) (b : Int) seed p hm = some (hm', x) ∧ SSz hc' hm' := by
  obtain ⟨h1, h2, m1, m2, m3, n, st, sg, su, lw, str, bd, tn, last, e1, e2, e3, e4, e5, RC, RM, gb, l, hs, F, G, e79, en⟩ := ready_2 S (seed := seed) hr hb hp hp2
  have z3 : m3 0 43 = 0 := by rw [G _ _ (by unfold PMz; omega)]; exact S.2.2.2.2.2.2
  obtain ⟨hcX, m4, np, x1, x2, x3, x4, x5, x6, x7⟩ := run_2 (N := pv_NN) (a1 := 0) (by decide) gb l hs RC RM z3 (Or.inr ⟨by omega, by omega⟩)
  have z4 : m4 0 43 = 0 := by rw [x7 _ _ (by unfold RMz DMz; omega)]; exact z3
  obtain ⟨hc', hm', x, y1, y2, y3, y4⟩ := least_R (a1 := (a : Int)) (a2 := (b : Int)) (a3 := seed) (a4 := p) gb l hs RC x5 z4
  refine ⟨hc', hm', x, ?_, ?_, S.frz (F.tr (RC_P y3)) ((G.tr (RM_P x7)).tr (RM_P y4))⟩
  · unfold fX9_leastTurn
    rw [if_pos (show 0 ≤ (a : Int) ∧ (a : Int) < 4 by have := hr.2.1; omega), tnc, bbs, e1, c1s, if_pos (show 0 ≤ (b : Int) ∧ (b : Int) < 4 by omega), tnc, bbs, e2, c1s, y1]
  · unfold fX10_leastTurn fX10_piecesOf
    rw [e3, c1s, e4, c1s, e5, c1s, x2, c1s, c2s, y2]
theorem s_least : sm_least SSz := by
  intro hc hm S a1 a2 a3 _ _ _
  refine two_th S fun hm S => ?_
  unfold fX9_least fX9_least_15
  by_cases hr : rodOk hm a1
  · obtain ⟨a, rfl⟩ := Int.eq_ofNat_of_zero_le hr.1
    rw [hasRod_1 S hr, c1s, if_neg n10]
    by_cases hd : 0 ≤ a2 ∧ a2 < 4
    · obtain ⟨b, rfl⟩ := Int.eq_ofNat_of_zero_le hd.1
      obtain ⟨hc', hm', x, y1, y2, y3⟩ := least_2 S (seed := a3) (p := 1) hr (show b < 4 by omega) (by omega) (by omega)
      rw [hasDo_1 hd, c1s, if_neg n10, isBoth_1 hr hd, c1s, if_neg n10, y1, y2, c2s, c2s]
      exact wend rfl y3
    · rw [hasDo_0 hd, c1s, if_pos rfl, isBoth_0 (fun z => hd z.2), c1s, if_pos rfl]
      exact no2 S
  · rw [hasRod_0 S hr, c1s, if_pos rfl, isBoth_0 (fun z => hr z.1), c1s, if_pos rfl]
    exact no2 S
theorem s_line : sm_line SSz := by
  intro hc hm S a1 a2 a3 a4 _ _ _ _
  refine two_th S fun hm S => ?_
  unfold fX9_line fX9_line_15
  by_cases hr : rodOk hm a1
  · obtain ⟨a, rfl⟩ := Int.eq_ofNat_of_zero_le hr.1
    rw [hasRod_1 S hr, c1s, if_neg n10]
    by_cases hd : 0 ≤ a2 ∧ a2 < 4
    · obtain ⟨b, rfl⟩ := Int.eq_ofNat_of_zero_le hd.1
      rw [hasDo_1 hd, c1s, if_neg n10, isBoth_1 hr hd, c1s, if_neg n10]
      by_cases hp : 1 ≤ a4 ∧ a4 ≤ 9
      · obtain ⟨hc', hm', x, y1, y2, y3⟩ := least_2 S (seed := a3) (p := a4) hr (show b < 4 by omega) hp.1 hp.2
        rw [pace_1 hp, c1s, if_neg n10, wn_1 hp, c1s, if_neg n10, y1, y2, c2s, c2s]
        exact wend rfl y3
      · rw [pace_0 hp, c1s, if_pos rfl, wn_0 hp, c1s, if_pos rfl]
        exact no3 S
    · rw [hasDo_0 hd, c1s, if_pos rfl, isBoth_0 (fun z => hd z.2), c1s, if_pos rfl]
      exact no2 S
  · rw [hasRod_0 S hr, c1s, if_pos rfl, isBoth_0 (fun z => hr z.1), c1s, if_pos rfl]
    exact no2 S
