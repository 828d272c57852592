/-! one cell's notch told anew: notched, notch -/
section NOTCH
variable {n : Nat} {fl : Int} {st sg no su : Nat → Int}
def noz (no : Nat → Int) (i : Nat) (x : Int) (j : Nat) : Int := if j = i then x else no j
theorem noz_self {i : Nat} : noz no i (no i) = no := by
  funext j
  unfold noz
  by_cases e : j = i
  · rw [if_pos e, e]
  · rw [if_neg e]
theorem noz_noz {i : Nat} {x y : Int} : noz (noz no i x) i y = noz no i y := by
  funext j
  unfold noz
  by_cases e : j = i
  · rw [if_pos e, if_pos e]
  · rw [if_neg e, if_neg e, if_neg e]
theorem grz.nt {i : Nat} {x : Int} (g : grz n fl st sg no su) (h0 : 0 ≤ x) (h1 : x ≤ 99) : grz n fl st sg (noz no i x) su := by
  obtain ⟨g1, g2, g3, g4, g5⟩ := g
  refine ⟨g1, g2, g3, g4, fun j hj => ?_⟩
  obtain ⟨q1, q2, q3, q4, q5, q6, q7⟩ := g5 j hj
  unfold noz
  by_cases e : j = i
  · rw [if_pos e]; exact ⟨q1, q2, q3, q4, h0, h1, q7⟩
  · rw [if_neg e]; exact ⟨q1, q2, q3, q4, q5, q6, q7⟩
theorem crz.nt {h : pv_H} {i : Nat} {x : Int} (c : crz h 99 n fl st sg no su) : crz (pv_up h 102 i x) 99 n fl st sg (noz no i x) su := by
  obtain ⟨c1, c2, c3⟩ := c
  refine ⟨by rw [pv_up_ne (by omega)]; exact c1, by rw [pv_up_ne (by omega)]; exact c2, fun j hj => ?_⟩
  obtain ⟨q1, q2, q3, q4, q5⟩ := c3 j hj
  refine ⟨by rw [pv_up_ne (by omega)]; exact q1, by rw [pv_up_ne (by omega)]; exact q2, ?_, by rw [pv_up_ne (by omega)]; exact q4, by rw [pv_up_ne (by omega)]; exact q5⟩
  unfold noz
  by_cases e : j = i
  · rw [if_pos e, e]; exact pv_up_self _ _ _ _
  · rw [if_neg e, pv_up_ne (by omega)]; exact q3
theorem mrz.nt {h : pv_H} {i : Nat} {x : Int} (c : mrz h n fl st sg no su) : mrz (pv_up h 8 i x) n fl st sg (noz no i x) su := by
  obtain ⟨c1, c2, c3⟩ := c
  refine ⟨by rw [pv_up_ne (by omega)]; exact c1, by rw [pv_up_ne (by omega)]; exact c2, fun j hj => ?_⟩
  obtain ⟨q1, q2, q3, q4, q5⟩ := c3 j hj
  refine ⟨by rw [pv_up_ne (by omega)]; exact q1, by rw [pv_up_ne (by omega)]; exact q2, ?_, by rw [pv_up_ne (by omega)]; exact q4, by rw [pv_up_ne (by omega)]; exact q5⟩
  unfold noz
  by_cases e : j = i
  · rw [if_pos e, e]; exact pv_up_self _ _ _ _
  · rw [if_neg e, pv_up_ne (by omega)]; exact q3
theorem up_id {h : pv_H} {i k : Nat} {x : Int} (e : h i k = x) : pv_up h i k x = h := by
  funext a b
  rw [pu_if]
  by_cases q : a = i ∧ b = k
  · rw [if_pos q, q.1, q.2, e]
  · rw [if_neg q]
/-- what holds between two runs of the changed ROD -/
def NPz (hc0 hm0 : pv_H) (n : Nat) (fl : Int) (st sg no su bd tn : Nat → Int) (last : Nat) (hc hm : pv_H) : Prop := crz hc 99 n fl st sg no su ∧ mrz hm n fl st sg no su ∧ laz hm bd tn last ∧ frz PCz hc0 hc ∧ frz PMz hm0 hm
theorem ntc_2 {hc0 hm0 hc hm : pv_H} {b i mm : Nat} {seed x y : Int} {K U T : Nat → Int} (S : SSz hc0 hm0) (g : grz n fl st sg no su) (P : NPz hc0 hm0 n fl st sg no su (bdz K U T 1 mm) (tnz K U T 1 mm) (lsz T 1 mm) hc hm) (gd : gdz K U T) (cd : cvz hc0 (59 + 4 * b) mm K U T) (hb : b < 4) (hi : i < n) (x0 : 0 ≤ x) (x1 : x ≤ 99) : ∃ (hc' m1 m2 : pv_H) (np : Nat), fX9_piecesNotched pv_NN (b : Int) seed (i : Int) x hc = some (hc', (np : Int)) ∧ fX10_draws pv_NN seed (pv_up hm 8 i x) = some m1 ∧ m1 8 i = x ∧ fX10_runs pv_NN 0 (pv_up m1 8 i y) = some m2 ∧ m2 0 42 = (np : Int) ∧ frz PCz hc0 hc' ∧ frz PMz hm0 m2 ∧ (y = no i → NPz hc0 hm0 n fl st sg no su (bdz K U T 1 mm) (tnz K U T 1 mm) (lsz T 1 mm) hc' m2) := by
  obtain ⟨c, mr, la, F, G⟩ := P
  have n60 := g.2.1
  have S1 := S.frz F G
  obtain ⟨_, lw1, lw2⟩ := S1.lawv
  have l : lwB (fun j => hm 2 (1116 + j)) := lw2
  have g' := g.nt (i := i) x0 x1
  have cno : hc 102 i = no i := (c.2.2 i hi).2.2.1
  obtain ⟨h1, e1, k1, k2, k3, k4, k5⟩ := take_C (N := pv_NN) (seed := seed) (r := 99) (lw := fun j => hm 2 (1116 + j)) (by decide) g' l (Or.inr (by omega)) (by decide) (c.nt (i := i) (x := x)) (fun j hj => by rw [pv_up_ne (by omega)]; exact lw1 j hj)
  generalize hq : pv_up h1 102 i (no i) = h2
  have f2 : ∀ u v, ¬ (u = 102 ∧ v = i) → h2 u v = h1 u v := fun u v np => by rw [← hq, pv_up_ne (by omega)]
  have fC : ∀ u v, ¬ (u = 102 ∧ v = i) → ¬ (u = 78 ∧ (v = 3 ∨ v = 4 ∨ v = 5) ∨ u = 79 ∧ v = 0 ∨ u = 92) → h2 u v = hc u v := fun u v n1 n2 => by rw [f2 u v n1, k5 u v n2, pv_up_ne (by omega)]
  have cd2 : cvz h2 (59 + 4 * b) mm K U T := by
    obtain ⟨q1, q2, q3⟩ := cd
    have fr : ∀ u v, 59 ≤ u → u < 78 → h2 u v = hc0 u v := fun u v a1 a2 => by rw [fC u v (by omega) (by omega), F u v (by unfold PCz; omega)]
    refine ⟨by rw [fr _ _ (by omega) (by omega)]; exact q1, q2, fun j hj => ?_⟩
    rw [fr (59 + 4 * b + 1) j (by omega) (by omega), fr (59 + 4 * b + 2) j (by omega) (by omega), fr (59 + 4 * b + 3) j (by omega) (by omega)]
    exact q3 j hj
  have kk : clz h2 99 n st sg su (fun j => hm 2 (1116 + j)) := by
    obtain ⟨d1, d2, d3, d4, d5, d6, d7⟩ := k1
    refine ⟨by rw [f2 _ _ (by omega)]; exact d1, d2, d3, by rw [f2 _ _ (by omega)]; exact d4, fun j hj => ?_, by rw [f2 _ _ (by omega)]; exact d6, fun j hj => by rw [f2 _ _ (by omega)]; exact d7 j hj⟩
    rw [f2 (99 + 1) j (by omega), f2 (99 + 2) j (by omega), f2 (99 + 4) j (by omega), f2 (99 + 5) j (by omega)]
    exact d5 j hj
  obtain ⟨h3, e3, j1, j2⟩ := bend_R (N := pv_NN) (p := 1) (h := h2) (by decide) g'.br l kk (fun j hj => by rw [f2 _ _ (by omega)]; exact k2 j hj) (fun j hj => spz_b g' hj) (by rw [f2 78 5 (by omega)]; exact k4) (show 59 + 4 * b + 4 ≤ 78 ∨ _ by omega) cd2 gd (by omega) (by omega)
  obtain ⟨m1, e5, f6, f7⟩ := draw_M (N := pv_NN) (seed := seed) (by decide) g' (mr.nt (i := i) (x := x))
  have m18 : m1 8 i = x := by rw [f6 _ _ (by omega)]; exact pv_up_self _ _ _ _
  have mr1 : mrz m1 n fl st sg (noz no i x) su := (mr.nt (i := i) (x := x)).frm (fun u v q => f6 u v (by omega))
  have mr2 := mr1.nt (i := i) (x := y)
  rw [noz_noz] at mr2
  have G1 : ∀ u v, u ≠ 11 → u ≠ 8 → pv_up m1 8 i y u v = hm u v := fun u v n1 n2 => by rw [pv_up_ne (by omega), f6 u v n1, pv_up_ne (by omega)]
  have la1 : laz (pv_up m1 8 i y) (bdz K U T 1 mm) (tnz K U T 1 mm) (lsz T 1 mm) := la.frm (fun u v q => G1 u v (by omega) (by omega))
  have RM : RDM (pv_up m1 8 i y) n st sg su (fun j => hm 2 (1116 + j)) (spz fl sg (noz no i x) seed) (bdz K U T 1 mm) (tnz K U T 1 mm) (lsz T 1 mm) := by
    refine RDM.mk' (mrz.ml mr2 (fun j hj => G1 _ _ (by omega) (by omega))) (fun j hj => ?_) la1
    rw [pv_up_ne (by omega)]
    exact f7 j hj
  obtain ⟨hc', m2, np, w1, w2, w3, w4, w5, w6, w7⟩ := run_2 (N := pv_NN) (a1 := 0) (by decide) g'.br l (fun j hj => spz_b g' hj) j1 RM (by rw [G1 _ _ (by omega) (by omega)]; exact S1.2.2.2.2.2.2) (Or.inr ⟨by omega, by omega⟩)
  have i60 : 0 ≤ (i : Int) ∧ (i : Int) < 60 := by omega
  have fA : ∀ u v, 99 ≤ u → u ≤ 104 → hc' u v = hc u v := by
    intro u v a1 a2
    rw [w6 u v (by unfold RCz DCz; omega), j2 u v (by omega)]
    by_cases z : u = 102 ∧ v = i
    · obtain ⟨z1, z2⟩ := z
      subst z1
      subst z2
      rw [← hq, pv_up_self, cno]
    · exact fC u v z (by omega)
  have F' : frz PCz hc0 hc' := F.tr (fun u v np => by
    rw [w6 u v (by unfold PCz at np; unfold RCz DCz; omega), j2 u v (by unfold PCz at np; omega)]
    exact fC u v (by unfold PCz at np; omega) (by unfold PCz at np; omega))
  have G' : frz PMz hm0 m2 := G.tr (fun u v np => by
    rw [w7 u v (by unfold PMz at np; unfold RMz DMz; omega)]
    exact G1 u v (by unfold PMz at np; omega) (by unfold PMz at np; omega))
  refine ⟨hc', m1, m2, np, ?_, e5, m18, w2, w3.choose_spec.choose_spec.choose_spec.2.2.2.2.2.1, F', G', fun ey => ⟨?_, ?_, ?_, F', G'⟩⟩
  · unfold fX9_piecesNotched
    rw [if_pos i60, tnc, bbs, if_pos i60, bbs, e1, c1s, if_pos i60, bbs, cno, hq, if_pos (show 0 ≤ (b : Int) ∧ (b : Int) < 4 by omega), tnc, bbs, e3, c1s, w1, c2s]
  · obtain ⟨c1, c2, c3⟩ := c
    refine ⟨by rw [fA _ _ (by omega) (by omega)]; exact c1, by rw [fA _ _ (by omega) (by omega)]; exact c2, fun j hj => ?_⟩
    rw [fA (99 + 1) j (by omega) (by omega), fA (99 + 2) j (by omega) (by omega), fA (99 + 3) j (by omega) (by omega), fA (99 + 4) j (by omega) (by omega), fA (99 + 5) j (by omega) (by omega)]
    exact c3 j hj
  · rw [ey, noz_self] at mr2
    rw [ey] at w7
    exact mr2.frm (fun u v q => w7 u v (by unfold RMz DMz; omega))
  · exact la1.frm (fun u v q => w7 u v (by unfold RMz DMz; omega))
/-- both are made ready for the changed ROD -/
theorem nrd_2 {hc hm : pv_H} (S : SSz hc hm) {a b : Nat} (hr : rodOk hm (a : Int)) (hb : b < 4) : ∃ (h1 m1 m2 : pv_H) (n mm : Nat) (fl : Int) (st sg no su K U T : Nat → Int), fX5_copyFrom pv_NN 99 (35 + 6 * a) hc = some h1 ∧ fX10_takes pv_NN (a : Int) hm = some m1 ∧ fX10_does pv_NN (b : Int) 1 m1 = some m2 ∧ grz n fl st sg no su ∧ gdz K U T ∧ cvz hc (59 + 4 * b) mm K U T ∧ NPz hc hm n fl st sg no su (bdz K U T 1 mm) (tnz K U T 1 mm) (lsz T 1 mm) h1 m2 ∧ hm 2 (242 * a) = (n : Int) := by
  have ha : a < 4 := by have := hr.2.1; omega
  obtain ⟨n, fl, st, sg, no, su, g, g99, c, v⟩ := S.rod2 hr
  obtain ⟨mm, K, U, T, gd, cd, vd⟩ := S.dov2 hb
  obtain ⟨h1, e1, f1, c1⟩ := copy_C ha g.2.1 c
  obtain ⟨m1, e2, f2, v2⟩ := takes_M (N := pv_NN) (by decide) ha g.1 g.2.1 v
  have vd1 : mvz m1 (968 + 37 * b) mm K U T := by
    obtain ⟨q1, q2, q3⟩ := vd
    refine ⟨by rw [f2 _ _ (by unfold PTz; omega)]; exact q1, q2, fun j hj => ?_⟩
    rw [f2 2 _ (by unfold PTz; omega), f2 2 _ (by unfold PTz; omega), f2 2 _ (by unfold PTz; omega)]
    exact q3 j hj
  obtain ⟨m2, e3, f3, f4⟩ := ready_D (N := pv_NN) (p := 1) (by decide) hb vd1 gd (by omega) (by omega)
  exact ⟨h1, m1, m2, n, mm, fl, st, sg, no, su, K, U, T, e1, e2, e3, g, gd, cd, ⟨c1, v2.frm (fun x y q => f3 x y (by unfold PDz; omega)), f4, fun x y np => f1 x y (by unfold PCz at np; omega), (f2.mono fun x y q => PTz_PM q).tr (f3.mono fun x y q => PDz_PM q)⟩, v.1⟩
theorem notch_in {hc0 hm0 : pv_H} {b mm : Nat} {seed a1 a4 : Int} {K U T : Nat → Int} {kc km : Int → pv_H → Option (pv_H × Int)} {x : Nat} (S : SSz hc0 hm0) (g : grz n fl st sg no su) (gd : gdz K U T) (cd : cvz hc0 (59 + 4 * b) mm K U T) (hb : b < 4) (x1 : x ≤ 99) (hk : ∀ hc hm, NPz hc0 hm0 n fl st sg no su (bdz K U T 1 mm) (tnz K U T 1 mm) (lsz T 1 mm) hc hm → wpz (kc ((x + 1 : Nat) : Int) hc) fun c => wpz (km ((x + 1 : Nat) : Int) hm) fun m => c.2 = m.2 ∧ SSz c.1 m.1) : ∀ (d i f f' : Nat) (hc hm : pv_H), i + d = n → d < f → d < f' → NPz hc0 hm0 n fl st sg no su (bdz K U T 1 mm) (tnz K U T 1 mm) (lsz T 1 mm) hc hm → wpz (fX9_notch_62 pv_NN kc a1 (b : Int) seed a4 f (x : Int) (i : Int) hc) fun c => wpz (fX10_notch_56 pv_NN km a1 (b : Int) seed a4 f' (x : Int) (i : Int) hm) fun m => c.2 = m.2 ∧ SSz c.1 m.1 := by
  intro d
  induction d with
  | zero =>
    intro i f f' hc hm h1 h2 h3 P
    obtain ⟨f, rfl⟩ : ∃ g, f = g + 1 := ⟨f - 1, by omega⟩
    obtain ⟨f', rfl⟩ : ∃ g, f' = g + 1 := ⟨f' - 1, by omega⟩
    have : i = n := by omega
    subst this
    have q1 : hc 99 0 = (i : Int) := P.1.1
    have q2 : hm 0 19 = (i : Int) := P.2.1.1
    rw [fX9_notch_62, fX10_notch_56, q1, q2, if_pos (Int.le_refl _), if_pos (Int.le_refl _), pws (by omega)]
    exact hk hc hm P
  | succ d ih =>
    intro i f f' hc hm h1 h2 h3 P
    obtain ⟨f, rfl⟩ : ∃ g, f = g + 1 := ⟨f - 1, by omega⟩
    obtain ⟨f', rfl⟩ : ∃ g, f' = g + 1 := ⟨f' - 1, by omega⟩
    have n60 := g.2.1
    have q1 : hc 99 0 = (n : Int) := P.1.1
    have q2 : hm 0 19 = (n : Int) := P.2.1.1
    have q3 : hm 8 i = no i := (P.2.1.2.2 i (by omega)).2.2.1
    have i60 : 0 ≤ (i : Int) ∧ (i : Int) < 60 := by omega
    obtain ⟨hc', m1, m2, np, e1, e2, e3, e4, e5, e6, e7, e8⟩ := ntc_2 (seed := seed) (x := (x : Int)) (y := no i) (i := i) S g P gd cd hb (by omega) (by omega) (by omega)
    rw [fX9_notch_62, fX10_notch_56, q1, q2, if_neg (show ¬ (n : Int) ≤ (i : Int) by omega), if_neg (show ¬ (n : Int) ≤ (i : Int) by omega), e1, c2s, if_pos i60, tnc, bbs, bbs, if_pos i60, bbs, e2, c1s, if_pos i60, bbs, q3, e4, c1s, e5]
    unfold fX9_notch_100 fX10_notch_122
    by_cases z : (np : Int) = 2
    · rw [if_pos z, if_pos z]
      by_cases y : a4 = 0
      · rw [if_pos y, if_pos y]; exact wend rfl (S.frz e6 e7)
      · rw [if_neg y, if_neg y]; exact wend rfl (S.frz e6 e7)
    · rw [if_neg z, if_neg z, pws (show i < 2000000000 by omega)]
      exact ih (i + 1) f f' hc' m2 (by omega) (by omega) (by omega) (e8 rfl)
theorem notch_out {hc0 hm0 : pv_H} {b mm : Nat} {seed a1 a4 : Int} {K U T : Nat → Int} (S : SSz hc0 hm0) (g : grz n fl st sg no su) (gd : gdz K U T) (cd : cvz hc0 (59 + 4 * b) mm K U T) (hb : b < 4) : ∀ (d x f f' : Nat) (hc hm : pv_H), x + d = 100 → d < f → d < f' → NPz hc0 hm0 n fl st sg no su (bdz K U T 1 mm) (tnz K U T 1 mm) (lsz T 1 mm) hc hm → wpz (fX9_notch_52 pv_NN a1 (b : Int) seed a4 f (x : Int) hc) fun c => wpz (fX10_notch_46 pv_NN a1 (b : Int) seed a4 f' (x : Int) hm) fun m => c.2 = m.2 ∧ SSz c.1 m.1 := by
  intro d
  induction d with
  | zero =>
    intro x f f' hc hm h1 h2 h3 P
    obtain ⟨f, rfl⟩ : ∃ g, f = g + 1 := ⟨f - 1, by omega⟩
    obtain ⟨f', rfl⟩ : ∃ g, f' = g + 1 := ⟨f' - 1, by omega⟩
    rw [fX9_notch_52, fX10_notch_46, if_pos (by omega), if_pos (by omega)]
    exact wend rfl (S.frz P.2.2.2.1 P.2.2.2.2)
  | succ d ih =>
    intro x f f' hc hm h1 h2 h3 P
    obtain ⟨f, rfl⟩ : ∃ g, f = g + 1 := ⟨f - 1, by omega⟩
    obtain ⟨f', rfl⟩ : ∃ g, f' = g + 1 := ⟨f' - 1, by omega⟩
    rw [fX9_notch_52, fX10_notch_46, if_neg (by omega), if_neg (by omega)]
    have n60 := g.2.1
    exact notch_in S g gd cd hb (by omega) (fun hc hm P => ih (x + 1) f f' hc hm (by omega) (by omega) (by omega) P) n 0 pv_NN pv_NN hc hm (by omega) (by unfold pv_NN; omega) (by unfold pv_NN; omega) P
end NOTCH
theorem s_notch : sm_notch SSz := by
  intro hc hm S a1 a2 a3 a4 _ _ _ _
  refine two_th S fun hm S => ?_
  unfold fX9_notch fX9_notch_26 fX10_notch_25
  by_cases hr : rodOk hm a1
  · obtain ⟨a, rfl⟩ := Int.eq_ofNat_of_zero_le hr.1
    have hA : 0 ≤ (a : Int) ∧ (a : Int) < 4 := ⟨by omega, hr.2.1⟩
    rw [hasRod_1 S hr, c1s, if_neg n10]
    by_cases hd : 0 ≤ a2 ∧ a2 < 4
    · obtain ⟨b, rfl⟩ := Int.eq_ofNat_of_zero_le hd.1
      rw [hasDo_1 hd, c1s, if_neg n10, isBoth_1 hr hd, c1s, if_neg n10]
      by_cases h4 : 0 ≤ a4 ∧ a4 ≤ 1
      · obtain ⟨h1, m1, m2, n, mm, fl, st, sg, no, su, K, U, T, e1, e2, e3, g, gd, cd, P, en⟩ := nrd_2 S hr (show b < 4 by omega)
        rw [if_neg (show ¬ a4 < 0 by omega), if_pos (show a4 ≤ 1 by omega), if_pos hA, tnc, bbs, e1, c1s, wn_1 h4, c1s, if_neg n10, e2, c1s, e3, c1s]
        exact notch_out S g gd cd (by omega) 100 0 pv_NN pv_NN h1 m2 (by omega) (by unfold pv_NN; omega) (by unfold pv_NN; omega) P
      · rw [wn_0 h4, c1s, if_pos rfl]
        by_cases z : a4 < 0
        · rw [if_pos z]; exact no2 S
        · rw [if_neg z, if_neg (show ¬ a4 ≤ 1 by omega)]; exact no2 S
    · rw [hasDo_0 hd, c1s, if_pos rfl, isBoth_0 (fun z => hd z.2), c1s, if_pos rfl]
      exact no2 S
  · rw [hasRod_0 S hr, c1s, if_pos rfl, isBoth_0 (fun z => hr z.1), c1s, if_pos rfl]
    exact no2 S
theorem s_notched : sm_notched SSz := by
  intro hc hm S a1 a2 a3 a4 a5 _ _ _ _ _
  refine two_th S fun hm S => ?_
  unfold fX9_notched fX9_notched_17 fX9_notched_36 fX10_notched_24
  by_cases hr : rodOk hm a1
  · obtain ⟨a, rfl⟩ := Int.eq_ofNat_of_zero_le hr.1
    have hA : 0 ≤ (a : Int) ∧ (a : Int) < 4 := ⟨by omega, hr.2.1⟩
    have r60 := S.r60 hr
    by_cases hd : 0 ≤ a2 ∧ a2 < 4
    · obtain ⟨b, rfl⟩ := Int.eq_ofNat_of_zero_le hd.1
      rw [isBoth_1 hr hd, c1s, if_neg n10]
      by_cases hce : cellOk hm (a : Int) a4
      · rw [hasCell_1 S hce, c1s, if_neg n10, hasDo_1 hd, c1s, if_neg n10, isCell_1 hce r60.2, c1s, if_neg n10]
        by_cases h5 : 0 ≤ a5 ∧ a5 ≤ 99
        · obtain ⟨h1, m1, m2, n, mm, fl, st, sg, no, su, K, U, T, e1, e2, e3, g, gd, cd, P, en⟩ := nrd_2 S hr (show b < 4 by omega)
          obtain ⟨_, q1, q2⟩ := hce
          obtain ⟨i, rfl⟩ := Int.eq_ofNat_of_zero_le q1
          rw [tnc, en] at q2
          have n60 := g.2.1
          obtain ⟨hc', m3, m4, np, x1, x2, x3, x4, x5, x6, x7, _⟩ := ntc_2 (seed := a3) (x := a5) (y := a5) (i := i) S g P gd cd (show b < 4 by omega) (by omega) (by omega) (by omega)
          rw [up_id x3] at x4
          rw [if_neg (show ¬ a5 < 0 by omega), if_pos (show a5 ≤ 99 by omega), if_pos hA, tnc, bbs, e1, c1s, x1, c2s, wn_1 h5, c1s, if_neg n10]
          unfold fX10_notchedTo
          rw [e2, c1s, e3, c1s, if_pos (show 0 ≤ (i : Int) ∧ (i : Int) < 60 by omega), tnc, bbs, x2, c1s, x4, c1s, x5, c2s]
          exact wend rfl (S.frz x6 x7)
        · rw [wn_0 h5, c1s, if_pos rfl]
          by_cases z : a5 < 0
          · rw [if_pos z]; exact no3 S
          · rw [if_neg z, if_neg (show ¬ a5 ≤ 99 by omega)]; exact no3 S
      · rw [hasCell_0 S hce, c1s, if_pos rfl, isCell_0 hr hce r60.2, c1s, if_pos rfl]
        exact no2 S
    · rw [isBoth_0 (fun z => hd z.2), c1s, if_pos rfl]
      by_cases hce : cellOk hm (a : Int) a4
      · rw [hasCell_1 S hce, c1s, if_neg n10, hasDo_0 hd, c1s, if_pos rfl]
        exact no2 S
      · rw [hasCell_0 S hce, c1s, if_pos rfl]
        exact no2 S
  · rw [hasCell_0 S (fun z => hr z.1), c1s, if_pos rfl, isBoth_0 (fun z => hr z.1), c1s, if_pos rfl]
    exact no2 S
