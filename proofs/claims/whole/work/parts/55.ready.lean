/-! both made ready for a run -/
def bdz (K U T : Nat → Int) (p : Int) (m : Nat) (t : Nat) : Int := bbz K (fun j => U j / p) (fun j => T j * p) m ((t : Int) + 1)
def tnz (K U T : Nat → Int) (p : Int) (m : Nat) (t : Nat) : Int := btz K (fun j => U j / p) (fun j => T j * p) m ((t : Int) + 1)
def lsz (T : Nat → Int) (p : Int) (m : Nat) : Nat := (min (tbz (fun j => T j * p) m) 4000).toNat
def TCz (x y : Nat) : Prop := x = 78 ∧ 3 ≤ y ∧ y ≤ 7 ∨ x = 79 ∧ y = 0 ∨ x = 92 ∨ x = 93 ∨ x = 80 ∧ 4 ≤ y ∧ y ≤ 6
def laz (h : pv_H) (bd tn : Nat → Int) (last : Nat) : Prop := h 0 29 = (last : Int) ∧ last ≤ 4000 ∧ 0 ≤ h 0 30 ∧ h 0 30 ≤ 237600 ∧ ∀ t, t < last → h 12 t = bd t ∧ h 13 t = tn t ∧ 0 ≤ bd t ∧ bd t ≤ h 0 30 ∧ 0 ≤ tn t ∧ tn t ≤ 300000
section READY
variable {N n r d m : Nat} {st sg no su lw str K U T bd tn : Nat → Int} {last : Nat} {fl seed p : Int} {h : pv_H}
theorem ls_e (g : gdz K U T) (hp : 1 ≤ p) : ((lsz T p m : Nat) : Int) = min (tbz (fun j => T j * p) m) 4000 := by
  have := tb_nn (gd_F (p := p) g hp) m
  unfold lsz
  omega
theorem laz.frm {h' : pv_H} (a : laz h bd tn last) (f : ∀ x y, x = 12 ∨ x = 13 ∨ x = 0 ∧ (y = 29 ∨ y = 30) → h' x y = h x y) : laz h' bd tn last := by
  obtain ⟨a1, a2, a3, a4, a5⟩ := a
  refine ⟨by rw [f _ _ (by omega)]; exact a1, a2, by rw [f _ _ (by omega)]; exact a3, by rw [f _ _ (by omega)]; exact a4, fun t ht => ?_⟩
  rw [f 12 t (by omega), f 13 t (by omega), f 0 30 (by omega)]
  exact a5 t ht
theorem RDM.mk' (a : mlz h n st sg su lw) (b : ∀ i, i < n → h 11 i = str i) (c : laz h bd tn last) : RDM h n st sg su lw str bd tn last := ⟨a, b, c⟩
theorem mrz.ml (a : mrz h n fl st sg no su) (b : ∀ j, j < 8 → h 2 (1116 + j) = lw j) : mlz h n st sg su lw := ⟨a.1, fun i hi => ⟨(a.2.2 i hi).1, (a.2.2 i hi).2.1, (a.2.2 i hi).2.2.2.1, (a.2.2 i hi).2.2.2.2⟩, b⟩
theorem mrz.frm {h' : pv_H} (a : mrz h n fl st sg no su) (f : ∀ x y, x = 0 ∧ (y = 19 ∨ y = 20) ∨ 6 ≤ x ∧ x ≤ 10 → h' x y = h x y) : mrz h' n fl st sg no su := by
  obtain ⟨a1, a2, a3⟩ := a
  refine ⟨by rw [f _ _ (by omega)]; exact a1, by rw [f _ _ (by omega)]; exact a2, fun i hi => ?_⟩
  rw [f 6 i (by omega), f 7 i (by omega), f 8 i (by omega), f 9 i (by omega), f 10 i (by omega)]
  exact a3 i hi
theorem bend_R (hN : 100 ≤ N) (g : brz n st sg su) (l : lwB lw) (c : clz h r n st sg su lw) (hs : ∀ i, i < n → h 92 i = str i) (hs2 : ∀ i, i < n → 1 ≤ str i ∧ str i ≤ 999) (hL : Lz n (lw 7) st str (h 78 5)) (hd : d + 4 ≤ 78 ∨ 98 < d) (cd : cvz h d m K U T) (gd : gdz K U T) (hp : 1 ≤ p) (hp2 : p ≤ 9) : wpz (fX1_bendBy N d p h) fun h' => RDC h' r n st sg su lw str (bdz K U T p m) (tnz K U T p m) (lsz T p m) ∧ ∀ x y, ¬ (x = 78 ∧ (y = 6 ∨ y = 7) ∨ x = 80 ∧ (y = 4 ∨ y = 5 ∨ y = 6) ∨ x = 93) → h' x y = h x y := by
  refine wp_mono (bendBy_C hN g l c hs hs2 hL hd cd gd hp hp2 (ls_e gd hp)) ?_
  rintro h' ⟨a1, a2, a3⟩
  exact ⟨⟨c.frm (fun x y n1 n2 => a3 x y (by omega)), fun i hi => by rw [a3 _ _ (by omega)]; exact hs i hi, a1⟩, a3⟩
theorem ready_C (hN : 100 ≤ N) (g : grz n fl st sg no su) (l : lwB lw) (hr : r + 6 ≤ 78 ∨ 98 < r) (hm5 : r ∈ pv_l5) (c : crz h r n fl st sg no su) (hl : ∀ j, j < 8 → h 24 j = lw j) (hd : d + 4 ≤ 78 ∨ 98 < d) (cd : cvz h d m K U T) (gd : gdz K U T) (hp : 1 ≤ p) (hp2 : p ≤ 9) : ∃ h1 h2, fX1_take N r 23 seed h = some h1 ∧ fX1_bendBy N d p h1 = some h2 ∧ RDC h2 r n st sg su lw (spz fl sg no seed) (bdz K U T p m) (tnz K U T p m) (lsz T p m) ∧ h2 79 0 = lw 2 - lw 3 ∧ ∀ x y, ¬ TCz x y → h2 x y = h x y := by
  obtain ⟨h1, e1, k1, k2, k3, k4, k5⟩ := take_C (N := N) (seed := seed) hN g l hr hm5 c hl
  have cd1 : cvz h1 d m K U T := by
    obtain ⟨q1, q2, q3⟩ := cd
    refine ⟨by rw [k5 _ _ (by omega)]; exact q1, q2, fun j hj => ?_⟩
    rw [k5 (d + 1) j (by omega), k5 (d + 2) j (by omega), k5 (d + 3) j (by omega)]
    exact q3 j hj
  obtain ⟨h2, e2, j1, j2⟩ := bend_R (N := N) (p := p) hN g.br l k1 k2 (fun i hi => spz_b g hi) k4 hd cd1 gd hp hp2
  refine ⟨h1, h2, e1, e2, j1, by rw [j2 _ _ (by omega)]; exact k3, fun x y np => ?_⟩
  unfold TCz at np
  rw [j2 x y (by omega), k5 x y (by omega)]
theorem ready_D {b : Nat} (hN : 2000 ≤ N) (hb : b < 4) (v : mvz h (968 + 37 * b) m K U T) (g : gdz K U T) (hp : 1 ≤ p) (hp2 : p ≤ 9) : ∃ h', fX10_does N (b : Int) p h = some h' ∧ frz PDz h h' ∧ laz h' (bdz K U T p m) (tnz K U T p m) (lsz T p m) := by
  obtain ⟨h', e, f, _, L, eL, l1, l2, l3, l4, l5⟩ := does_M (N := N) hN hb v g hp hp2
  have hF := gd_F (p := p) g hp
  have hB := gd_B (p := p) g hp
  have hm := v.2.1
  have ee : L = lsz T p m := by have := ls_e (m := m) g hp; omega
  subst ee
  refine ⟨h', e, f, l1, l2, l3, l4, fun t ht => ?_⟩
  obtain ⟨x1, x2, x3⟩ := l5 t ht
  have b1 := bb_b (K := K) hF hB m ((t : Int) + 1)
  have b2 := bt_b (K := K) hF hB m ((t : Int) + 1)
  unfold bdz tnz
  exact ⟨x1, x2, b1.1, x3, b2.1, by omega⟩
end READY
/-- a ROD that is there and a number of doings -/
theorem ready_2 {hc hm : pv_H} (S : SSz hc hm) {a b : Nat} {seed p : Int} (hr : rodOk hm (a : Int)) (hb : b < 4) (hp : 1 ≤ p) (hp2 : p ≤ 9) : ∃ (h1 h2 m1 m2 m3 : pv_H) (n : Nat) (st sg su lw str bd tn : Nat → Int) (last : Nat), fX1_take pv_NN (35 + 6 * a) 23 seed hc = some h1 ∧ fX1_bendBy pv_NN (59 + 4 * b) p h1 = some h2 ∧ fX10_takes pv_NN (a : Int) hm = some m1 ∧ fX10_does pv_NN (b : Int) p m1 = some m2 ∧ fX10_draws pv_NN seed m2 = some m3 ∧ RDC h2 (35 + 6 * a) n st sg su lw str bd tn last ∧ RDM m3 n st sg su lw str bd tn last ∧ brz n st sg su ∧ lwB lw ∧ (∀ i, i < n → 1 ≤ str i ∧ str i ≤ 999) ∧ frz PCz hc h2 ∧ frz PMz hm m3 ∧ h2 79 0 = lw 2 - lw 3 ∧ hm 2 (242 * a) = (n : Int) := by
  have ha : a < 4 := by have := hr.2.1; omega
  obtain ⟨n, fl, st, sg, no, su, g, g99, c, v⟩ := S.rod2 hr
  obtain ⟨m, K, U, T, gd, cd, vd⟩ := S.dov2 hb
  obtain ⟨_, lw1, lw2⟩ := S.lawv
  have l : lwB (fun j => hm 2 (1116 + j)) := lw2
  obtain ⟨h1, h2, e1, e2, j1, j2, j3⟩ := ready_C (N := pv_NN) (seed := seed) (p := p) (by decide) g l (show 35 + 6 * a + 6 ≤ 78 ∨ _ by omega) (by
    rcases (show a = 0 ∨ a = 1 ∨ a = 2 ∨ a = 3 by omega) with rfl | rfl | rfl | rfl <;> decide) c lw1 (show 59 + 4 * b + 4 ≤ 78 ∨ _ by omega) cd gd hp hp2
  obtain ⟨m1, e3, f1, f2⟩ := takes_M (N := pv_NN) (by decide) ha g.1 g.2.1 v
  have vd1 : mvz m1 (968 + 37 * b) m K U T := by
    obtain ⟨q1, q2, q3⟩ := vd
    refine ⟨by rw [f1 _ _ (by unfold PTz; omega)]; exact q1, q2, fun j hj => ?_⟩
    rw [f1 2 _ (by unfold PTz; omega), f1 2 _ (by unfold PTz; omega), f1 2 _ (by unfold PTz; omega)]
    exact q3 j hj
  obtain ⟨m2, e4, f3, f4⟩ := ready_D (N := pv_NN) (p := p) (by decide) hb vd1 gd hp hp2
  have f5 : mrz m2 n fl st sg no su := f2.frm (fun x y q => f3 x y (by unfold PDz; omega))
  obtain ⟨m3, e5, f6, f7⟩ := draw_M (N := pv_NN) (seed := seed) (by decide) g f5
  refine ⟨h1, h2, m1, m2, m3, n, st, sg, su, _, _, _, _, _, e1, e2, e3, e4, e5, j1, RDM.mk' ?_ f7 (f4.frm (fun x y q => f6 x y (by omega))), g.br, l, fun i hi => spz_b g hi, fun x y np => j3 x y (by unfold PCz at np; unfold TCz; omega), ?_, j2, v.1⟩
  · refine mrz.ml (f5.frm (fun x y q => f6 x y (by omega))) (fun j hj => ?_)
    rw [f6 _ _ (by omega), f3 _ _ (by unfold PDz; omega), f1 _ _ (by unfold PTz; omega)]
  · exact ((f1.mono fun x y q => PTz_PM q).tr (f3.mono fun x y q => PDz_PM q)).tr (fun x y np => f6 x y (by unfold PMz at np; omega))
theorem RC_P {hc hc' : pv_H} (f : ∀ x y, ¬ RCz x y → hc' x y = hc x y) : frz PCz hc hc' := fun x y np => f x y (by unfold PCz at np; unfold RCz DCz; omega)
theorem RM_P {hm hm' : pv_H} (f : ∀ x y, ¬ RMz x y → hm' x y = hm x y) : frz PMz hm hm' := fun x y np => f x y (by unfold PMz at np; unfold RMz DMz; omega)
/-- one run of a ROD that is there -/
theorem pcs_2 {hc hm : pv_H} (S : SSz hc hm) {a b : Nat} {seed p t : Int} (hr : rodOk hm (a : Int)) (hb : b < 4) (hp : 1 ≤ p) (hp2 : p ≤ 9) (ht : t = -1 ∨ 0 ≤ t ∧ t ≤ 999) : ∃ (h1 h2 hc' hm' : pv_H) (np n : Nat), fX1_take pv_NN (35 + 6 * a) 23 seed hc = some h1 ∧ fX1_bendBy pv_NN (59 + 4 * b) p h1 = some h2 ∧ fX1_sendWaves pv_NN t 0 h2 = some (hc', (np : Int)) ∧ fX10_piecesOf pv_NN (a : Int) (b : Int) seed p t hm = some (hm', (np : Int)) ∧ SSz hc' hm' ∧ RESz n np hc' hm' ∧ hm 2 (242 * a) = (n : Int) ∧ 3 ≤ n ∧ n ≤ 60 ∧ hc' 79 0 = hm' 2 1118 - hm' 2 1119 ∧ (1 ≤ hm' 2 1118 ∧ hm' 2 1118 ≤ 9 ∧ 1 ≤ hm' 2 1119 ∧ hm' 2 1119 ≤ 9) ∧ hm' 0 19 = (n : Int) ∧ hm' 2 (242 * a) = (n : Int) ∧ frz PCz hc hc' ∧ frz PMz hm hm' := by
  obtain ⟨h1, h2, m1, m2, m3, n, st, sg, su, lw, str, bd, tn, last, e1, e2, e3, e4, e5, RC, RM, gb, l, hs, F, G, e79, en⟩ := ready_2 S (seed := seed) hr hb hp hp2
  obtain ⟨hc', hm', np, x1, x2, x3, x4, x5, x6, x7⟩ := run_2 (N := pv_NN) (a1 := t) (by decide) gb l hs RC RM (by rw [G _ _ (by unfold PMz; omega)]; exact S.2.2.2.2.2.2) ht
  have l9 : 1 ≤ lw 2 ∧ lw 2 ≤ 9 ∧ 1 ≤ lw 3 ∧ lw 3 ≤ 9 := by obtain ⟨_, _, _, _, q1, q2, q3, q4, _⟩ := l; exact ⟨q1, q2, q3, q4⟩
  have k2 : hm' 2 1118 = lw 2 := x5.1.2.2 2 (by omega)
  have k3 : hm' 2 1119 = lw 3 := x5.1.2.2 3 (by omega)
  refine ⟨h1, h2, hc', hm', np, n, e1, e2, x1, ?_, S.frz (F.tr (RC_P x6)) (G.tr (RM_P x7)), x3, en, gb.1, gb.2.1, ?_, by rw [k2, k3]; exact l9, x5.1.1, ?_, F.tr (RC_P x6), G.tr (RM_P x7)⟩
  · unfold fX10_piecesOf
    rw [e3, c1s, e4, c1s, e5, c1s, x2, c1s, x3.choose_spec.choose_spec.choose_spec.2.2.2.2.2.1]
  · rw [x6 _ _ (by unfold RCz DCz; omega), e79, k2, k3]
  · rw [x7 _ _ (by unfold RMz DMz; omega), G _ _ (by unfold PMz; omega), en]
