/-! grid: every pace with turn after turn -/
section GRID
variable {n m a b : Nat} {fl seed : Int} {st sg no su lw K U T : Nat → Int} {hc0 hm0 : pv_H}
/-- the class, the ROD taken -/
def TKz (r n d m : Nat) (st sg su lw str K U T : Nat → Int) (hc0 h : pv_H) : Prop := clz h r n st sg su lw ∧ (∀ i, i < n → h 92 i = str i) ∧ Lz n (lw 7) st str (h 78 5) ∧ cvz h d m K U T ∧ frz PCz hc0 h
theorem TKz.frm {r n d m : Nat} {st sg su lw str K U T : Nat → Int} {hc0 h h' : pv_H} (k : TKz r n d m st sg su lw str K U T hc0 h) (hd : d + 4 ≤ 78) (f : ∀ x y, ¬ RCz x y → ¬ (x = 78 ∧ (y = 6 ∨ y = 7) ∨ x = 80 ∨ x = 93) → h' x y = h x y) : TKz r n d m st sg su lw str K U T hc0 h' := by
  obtain ⟨k1, k2, k3, k4, k5⟩ := k
  refine ⟨k1.frm (fun x y n1 n2 => f x y (by unfold RCz DCz; omega) (by omega)), fun i hi => by rw [f _ _ (by unfold RCz DCz; omega) (by omega)]; exact k2 i hi, by rw [f _ _ (by unfold RCz DCz; omega) (by omega)]; exact k3, ?_, k5.tr (fun x y np => f x y (by unfold PCz at np; unfold RCz DCz; omega) (by unfold PCz at np; omega))⟩
  obtain ⟨q1, q2, q3⟩ := k4
  refine ⟨by rw [f _ _ (by unfold RCz DCz; omega) (by omega)]; exact q1, q2, fun j hj => ?_⟩
  rw [f (d + 1) j (by unfold RCz DCz; omega) (by omega), f (d + 2) j (by unfold RCz DCz; omega) (by omega), f (d + 3) j (by unfold RCz DCz; omega) (by omega)]
  exact q3 j hj
theorem grid_in {k52 k27 : Int → Int → pv_H → Option (pv_H × Int)} {p r : Nat} (ha : a < 4) (hb : b < 4) (g : grz n fl st sg no su) (l : lwB lw) (v : vrz hm0 (242 * a) n fl st sg no su) (gd : gdz K U T) (vd : mvz hm0 (968 + 37 * b) m K U T) (hlw : ∀ j, j < 8 → hm0 2 (1116 + j) = lw j) (z43 : hm0 0 43 = 0) (hp : 1 ≤ p) (hp2 : p ≤ 9) : ∀ (d k f f' w : Nat) (hc hm : pv_H), k + d = 20 → d < f → d < f' → w + d ≤ 1000 → RDC hc r n st sg su lw (spz fl sg no seed) (bdz K U T p m) (tnz K U T p m) (lsz T p m) → TKz r n (59 + 4 * b) m st sg su lw (spz fl sg no seed) K U T hc0 hc → frz PMz hm0 hm → ∃ (hc' hm' : pv_H) (w' : Nat), fX9_grid_80 pv_NN k52 (a : Int) (b : Int) seed f (w : Int) (p : Int) (k : Int) hc = k52 (w' : Int) ((p + 1 : Nat) : Int) hc' ∧ fX10_grid_37 pv_NN k27 (a : Int) (b : Int) seed f' (w : Int) (p : Int) ((50 * k : Nat) : Int) hm = k27 (w' : Int) ((p + 1 : Nat) : Int) hm' ∧ w' ≤ w + d ∧ TKz r n (59 + 4 * b) m st sg su lw (spz fl sg no seed) K U T hc0 hc' ∧ frz PMz hm0 hm' := by
  intro d
  induction d with
  | zero =>
    intro k f f' w hc hm h1 h2 h3 h4 RC TK G
    obtain ⟨f, rfl⟩ : ∃ g, f = g + 1 := ⟨f - 1, by omega⟩
    obtain ⟨f', rfl⟩ : ∃ g, f' = g + 1 := ⟨f' - 1, by omega⟩
    rw [fX9_grid_80, fX10_grid_37, if_pos (show (20 : Int) ≤ (k : Int) by omega), if_pos (show (1000 : Int) ≤ ((50 * k : Nat) : Int) by omega), bbs, bbs, pws (by omega)]
    exact ⟨hc, hm, w, rfl, rfl, by omega, TK, G⟩
  | succ d ih =>
    intro k f f' w hc hm h1 h2 h3 h4 RC TK G
    obtain ⟨f, rfl⟩ : ∃ g, f = g + 1 := ⟨f - 1, by omega⟩
    obtain ⟨f', rfl⟩ : ∃ g, f' = g + 1 := ⟨f' - 1, by omega⟩
    have v1 : vrz hm (242 * a) n fl st sg no su := by
      obtain ⟨q1, q2, q3⟩ := v
      refine ⟨by rw [G _ _ (by unfold PMz; omega)]; exact q1, by rw [G _ _ (by unfold PMz; omega)]; exact q2, fun i hi => ?_⟩
      rw [G 2 _ (by unfold PMz; omega), G 2 _ (by unfold PMz; omega), G 2 _ (by unfold PMz; omega), G 2 _ (by unfold PMz; omega)]
      exact q3 i hi
    have vd1 : mvz hm (968 + 37 * b) m K U T := by
      obtain ⟨q1, q2, q3⟩ := vd
      refine ⟨by rw [G _ _ (by unfold PMz; omega)]; exact q1, q2, fun j hj => ?_⟩
      rw [G 2 _ (by unfold PMz; omega), G 2 _ (by unfold PMz; omega), G 2 _ (by unfold PMz; omega)]
      exact q3 j hj
    obtain ⟨m1, m2, m3, e1, e2, e3, RM, G3⟩ := ready_M (N := pv_NN) (lw := lw) (seed := seed) (p := (p : Int)) (by decide) ha hb g v1 gd vd1 (fun j hj => by rw [G _ _ (by unfold PMz; omega)]; exact hlw j hj) (by omega) (by omega)
    obtain ⟨hc', hm', np, x1, x2, x3, x4, x5, x6, x7⟩ := run_2 (N := pv_NN) (a1 := ((50 * k : Nat) : Int)) (by decide) g.br l (fun i hi => spz_b g hi) RC RM (by rw [G3 _ _ (by unfold PMz; omega), G _ _ (by unfold PMz; omega)]; exact z43) (Or.inr ⟨by omega, by omega⟩)
    have e42 := x3.choose_spec.choose_spec.choose_spec.2.2.2.2.2.1
    have ek : pv_w ((k : Int) * 50) = ((50 * k : Nat) : Int) := by rw [pv_w_id (by omega) (by omega)]; omega
    have ek2 : pv_w (((50 * k : Nat) : Int) + 50) = ((50 * (k + 1) : Nat) : Int) := by rw [pv_w_id (by omega) (by omega)]; omega
    have ep : fX10_piecesOf pv_NN (a : Int) (b : Int) seed (p : Int) ((50 * k : Nat) : Int) hm = some (hm', (np : Int)) := by
      unfold fX10_piecesOf
      rw [e1, c1s, e2, c1s, e3, c1s, x2, c1s, e42]
    rw [fX9_grid_80, fX10_grid_37, if_neg (show ¬ (20 : Int) ≤ (k : Int) by omega), if_neg (show ¬ (1000 : Int) ≤ ((50 * k : Nat) : Int) by omega), ek, x1, c2s, ep, c2s]
    have TK' := TK.frm (h' := hc') (by omega) (fun x y np _ => x6 x y np)
    have G' : frz PMz hm0 hm' := (G.tr G3).tr (RM_P x7)
    unfold fX9_grid_107 fX10_grid_67
    by_cases z : (np : Int) = 2
    · rw [if_pos z, if_pos z, bbs, bbs, bbs, bbs, pws (by omega), pws (by omega), ek2]
      obtain ⟨c', m', w', y1, y2, y3, y4⟩ := ih (k + 1) f f' (w + 1) hc' hm' (by omega) (by omega) (by omega) (by omega) x4 TK' G'
      exact ⟨c', m', w', y1, y2, by omega, y4⟩
    · rw [if_neg z, if_neg z, bbs, bbs, bbs, pws (by omega), ek2, pv_w_id (x := (w : Int) + 0) (by omega) (by omega), Int.add_zero]
      obtain ⟨c', m', w', y1, y2, y3, y4⟩ := ih (k + 1) f f' w hc' hm' (by omega) (by omega) (by omega) (by omega) x4 TK' G'
      exact ⟨c', m', w', y1, y2, by omega, y4⟩
theorem grid_out (S : SSz hc0 hm0) (ha : a < 4) (hb : b < 4) (g : grz n fl st sg no su) (l : lwB lw) (v : vrz hm0 (242 * a) n fl st sg no su) (gd : gdz K U T) (vd : mvz hm0 (968 + 37 * b) m K U T) (hlw : ∀ j, j < 8 → hm0 2 (1116 + j) = lw j) : ∀ (d p f f' w : Nat) (hc hm : pv_H), p + d = 10 → 1 ≤ p → d < f → d < f' → w ≤ 20 * p → TKz (35 + 6 * a) n (59 + 4 * b) m st sg su lw (spz fl sg no seed) K U T hc0 hc → frz PMz hm0 hm → wpz (fX9_grid_52 pv_NN (a : Int) (b : Int) seed f (w : Int) (p : Int) hc) fun c => wpz (fX10_grid_27 pv_NN (a : Int) (b : Int) seed f' (w : Int) (p : Int) hm) fun m => c.2 = m.2 ∧ SSz c.1 m.1 := by
  intro d
  induction d with
  | zero =>
    intro p f f' w hc hm h1 h2 h3 h4 h5 TK G
    obtain ⟨f, rfl⟩ : ∃ g, f = g + 1 := ⟨f - 1, by omega⟩
    obtain ⟨f', rfl⟩ : ∃ g, f' = g + 1 := ⟨f' - 1, by omega⟩
    rw [fX9_grid_52, fX10_grid_27, if_pos (show (9 : Int) < (p : Int) by omega), if_pos (show (10 : Int) ≤ (p : Int) by omega)]
    exact wend rfl (S.frz TK.2.2.2.2 G)
  | succ d ih =>
    intro p f f' w hc hm h1 h2 h3 h4 h5 TK G
    obtain ⟨f, rfl⟩ : ∃ g, f = g + 1 := ⟨f - 1, by omega⟩
    obtain ⟨f', rfl⟩ : ∃ g, f' = g + 1 := ⟨f' - 1, by omega⟩
    obtain ⟨k1, k2, k3, k4, k5⟩ := id TK
    obtain ⟨hc', e1, RC, fr⟩ := bend_R (N := pv_NN) (p := (p : Int)) (by decide) g.br l k1 k2 (fun i hi => spz_b g hi) k3 (show 59 + 4 * b + 4 ≤ 78 ∨ _ by omega) k4 gd (by omega) (by omega)
    have TK' := TK.frm (h' := hc') (by omega) (fun x y _ np => fr x y (by omega))
    obtain ⟨c', m', w', y1, y2, y3, y4, y5⟩ := grid_in (seed := seed) (k52 := fun v4_ v5_ hh => fX9_grid_52 pv_NN (a : Int) (b : Int) seed f v4_ v5_ hh) (k27 := fun v4_ v5_ hh => fX10_grid_27 pv_NN (a : Int) (b : Int) seed f' v4_ v5_ hh) (p := p) ha hb g l v gd vd hlw S.2.2.2.2.2.2 h2 (by omega) 20 0 pv_NN pv_NN w hc' hm (by omega) (by unfold pv_NN; omega) (by unfold pv_NN; omega) (by omega) RC TK' G
    have y1 : fX9_grid_80 pv_NN (fun v4_ v5_ hh => fX9_grid_52 pv_NN (a : Int) (b : Int) seed f v4_ v5_ hh) (a : Int) (b : Int) seed pv_NN (w : Int) (p : Int) 0 hc' = fX9_grid_52 pv_NN (a : Int) (b : Int) seed f (w' : Int) ((p + 1 : Nat) : Int) c' := y1
    have y2 : fX10_grid_37 pv_NN (fun v4_ v5_ hh => fX10_grid_27 pv_NN (a : Int) (b : Int) seed f' v4_ v5_ hh) (a : Int) (b : Int) seed pv_NN (w : Int) (p : Int) 0 hm = fX10_grid_27 pv_NN (a : Int) (b : Int) seed f' (w' : Int) ((p + 1 : Nat) : Int) m' := y2
    rw [fX9_grid_52, fX10_grid_27, if_neg (show ¬ (9 : Int) < (p : Int) by omega), if_neg (show ¬ (10 : Int) ≤ (p : Int) by omega), if_pos (show 0 ≤ (b : Int) ∧ (b : Int) < 4 by omega), tnc, bbs, e1, c1s, y1, y2]
    exact ih (p + 1) f f' w' c' m' (by omega) (by omega) (by omega) (by omega) (by omega) y4 y5
end GRID
theorem s_grid : sm_grid SSz := by
  intro hc hm S a1 a2 a3 _ _ _
  refine two_th S fun hm S => ?_
  unfold fX9_grid fX9_grid_15
  by_cases hr : rodOk hm a1
  · obtain ⟨a, rfl⟩ := Int.eq_ofNat_of_zero_le hr.1
    have ha : a < 4 := by have := hr.2.1; omega
    rw [hasRod_1 S hr, c1s, if_neg n10]
    by_cases hd : 0 ≤ a2 ∧ a2 < 4
    · obtain ⟨b, rfl⟩ := Int.eq_ofNat_of_zero_le hd.1
      obtain ⟨n, fl, st, sg, no, su, g, g99, c, v⟩ := S.rod2 hr
      obtain ⟨m, K, U, T, gd, cd, vd⟩ := S.dov2 (a := b) (by omega)
      obtain ⟨_, lw1, lw2⟩ := S.lawv
      have l : lwB (fun j => hm 2 (1116 + j)) := lw2
      obtain ⟨h1, e1, k1, k2, k3, k4, k5⟩ := take_C (N := pv_NN) (seed := a3) (by decide) g l (show 35 + 6 * a + 6 ≤ 78 ∨ _ by omega) (by
        rcases (show a = 0 ∨ a = 1 ∨ a = 2 ∨ a = 3 by omega) with rfl | rfl | rfl | rfl <;> decide) c lw1
      have cd1 : cvz h1 (59 + 4 * b) m K U T := by
        obtain ⟨q1, q2, q3⟩ := cd
        refine ⟨by rw [k5 _ _ (by omega)]; exact q1, q2, fun j hj => ?_⟩
        rw [k5 (59 + 4 * b + 1) j (by omega), k5 (59 + 4 * b + 2) j (by omega), k5 (59 + 4 * b + 3) j (by omega)]
        exact q3 j hj
      rw [hasDo_1 hd, c1s, if_neg n10, isBoth_1 hr hd, c1s, if_neg n10, if_pos (show 0 ≤ (a : Int) ∧ (a : Int) < 4 by omega), tnc, bbs, e1, c1s]
      exact grid_out S ha (by omega) g l v gd vd (fun j _ => rfl) 9 1 pv_NN pv_NN 0 h1 hm (by omega) (by omega) (by unfold pv_NN; omega) (by unfold pv_NN; omega) (by omega) ⟨k1, k2, k4, cd1, fun x y np => k5 x y (by unfold PCz at np; omega)⟩ frz.rf
    · rw [hasDo_0 hd, c1s, if_pos rfl, isBoth_0 (fun z => hd z.2), c1s, if_pos rfl]
      exact no2 S
  · rw [hasRod_0 S hr, c1s, if_pos rfl, isBoth_0 (fun z => hr z.1), c1s, if_pos rfl]
    exact no2 S
