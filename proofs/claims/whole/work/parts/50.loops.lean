/-! TICK after TICK, both -/
section LOOPS
variable {N n : Nat} {lr : Int} {J : (Nat → Int) → Nat → Nat → pv_H → pv_H → Prop} {a1 a3 : Int}
/-- one tick in which every WAVE that goes moves -/
theorem moveAll_2 (K : JOK n lr J) {tk : Int} {nw ng : Nat} {hc hm : pv_H} {k216 : pv_H → Option pv_H} (hN : 1000 ≤ N) (t0 : 0 ≤ tk) (t2 : tk ≤ 3999) (hJ : J (fun _ => tk - lr) nw ng hc hm) (gz : GOz nw ng hc hm) (e41 : hm 0 41 = tk) (ea : (if a1 = -1 then hm 0 37 else a1) = a3)
  (step : ∀ (last : Nat → Int) (nw ng : Nat) (hc hm : pv_H) (v : Nat), J last nw ng hc hm → v < nw → hm 19 v = 1 → last v = tk - lr → (if a1 = -1 then hm 0 37 else a1) = a3 → ∃ (hc' hm' : pv_H) (rr : Int) (nw' ng' : Nat), fX1_goesOn N (v : Int) tk hc = some (hc', rr) ∧ fX10_comes N (v : Int) tk a3 hm = some hm' ∧ SWz lr tk n v nw ng nw' ng' last rr hc hm hc' hm' ∧ J (fun w => if w = v ∨ nw ≤ w then tk else last w) nw' ng' hc' hm' ∧ hm' 0 41 = hm 0 41 ∧ hm' 0 37 = hm 0 37) :
  ∃ (hc' hm' : pv_H) (nw' ng' : Nat), fX1_moveAll N tk hc = some hc' ∧ fX10_runs_247 N k216 a1 N (nw : Int) 0 hm = k216 (pv_up hm' 0 41 (tk + 1)) ∧ J (fun _ => tk) nw' ng' hc' hm' ∧ GOz nw' ng' hc' hm' ∧ hm' 0 37 = hm 0 37 := by
  have W := K.W _ _ _ _ _ hJ
  have nw200 := W.2.2.1
  have ngn := W.2.2.2.2.1
  have ngt := W.2.2.2.1
  obtain ⟨gz1, gz2⟩ := gz
  have I : INz J lr tk nw ng 0 0 0 nw ng hc hm := by
    refine ⟨by omega, Nat.le_refl _, ?_, e41, rfl, Nat.le_refl _, by omega, by omega, fun w hw => by omega, fun w h1 h2 h3 => ?_, fun w h1 h2 => by omega, by omega⟩
    · refine K.l _ _ _ _ _ _ (fun w hw _ => ?_) hJ
      rw [if_neg (by omega)]
    · rw [Nat.sub_zero, Nat.zero_add]
      exact gz2 w h2 h3
  obtain ⟨h1, m1, nw', ng', st, c1, d1, I1, e37⟩ := inner_2 (N := N) (a1 := a1) (a3 := a3) (k216 := k216) K t0 t2 step nw 0 0 0 N N nw ng hc hm (by omega) I ea (by omega) (by omega)
  obtain ⟨i1, i2, hJ1, f41, es, si, eth, t200, p1, p2, p3, eng⟩ := I1
  have W1 := K.W _ _ _ _ _ hJ1
  have b200 := W1.2.2.1
  have bng := W1.2.2.2.2.1
  have bngt := W1.2.2.2.1
  have sN : st ≤ ng := si
  obtain ⟨h2, c2, c3, c4, c5⟩ := comp_C (N := N) (tk := tk) (many := nw) (nw := nw') (there := ng) b200 i2 (h0 := h1) N 0 st h1 (by omega) (by omega) (by omega) (by omega) (by rw [bngt, eng]) (fun _ _ _ => rfl) (fun j hj => by omega) (fun j hj => by
    have := (p3 (nw + j) (by omega) hj).1
    rw [show nw + j - nw = j by omega] at this
    exact this)
  refine ⟨h2, m1, nw', st + (nw' - nw), ?_, d1, ?_, ?_, e37⟩
  · unfold fX1_moveAll
    rw [ngt, bbs]
    have := c1
    rw [show ((0 : Nat) : Int) = 0 from rfl] at this
    rw [this]
    have := c2
    rw [Nat.add_zero, Nat.add_zero] at this
    exact this
  · refine K.go _ _ _ _ _ _ _ (K.l _ _ _ _ _ _ (fun w hw _ => ?_) hJ1) (fun x y n1 n2 => c4 x y (by omega) n2) c3 (by
      have := rkz_le (m1 19) nw
      omega)
    by_cases z : w < nw ∨ nw ≤ w
    · rw [if_pos z]
    · omega
  · have e := rkz_all (p := m1 19) (a := nw) (nw' - nw) (fun w x1 x2 => (p3 w x1 (by omega)).2)
    rw [show nw + (nw' - nw) = nw' by omega] at e
    refine ⟨by omega, fun w hw go => ?_⟩
    by_cases z : w < nw
    · have r := rkz_m (m1 19) nw (show w + 1 ≤ nw by omega)
      have r2 := (rkz_s (m1 19) w).1 go
      rw [c4 _ _ (by omega) (by omega)]
      exact p1 w z go
    · have e2 := rkz_all (p := m1 19) (a := nw) (w - nw) (fun u x1 x2 => (p3 u x1 (by omega)).2)
      rw [show nw + (w - nw) = w by omega] at e2
      have := c5 (w - nw) (by omega)
      rw [e2, ← es, this]
      congr 1
      omega
/-- whether any WAVE goes -/
theorem isGo_l {nw ng : Nat} {hc hm : pv_H} (W : WRz nw ng hc hm) : ∀ (f v : Nat), nw < v + f → v ≤ nw → fX10_isGoing_2 N f (v : Int) hm = some (if rkz (hm 19) nw = rkz (hm 19) v then 0 else 1) := by
  intro f
  induction f with
  | zero => intro v h1 h2; omega
  | succ f ih =>
    intro v h1 h2
    have nw200 := W.2.2.1
    rw [fX10_isGoing_2, W.2.1]
    by_cases z : v = nw
    · subst z
      rw [if_pos (by omega), if_pos rfl]
    · rw [if_neg (by omega), if_pos (by omega), tnc]
      have v01 := (W.2.2.2.2.2 v (by omega)).2.2.2.2.2.2.2.2.2.2.2.2
      rcases v01 with y | y
      · rw [if_pos y, bbs, pws (by omega), ih (v + 1) (by omega) (by omega), (rkz_s (hm 19) v).2 (by omega)]
      · have r := rkz_m (hm 19) nw (show v + 1 ≤ nw by omega)
        have r2 := (rkz_s (hm 19) v).1 y
        rw [if_neg (by omega), if_neg (by omega)]
theorem isGo {nw ng : Nat} {hc hm : pv_H} (hN : 1000 ≤ N) (W : WRz nw ng hc hm) (gz : GOz nw ng hc hm) : fX10_isGoing N hm = some (if ng = 0 then 0 else 1) := by
  unfold fX10_isGoing
  have := isGo_l (N := N) W N 0 (by have := W.2.2.1; omega) (by omega)
  rw [show ((0 : Nat) : Int) = 0 from rfl] at this
  rw [this, ← gz.1]
  rfl
/-- a tick in which no WAVE moves -/
theorem idle_l {nw ng : Nat} {hc hm : pv_H} {k216 : pv_H → Option pv_H} {t : Int} (W : WRz nw ng hc hm) (e41 : hm 0 41 = t) (t0 : 0 ≤ t) (t2 : t ≤ 3999) (L : hm 2 1118 = lr) (r1 : 1 ≤ lr) (r9 : lr ≤ 9) (no : ∀ w, w < nw → hm 19 w = 1 → hm 27 w < t ∧ (t - hm 27 w) % lr ≠ 0) : ∀ (f v : Nat), nw < v + f → v ≤ nw → fX10_runs_247 N k216 a1 f (nw : Int) (v : Int) hm = k216 (pv_up hm 0 41 (t + 1)) := by
  intro f
  induction f with
  | zero => intro v h1 h2; omega
  | succ f ih =>
    intro v h1 h2
    have nw200 := W.2.2.1
    rw [fX10_runs_247]
    by_cases z : v = nw
    · subst z
      rw [if_pos (by omega), bbs, e41, pv_w_id (by omega) (by omega)]
    · rw [if_neg (by omega), if_pos (by omega), tnc]
      have v01 := (W.2.2.2.2.2 v (by omega)).2.2.2.2.2.2.2.2
      have nx : fX10_runs_319 N k216 (fun v2_ v3_ hh => fX10_runs_247 N k216 a1 f v2_ v3_ hh) a1 (nw : Int) (v : Int) hm = k216 (pv_up hm 0 41 (t + 1)) := by
        unfold fX10_runs_319
        rw [bbs, pws (by omega)]
        exact ih (v + 1) (by omega) (by omega)
      rcases v01.2.2.2.2 with y | y
      · rw [if_pos y]
        exact nx
      · obtain ⟨n1, n2⟩ := no v (by omega) y
        have ne : ¬ pv_w (Int.tmod (pv_w (t - hm 27 v)) lr) = 0 := by
          have l0 := Int.emod_nonneg (t - hm 27 v) (show lr ≠ 0 by omega)
          have l1 := Int.emod_lt_of_pos (t - hm 27 v) (show 0 < lr by omega)
          rw [pv_w_id (x := t - hm 27 v) (by omega) (by omega), tmn (by omega), pv_w_id (by omega) (by omega)]
          exact n2
        rw [if_neg (by omega), if_pos (by omega), e41, if_neg (by omega), if_pos (by omega), L, if_pos (by omega), if_neg ne]
        exact nx
/-- the ticks between two moves -/
theorem idles (K : JOK n lr J) {tk : Int} (hN : 1000 ≤ N) {nw ng : Nat} {hc : pv_H} (g0 : ng ≠ 0) (t0 : 0 ≤ tk - lr) : ∀ (j f : Nat) (t : Int) (hm : pv_H), tk - lr < t → t + j ≤ tk → t + j ≤ 4000 → J (fun _ => tk - lr) nw ng hc hm → GOz nw ng hc hm → hm 0 41 = t → ∃ hm', fX10_runs_216 N a1 (f + j) hm = fX10_runs_216 N a1 f hm' ∧ hm' 0 41 = t + j ∧ (∀ x y, ¬ (x = 0 ∧ y = 41) → hm' x y = hm x y) := by
  intro j
  induction j with
  | zero =>
    intro f t hm h1 h2 h3 hJ gz e41
    exact ⟨hm, rfl, by rw [e41]; omega, fun _ _ _ => rfl⟩
  | succ j ih =>
    intro f t hm h1 h2 h3 hJ gz e41
    have W := K.W _ _ _ _ _ hJ
    have G := K.G _ _ _ _ _ hJ
    have L := K.L _ _ _ _ _ hJ
    have b := K.b _ _ _ _ _ hJ
    have lr1 := K.lr1
    have lr9 := K.lr9
    have F : ∀ x y, ¬ (x = 0 ∧ y = 41) → pv_up hm 0 41 (t + 1) x y = hm x y := fun x y np => pv_up_ne (by omega)
    have gz' : GOz nw ng hc (pv_up hm 0 41 (t + 1)) := ⟨by
      rw [gz.1]
      exact rkz_congr nw (fun w hw => (F 19 w (by omega)).symm), fun w hw go => by
      rw [F 19 w (by omega)] at go
      have := gz.2 w hw go
      rw [rkz_congr (q := hm 19) w (fun u hu => F 19 u (by omega))]
      exact this⟩
    obtain ⟨hm', y1, y2, y3⟩ := ih f (t + 1) (pv_up hm 0 41 (t + 1)) (by omega) (by omega) (by omega) (K.t _ _ _ _ _ _ hJ F) gz' (by rw [pv_up_self])
    refine ⟨hm', ?_, by rw [y2]; omega, fun x y np => by rw [y3 x y np, F x y np]⟩
    rw [← y1, show f + (j + 1) = f + j + 1 by omega, fX10_runs_216, e41, if_neg (by omega), if_neg (by omega), isGo hN W gz, c1s, if_neg g0, if_neg (by omega), bbs, W.2.1]
    have := idle_l (N := N) (a1 := a1) (k216 := fun hh => fX10_runs_216 N a1 (f + j) hh) (lr := lr) (t := t) W e41 (by omega) (by omega) L lr1 lr9 (fun w hw go => by
      obtain ⟨_, _, _, ⟨q, q1, q2, _, _⟩, _⟩ := G w hw go
      dsimp only at q2
      have lq : 0 ≤ lr * q := Int.mul_nonneg (by omega) q1
      refine ⟨by omega, ?_⟩
      have e : t - hm 27 w = (t - (tk - lr)) + lr * q := by omega
      rw [e, Int.add_mul_emod_self_left, Int.emod_eq_of_lt (by omega) (by omega)]
      omega) N 0 (by have := W.2.2.1; omega) (by omega)
    exact this
/-- all ticks -/
theorem loops (K : JOK n lr J) (hN : 10000 ≤ N) {A1 A2 : Int}
  (step : ∀ (tk : Int) (last : Nat → Int) (nw ng : Nat) (hc hm : pv_H) (v : Nat), 0 ≤ tk → tk ≤ 4000 → J last nw ng hc hm → v < nw → hm 19 v = 1 → last v = tk - lr → (if a1 = -1 then hm 0 37 else a1) = a3 → ∃ (hc' hm' : pv_H) (rr : Int) (nw' ng' : Nat), fX1_goesOn N (v : Int) tk hc = some (hc', rr) ∧ fX10_comes N (v : Int) tk a3 hm = some hm' ∧ SWz lr tk n v nw ng nw' ng' last rr hc hm hc' hm' ∧ J (fun w => if w = v ∨ nw ≤ w then tk else last w) nw' ng' hc' hm' ∧ hm' 0 41 = hm 0 41 ∧ hm' 0 37 = hm 0 37) :
  ∀ (d fc fm : Nat) (tk : Int) (nw ng : Nat) (hc hm : pv_H), 4000 ≤ tk + d → d ≤ fc → 4000 < (tk - lr) + fm → 0 < fc → 0 ≤ tk - lr → tk - lr + 1 ≤ 4000 → J (fun _ => tk - lr) nw ng hc hm → GOz nw ng hc hm → hm 0 41 = tk - lr + 1 → (if a1 = -1 then hm 0 37 else a1) = a3 → 4000 ≤ tk + fc - 1 →
  ∃ (hc' hm' : pv_H) (nw' ng' : Nat) (e : Int) (last : Nat → Int), fX1_sendWaves_159 N A1 A2 fc lr (tk - lr + 1) tk hc = fX1_sendWaves_218 N A1 A2 e 4 hc' ∧ fX10_runs_216 N a1 fm hm = fX10_runs_338 N a1 hm' ∧ J last nw' ng' hc' hm' ∧ hm' 0 41 = e ∧ 0 ≤ e ∧ e ≤ 4000 := by
  intro d
  induction d with
  | zero =>
    intro fc fm tk nw ng hc hm h1 h2 h3 h4 h5 h6 hJ gz e41 ea h7
    have W := K.W _ _ _ _ _ hJ
    have b := K.b _ _ _ _ _ hJ
    have lr1 := K.lr1
    have lr9 := K.lr9
    obtain ⟨fc', rfl⟩ : ∃ fc', fc = fc' + 1 := ⟨fc - 1, by omega⟩
    rw [fX1_sendWaves_159, if_pos (by omega)]
    unfold fX1_sendWaves_195
    rw [W.2.2.2.1]
    by_cases g0 : ng = 0
    · rw [if_pos (by omega)]
      obtain ⟨fm', rfl⟩ : ∃ fm', fm = fm' + 1 := ⟨fm - 1, by omega⟩
      refine ⟨hc, hm, nw, ng, tk - lr + 1, _, rfl, ?_, hJ, e41, by omega, by omega⟩
      rw [fX10_runs_216, e41]
      by_cases z : 4000 ≤ tk - lr + 1
      · rw [if_pos z]
      · rw [if_neg z, if_neg (by omega), isGo (by omega) W gz, c1s, if_pos g0, if_pos rfl]
    · rw [if_neg (by omega)]
      obtain ⟨f', hf⟩ : ∃ f', fm = f' + 1 + (4000 - (tk - lr + 1)).toNat := ⟨fm - 1 - (4000 - (tk - lr + 1)).toNat, by omega⟩
      obtain ⟨hm', y1, y2, y3⟩ := idles (N := N) (a1 := a1) K (by omega) g0 h5 (4000 - (tk - lr + 1)).toNat (f' + 1) (tk - lr + 1) hm (by omega) (by omega) (by omega) hJ gz e41
      rw [hf, y1]
      refine ⟨hc, hm', nw, ng, 4000, _, rfl, ?_, K.t _ _ _ _ _ _ hJ y3, by omega, by omega, by omega⟩
      rw [fX10_runs_216, if_pos (by omega)]
  | succ d ih =>
    intro fc fm tk nw ng hc hm h1 h2 h3 h4 h5 h6 hJ gz e41 ea h7
    by_cases z4 : 4000 ≤ tk
    · exact ih fc fm tk nw ng hc hm (by omega) (by omega) h3 h4 h5 h6 hJ gz e41 ea h7
    have W := K.W _ _ _ _ _ hJ
    have b := K.b _ _ _ _ _ hJ
    have lr1 := K.lr1
    have lr9 := K.lr9
    obtain ⟨fc', rfl⟩ : ∃ fc', fc = fc' + 1 := ⟨fc - 1, by omega⟩
    rw [fX1_sendWaves_159, if_neg z4, W.2.2.2.1]
    by_cases g0 : ng = 0
    · rw [if_pos (by omega)]
      unfold fX1_sendWaves_195
      rw [W.2.2.2.1, if_pos (by omega)]
      obtain ⟨fm', rfl⟩ : ∃ fm', fm = fm' + 1 := ⟨fm - 1, by omega⟩
      refine ⟨hc, hm, nw, ng, tk - lr + 1, _, rfl, ?_, hJ, e41, by omega, by omega⟩
      rw [fX10_runs_216, e41, if_neg (by omega), if_neg (by omega), isGo (by omega) W gz, c1s, if_pos g0, if_pos rfl]
    · rw [if_neg (by omega)]
      obtain ⟨f', hf⟩ : ∃ f', fm = f' + 1 + (lr - 1).toNat := ⟨fm - 1 - (lr - 1).toNat, by omega⟩
      obtain ⟨m1, y1, y2, y3⟩ := idles (N := N) (a1 := a1) K (by omega) g0 h5 (lr - 1).toNat (f' + 1) (tk - lr + 1) hm (by omega) (by omega) (by omega) hJ gz e41
      have gz' : GOz nw ng hc m1 := ⟨by
        rw [gz.1]
        exact rkz_congr nw (fun w hw => (y3 19 w (by omega)).symm), fun w hw go => by
        rw [y3 19 w (by omega)] at go
        have := gz.2 w hw go
        rw [rkz_congr (q := hm 19) w (fun u hu => y3 19 u (by omega))]
        exact this⟩
      have e41' : m1 0 41 = tk := by omega
      have hJ1 := K.t _ _ _ _ _ _ hJ y3
      have W1 := K.W _ _ _ _ _ hJ1
      have b1 := K.b _ _ _ _ _ hJ1
      have ea1 : (if a1 = -1 then m1 0 37 else a1) = a3 := by rw [y3 0 37 (by omega)]; exact ea
      obtain ⟨hc2, m2, nw2, ng2, x1, x2, x3, x4, x5⟩ := moveAll_2 (N := N) (a1 := a1) (a3 := a3) (k216 := fun hh => fX10_runs_216 N a1 f' hh) K (by omega) (by omega) (by omega) hJ1 gz' e41' ea1 (step tk · · · · · · (by omega) (by omega))
      have F : ∀ x y, ¬ (x = 0 ∧ y = 41) → pv_up m2 0 41 (tk + 1) x y = m2 x y := fun x y np => pv_up_ne (by omega)
      have gz2 : GOz nw2 ng2 hc2 (pv_up m2 0 41 (tk + 1)) := ⟨by
        rw [x4.1]
        exact rkz_congr nw2 (fun w hw => (F 19 w (by omega)).symm), fun w hw go => by
        rw [F 19 w (by omega)] at go
        have := x4.2 w hw go
        rw [rkz_congr (q := m2 19) w (fun u hu => F 19 u (by omega))]
        exact this⟩
      have hJ2 := K.t _ _ _ _ _ _ x3 F
      have el : tk + lr - lr = tk := by omega
      obtain ⟨hc', hm', nw', ng', e, last, w1, w2, w3⟩ := ih fc' f' (tk + lr) nw2 ng2 hc2 (pv_up m2 0 41 (tk + 1)) (by omega) (by omega) (by omega) (by omega) (by omega) (by omega) (by rw [el]; exact hJ2) gz2 (by rw [pv_up_self]; omega) (by rw [F 0 37 (by omega), x5]; exact ea1) (by omega)
      refine ⟨hc', hm', nw', ng', e, last, ?_, ?_, w3⟩
      · rw [x1, c1s, bbs, bbs, pv_w_id (by omega) (by omega), pv_w_id (by omega) (by omega), ← w1, el]
      · rw [hf, y1, fX10_runs_216, e41', if_neg (by omega), if_neg (by omega), isGo (by omega) W1 gz', c1s, if_neg g0, if_neg (by omega), bbs, W1.2.1, x2, ← w2]
end LOOPS
