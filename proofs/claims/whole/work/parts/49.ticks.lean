/-! TICK by TICK, WAVE by WAVE, over an abstract relation -/
def rkz (p : Nat → Int) : Nat → Nat
  | 0 => 0
  | u + 1 => rkz p u + (if p u = 1 then 1 else 0)
theorem rkz_s (p : Nat → Int) (u : Nat) : (p u = 1 → rkz p (u + 1) = rkz p u + 1) ∧ (¬ p u = 1 → rkz p (u + 1) = rkz p u) := by
  constructor
  · intro h; simp only [rkz, if_pos h]
  · intro h; simp only [rkz, if_neg h, Nat.add_zero]
theorem rkz_congr {p q : Nat → Int} : ∀ u, (∀ w, w < u → p w = q w) → rkz p u = rkz q u := by
  intro u
  induction u with
  | zero => intro _; rfl
  | succ u ih => intro h; simp only [rkz, ih (fun w hw => h w (by omega)), h u (by omega)]
theorem rkz_m (p : Nat → Int) {a : Nat} : ∀ b, a ≤ b → rkz p a ≤ rkz p b := by
  intro b
  induction b with
  | zero => intro h; have : a = 0 := by omega
            subst this; exact Nat.le_refl _
  | succ b ih =>
    intro h
    by_cases e : a = b + 1
    · subst e; exact Nat.le_refl _
    · have := ih (by omega)
      simp only [rkz]
      omega
theorem rkz_le (p : Nat → Int) : ∀ u, rkz p u ≤ u := by
  intro u
  induction u with
  | zero => exact Nat.le_refl _
  | succ u ih =>
    simp only [rkz]
    by_cases h : p u = 1
    · rw [if_pos h]; omega
    · rw [if_neg h]; omega
theorem rkz_all {p : Nat → Int} {a : Nat} : ∀ d, (∀ w, a ≤ w → w < a + d → p w = 1) → rkz p (a + d) = rkz p a + d := by
  intro d
  induction d with
  | zero => intro _; rfl
  | succ d ih =>
    intro h
    have := ih (fun w h1 h2 => h w h1 (by omega))
    have e : a + (d + 1) = a + d + 1 := rfl
    rw [e, (rkz_s p (a + d)).1 (h _ (by omega) (by omega)), this]
    omega
theorem rkz_d {p q : Nat → Int} {a : Nat} : ∀ b, a ≤ b → (∀ w, a ≤ w → w < b → p w = q w) → rkz p b - rkz p a = rkz q b - rkz q a := by
  intro b
  induction b with
  | zero => intro h _; have : a = 0 := by omega
            subst this; rfl
  | succ b ih =>
    intro h hh
    by_cases e : a = b + 1
    · subst e; omega
    · have := ih (by omega) (fun w h1 h2 => hh w h1 (by omega))
      have m1 := rkz_m p b (show a ≤ b by omega)
      have m2 := rkz_m q b (show a ≤ b by omega)
      simp only [rkz]
      rw [hh b (by omega) (by omega)]
      omega
/-- the class's list of WAVES that go -/
def GOz (nw ng : Nat) (hc hm : pv_H) : Prop := ng = rkz (hm 19) nw ∧ ∀ w, w < nw → hm 19 w = 1 → hc 96 (rkz (hm 19) w) = (w : Int)
def JOK (n : Nat) (lr : Int) (J : (Nat → Int) → Nat → Nat → pv_H → pv_H → Prop) : Prop :=
  (∀ (last : Nat → Int) (nw ng : Nat) (hc hm : pv_H), J last nw ng hc hm → WRz nw ng hc hm) ∧
  (∀ (last : Nat → Int) (nw ng : Nat) (hc hm : pv_H), J last nw ng hc hm → GWz lr n nw last hc hm) ∧
  (1 ≤ lr) ∧
  (lr ≤ 9) ∧
  (∀ (last last' : Nat → Int) (nw ng : Nat) (hc hm : pv_H), (∀ w, w < nw → hm 19 w = 1 → last w = last' w) → J last nw ng hc hm → J last' nw ng hc hm) ∧
  (∀ (last : Nat → Int) (nw ng ng' : Nat) (hc hc' hm : pv_H), J last nw ng hc hm → (∀ x y, x ≠ 96 → ¬ (x = 78 ∧ y = 10) → hc' x y = hc x y) → hc' 78 10 = (ng' : Int) → ng' ≤ nw → J last nw ng' hc' hm) ∧
  (∀ (last : Nat → Int) (nw ng : Nat) (hc hm : pv_H), J last nw ng hc hm → hm 2 1118 = lr) ∧
  (∀ (last : Nat → Int) (nw ng : Nat) (hc hm hm' : pv_H), J last nw ng hc hm → (∀ x y, ¬ (x = 0 ∧ y = 41) → hm' x y = hm x y) → J last nw ng hc hm') ∧
  (∀ (last : Nat → Int) (nw ng : Nat) (hc hm : pv_H), J last nw ng hc hm → 0 < hm 0 38)
theorem JOK.W {n : Nat} {lr : Int} {J : (Nat → Int) → Nat → Nat → pv_H → pv_H → Prop} (K : JOK n lr J) : ∀ (last : Nat → Int) (nw ng : Nat) (hc hm : pv_H), J last nw ng hc hm → WRz nw ng hc hm := K.1
theorem JOK.G {n : Nat} {lr : Int} {J : (Nat → Int) → Nat → Nat → pv_H → pv_H → Prop} (K : JOK n lr J) : ∀ (last : Nat → Int) (nw ng : Nat) (hc hm : pv_H), J last nw ng hc hm → GWz lr n nw last hc hm := K.2.1
theorem JOK.lr1 {n : Nat} {lr : Int} {J : (Nat → Int) → Nat → Nat → pv_H → pv_H → Prop} (K : JOK n lr J) : 1 ≤ lr := K.2.2.1
theorem JOK.lr9 {n : Nat} {lr : Int} {J : (Nat → Int) → Nat → Nat → pv_H → pv_H → Prop} (K : JOK n lr J) : lr ≤ 9 := K.2.2.2.1
theorem JOK.l {n : Nat} {lr : Int} {J : (Nat → Int) → Nat → Nat → pv_H → pv_H → Prop} (K : JOK n lr J) : ∀ (last last' : Nat → Int) (nw ng : Nat) (hc hm : pv_H), (∀ w, w < nw → hm 19 w = 1 → last w = last' w) → J last nw ng hc hm → J last' nw ng hc hm := K.2.2.2.2.1
theorem JOK.go {n : Nat} {lr : Int} {J : (Nat → Int) → Nat → Nat → pv_H → pv_H → Prop} (K : JOK n lr J) : ∀ (last : Nat → Int) (nw ng ng' : Nat) (hc hc' hm : pv_H), J last nw ng hc hm → (∀ x y, x ≠ 96 → ¬ (x = 78 ∧ y = 10) → hc' x y = hc x y) → hc' 78 10 = (ng' : Int) → ng' ≤ nw → J last nw ng' hc' hm := K.2.2.2.2.2.1
theorem JOK.L {n : Nat} {lr : Int} {J : (Nat → Int) → Nat → Nat → pv_H → pv_H → Prop} (K : JOK n lr J) : ∀ (last : Nat → Int) (nw ng : Nat) (hc hm : pv_H), J last nw ng hc hm → hm 2 1118 = lr := K.2.2.2.2.2.2.1
theorem JOK.t {n : Nat} {lr : Int} {J : (Nat → Int) → Nat → Nat → pv_H → pv_H → Prop} (K : JOK n lr J) : ∀ (last : Nat → Int) (nw ng : Nat) (hc hm hm' : pv_H), J last nw ng hc hm → (∀ x y, ¬ (x = 0 ∧ y = 41) → hm' x y = hm x y) → J last nw ng hc hm' := K.2.2.2.2.2.2.2.1
theorem JOK.b {n : Nat} {lr : Int} {J : (Nat → Int) → Nat → Nat → pv_H → pv_H → Prop} (K : JOK n lr J) : ∀ (last : Nat → Int) (nw ng : Nat) (hc hm : pv_H), J last nw ng hc hm → 0 < hm 0 38 := K.2.2.2.2.2.2.2.2
section TICKS
variable {N n : Nat} {lr : Int} {J : (Nat → Int) → Nat → Nat → pv_H → pv_H → Prop} {a1 a3 : Int}
/-- the WAVES behind the others move up -/
theorem comp_C {tk : Int} {many nw there : Nat} (hN : nw ≤ 200) (hmn : many ≤ nw) {h0 : pv_H} : ∀ (f d : Nat) (stay : Nat) (h : pv_H), many + d ≤ nw → nw < many + d + f → stay + d ≤ there + d → there + (nw - many) ≤ 200 → h 78 10 = ((there + (nw - many) : Nat) : Int) → (∀ x y, ¬ (x = 96 ∧ stay ≤ y ∧ y < stay + d) → h x y = h0 x y) → (∀ j, j < d → h 96 (stay + j) = ((many + j : Nat) : Int)) → (∀ j, many + j < nw → h0 96 (there + j) = ((many + j : Nat) : Int)) → ∃ h', fX1_moveAll_55 N tk f ((stay + d : Nat) : Int) ((there + d : Nat) : Int) h = some h' ∧ h' 78 10 = ((stay + (nw - many) : Nat) : Int) ∧ (∀ x y, ¬ (x = 96 ∧ stay ≤ y ∧ y < stay + (nw - many)) → ¬ (x = 78 ∧ y = 10) → h' x y = h0 x y) ∧ ∀ j, many + j < nw → h' 96 (stay + j) = ((many + j : Nat) : Int) := by
  intro f
  induction f with
  | zero => intro d stay h h1 h2; omega
  | succ f ih =>
    intro d stay h h1 h2 h3 h4 h5 h6 h7 h8
    rw [fX1_moveAll_55, h5]
    by_cases q : nw = many + d
    · rw [if_pos (by omega), bbs]
      refine ⟨_, rfl, ?_, fun x y n1 n2 => ?_, fun j hj => ?_⟩
      · rw [pv_up_self]; congr 1; omega
      · rw [pv_up_ne (by omega), h6 x y (by omega)]
      · rw [pv_up_ne (by omega)]; exact h7 j (by omega)
    · rw [if_neg (by omega), if_pos (by omega), if_pos (by omega), tnc, tnc, bbs, bbs, bbs, pws (by omega), pws (by omega)]
      have e1 : h 96 (there + d) = ((many + d : Nat) : Int) := by
        rw [h6 _ _ (by omega)]; exact h8 d (by omega)
      rw [e1]
      have := ih (d + 1) stay (pv_up h 96 (stay + d) ((many + d : Nat) : Int)) (by omega) (by omega) (by omega) h4 (by rw [pv_up_ne (by omega)]; exact h5) (fun x y np => by rw [pv_up_ne (by omega)]; exact h6 x y (by omega)) (fun j hj => by
        by_cases e : j = d
        · subst e; rw [pv_up_self]
        · rw [pv_up_ne (by omega)]; exact h7 j (by omega)) h8
      exact this
def INz (J : (Nat → Int) → Nat → Nat → pv_H → pv_H → Prop) (lr tk : Int) (many there v i stay nw ng : Nat) (hc hm : pv_H) : Prop :=
  v ≤ many ∧ many ≤ nw ∧ J (fun w => if w < v ∨ many ≤ w then tk else tk - lr) nw ng hc hm ∧ hm 0 41 = tk ∧ stay = rkz (hm 19) v ∧ stay ≤ i ∧ there = i + (rkz (hm 19) many - stay) ∧ there ≤ 200 ∧ (∀ w, w < v → hm 19 w = 1 → hc 96 (rkz (hm 19) w) = (w : Int)) ∧ (∀ w, v ≤ w → w < many → hm 19 w = 1 → hc 96 (i + (rkz (hm 19) w - stay)) = (w : Int)) ∧ (∀ w, many ≤ w → w < nw → hc 96 (there + (w - many)) = (w : Int) ∧ hm 19 w = 1) ∧ ng = there + (nw - many)
section ONE
variable {tk rr : Int} {many there v i stay nw ng nw' ng' : Nat} {hc hm hc' hm' : pv_H}
/-- what both ends of one step share -/
theorem in_sh (K : JOK n lr J) (I : INz J lr tk many there v i stay nw ng hc hm) (hv : v < many) (go : hm 19 v = 1) (s3 : SWz lr tk n v nw ng nw' ng' (fun w => if w < v ∨ many ≤ w then tk else tk - lr) rr hc hm hc' hm') (s4 : J (fun w => if w = v ∨ nw ≤ w then tk else (if w < v ∨ many ≤ w then tk else tk - lr)) nw' ng' hc' hm') : many ≤ nw' ∧ J (fun w => if w < v + 1 ∨ many ≤ w then tk else tk - lr) nw' ng' hc' hm' ∧ ng' = there + (nw' - many) ∧ ng = there + (nw - many) ∧ (∀ w, many ≤ w → w < nw' → hc' 96 (there + (w - many)) = (w : Int) ∧ hm' 19 w = 1) ∧ (∀ w, w ≤ v → rkz (hm' 19) w = rkz (hm 19) w) ∧ (∀ w, v + 1 ≤ w → w ≤ many → rkz (hm' 19) w - rkz (hm' 19) (v + 1) = rkz (hm 19) w - rkz (hm 19) (v + 1)) ∧ rkz (hm 19) (v + 1) = stay + 1 ∧ rkz (hm 19) (v + 1) ≤ rkz (hm 19) many := by
  obtain ⟨i1, i2, hJ, e41, es, si, eth, t200, p1, p2, p3, eng⟩ := I
  obtain ⟨t1, t2', t3, t4, t5, t6, t7, t8, t9⟩ := s3
  have old : ∀ w, w < nw → w ≠ v → hm' 19 w = hm 19 w := fun w hw ne => (t8 w hw).2 ne
  have rs := (rkz_s (hm 19) v).1 go
  have rm := rkz_m (hm 19) many (show v + 1 ≤ many by omega)
  refine ⟨by omega, ?_, by omega, eng, ?_, fun w hw => rkz_congr w (fun u hu => old u (by omega) (by omega)), fun w hw1 hw2 => rkz_d w hw1 (fun u h1 h2 => old u (by omega) (by omega)), by omega, rm⟩
  · refine K.l _ _ _ _ _ _ (fun w hw _ => ?_) s4
    by_cases z : w = v ∨ nw ≤ w
    · rw [if_pos z, if_pos (by omega)]
    · rw [if_neg z]
      by_cases z2 : w < v ∨ many ≤ w
      · rw [if_pos z2, if_pos (by omega)]
      · rw [if_neg z2, if_neg (by omega)]
  · intro w h1 h2
    by_cases z : w < nw
    · obtain ⟨y1, y2⟩ := p3 w h1 z
      exact ⟨by rw [t7 _ (by omega)]; exact y1, by rw [old w z (by omega)]; exact y2⟩
    · obtain ⟨y1, y2, _⟩ := t6 w (by omega) h2
      have e : there + (w - many) = ng + (w - nw) := by omega
      rw [e]
      exact ⟨y1, y2⟩
theorem in_end (K : JOK n lr J) (I : INz J lr tk many there v i stay nw ng hc hm) (hv : v < many) (go : hm 19 v = 1) (s3 : SWz lr tk n v nw ng nw' ng' (fun w => if w < v ∨ many ≤ w then tk else tk - lr) rr hc hm hc' hm') (s4 : J (fun w => if w = v ∨ nw ≤ w then tk else (if w < v ∨ many ≤ w then tk else tk - lr)) nw' ng' hc' hm') (s5 : hm' 0 41 = hm 0 41) (z : rr = 0) : INz J lr tk many there (v + 1) (i + 1) stay nw' ng' hc' hm' := by
  obtain ⟨k1, k2, k3, k4, k5, k6, k7, k8, k9⟩ := in_sh K I hv go s3 s4
  obtain ⟨i1, i2, hJ, e41, es, si, eth, t200, p1, p2, p3, eng⟩ := I
  obtain ⟨t1, t2', t3, t4, t5, t6, t7, t8, t9⟩ := s3
  have nr : ¬ hm' 19 v = 1 := by omega
  have rs' := (rkz_s (hm' 19) v).2 nr
  have kv := k6 v (Nat.le_refl _)
  have km := k7 many (by omega) (Nat.le_refl _)
  have mm := rkz_m (hm' 19) many (show v ≤ many by omega)
  refine ⟨by omega, k1, k2, by rw [s5]; exact e41, by omega, by omega, by omega, t200, fun w hw h1 => ?_, fun w h1 h2 h3 => ?_, k5, k3⟩
  · have wv : w ≠ v := fun e => by subst e; exact nr h1
    rw [(t8 w (by omega)).2 wv] at h1
    have := p1 w (by omega) h1
    have r2 := rkz_m (hm 19) v (show w ≤ v by omega)
    rw [k6 w (by omega), t7 _ (by omega)]
    exact this
  · rw [(t8 w (by omega)).2 (by omega)] at h3
    have := p2 w (by omega) h2 h3
    have r2 := k7 w h1 (by omega)
    have r3 := rkz_m (hm 19) w (show v + 1 ≤ w by omega)
    have r4 := rkz_m (hm' 19) w (show v + 1 ≤ w by omega)
    have r5 := rkz_m (hm 19) many (show w + 1 ≤ many by omega)
    have r6 := (rkz_s (hm 19) w).1 h3
    have e : i + 1 + (rkz (hm' 19) w - stay) = i + (rkz (hm 19) w - stay) := by omega
    rw [e, t7 _ (by omega)]
    exact this
theorem in_on (K : JOK n lr J) (I : INz J lr tk many there v i stay nw ng hc hm) (hv : v < many) (go : hm 19 v = 1) (s3 : SWz lr tk n v nw ng nw' ng' (fun w => if w < v ∨ many ≤ w then tk else tk - lr) rr hc hm hc' hm') (s4 : J (fun w => if w = v ∨ nw ≤ w then tk else (if w < v ∨ many ≤ w then tk else tk - lr)) nw' ng' hc' hm') (s5 : hm' 0 41 = hm 0 41) (z : rr = 1) : INz J lr tk many there (v + 1) (i + 1) (stay + 1) nw' ng' (pv_up hc' 96 stay (v : Int)) hm' := by
  obtain ⟨k1, k2, k3, k4, k5, k6, k7, k8, k9⟩ := in_sh K I hv go s3 s4
  obtain ⟨i1, i2, hJ, e41, es, si, eth, t200, p1, p2, p3, eng⟩ := I
  obtain ⟨t1, t2', t3, t4, t5, t6, t7, t8, t9⟩ := s3
  have yr : hm' 19 v = 1 := by omega
  have rs' := (rkz_s (hm' 19) v).1 yr
  have kv := k6 v (Nat.le_refl _)
  have km := k7 many (by omega) (Nat.le_refl _)
  have mm := rkz_m (hm' 19) many (show v + 1 ≤ many by omega)
  have ngl := t3.2.2.2.2.1
  have ngt := t3.2.2.2.1
  refine ⟨by omega, k1, ?_, by rw [s5]; exact e41, by omega, by omega, by omega, t200, fun w hw h1 => ?_, fun w h1 h2 h3 => ?_, fun w h1 h2 => ?_, k3⟩
  · exact K.go _ _ _ _ _ _ _ k2 (fun x y n1 n2 => pv_up_ne (by omega)) (by rw [pv_up_ne (by omega)]; exact ngt) ngl
  · by_cases wv : w = v
    · subst wv
      rw [kv, ← es, pv_up_self]
    · rw [(t8 w (by omega)).2 wv] at h1
      have := p1 w (by omega) h1
      have r2 := rkz_m (hm 19) v (show w + 1 ≤ v by omega)
      have r3 := (rkz_s (hm 19) w).1 h1
      rw [k6 w (by omega), pv_up_ne (by omega), t7 _ (by omega)]
      exact this
  · rw [(t8 w (by omega)).2 (by omega)] at h3
    have := p2 w (by omega) h2 h3
    have r2 := k7 w h1 (by omega)
    have r3 := rkz_m (hm 19) w (show v + 1 ≤ w by omega)
    have r4 := rkz_m (hm' 19) w (show v + 1 ≤ w by omega)
    have r5 := rkz_m (hm 19) many (show w + 1 ≤ many by omega)
    have r6 := (rkz_s (hm 19) w).1 h3
    have e : i + 1 + (rkz (hm' 19) w - (stay + 1)) = i + (rkz (hm 19) w - stay) := by omega
    rw [e, pv_up_ne (by omega), t7 _ (by omega)]
    exact this
  · obtain ⟨y1, y2⟩ := k5 w h1 h2
    exact ⟨by rw [pv_up_ne (by omega)]; exact y1, y2⟩
theorem in_not (K : JOK n lr J) (I : INz J lr tk many there v i stay nw ng hc hm) (hv : v < many) (go : ¬ hm 19 v = 1) : INz J lr tk many there (v + 1) i stay nw ng hc hm := by
  obtain ⟨i1, i2, hJ, e41, es, si, eth, t200, p1, p2, p3, eng⟩ := I
  have rs := (rkz_s (hm 19) v).2 go
  refine ⟨by omega, i2, ?_, e41, by omega, si, eth, t200, fun w hw h1 => ?_, fun w h1 h2 h3 => p2 w (by omega) h2 h3, p3, eng⟩
  · refine K.l _ _ _ _ _ _ (fun w hw h1 => ?_) hJ
    have wv : w ≠ v := fun e => by subst e; exact go h1
    by_cases z2 : w < v ∨ many ≤ w
    · rw [if_pos z2, if_pos (by omega)]
    · rw [if_neg z2, if_neg (by omega)]
  · have wv : w ≠ v := fun e => by subst e; exact go h1
    exact p1 w (by omega) h1
/-- a WAVE that goes: the reference's tests -/
theorem goes_M {k216 : pv_H → Option pv_H} {k247 : Nat → Int → Int → pv_H → Option pv_H} {s : Nat → Int} (hk : k247 = fX10_runs_247 N k216 a1) (W : WRz nw ng hc hm) (G : GWz lr n nw s hc hm) (L : hm 2 1118 = lr) (r1 : 1 ≤ lr) (r9 : lr ≤ 9) (hv : v < many) (hn : many ≤ nw) (go : hm 19 v = 1) (q2 : s v = tk - lr) (t0 : 0 ≤ tk) (t2 : tk ≤ 3999) (e41 : hm 0 41 = tk) (ea : (if a1 = -1 then hm 0 37 else a1) = a3) (s2 : fX10_comes N (v : Int) tk a3 hm = some hm') (fm : Nat) : fX10_runs_247 N k216 a1 (fm + 1) (many : Int) (v : Int) hm = fX10_runs_247 N k216 a1 fm (many : Int) ((v + 1 : Nat) : Int) hm' := by
  have nw200 := W.2.2.1
  obtain ⟨g1, g2, g3, ⟨q, q1, q2', q3, q4⟩, _⟩ := G v (by omega) go
  rw [q2] at q2'
  have w27 := (W.2.2.2.2.2 v (by omega)).2.2.2.2.2.2.2.2.1
  have lq : 0 ≤ lr * q := Int.mul_nonneg (by omega) q1
  have e : tk - hm 27 v = lr * (q + 1) := by rw [Int.mul_add, Int.mul_one]; omega
  have em : pv_w (Int.tmod (pv_w (tk - hm 27 v)) lr) = 0 := by
    rw [pv_w_id (x := tk - hm 27 v) (by omega) (by omega), tmn (by omega), e, Int.mul_emod_right, pv_w_id (by omega) (by omega)]
  rw [fX10_runs_247, if_neg (by omega), if_pos (by omega), tnc, go, if_neg (by omega), if_pos (by omega), e41, if_neg (by omega), if_pos (by omega), L, if_pos (by omega), em, if_pos rfl]
  unfold fX10_runs_316 fX10_runs_319
  by_cases z : a1 = -1
  · rw [if_pos z] at ea ⊢
    rw [ea, s2, c1s, bbs, pws (by omega)]
  · rw [if_neg z] at ea ⊢
    rw [ea, s2, c1s, bbs, pws (by omega)]
end ONE
theorem inner_2 (K : JOK n lr J) {tk : Int} {many there : Nat} {k216 : pv_H → Option pv_H} (t0 : 0 ≤ tk) (t2 : tk ≤ 3999)
  (step : ∀ (last : Nat → Int) (nw ng : Nat) (hc hm : pv_H) (v : Nat), J last nw ng hc hm → v < nw → hm 19 v = 1 → last v = tk - lr → (if a1 = -1 then hm 0 37 else a1) = a3 → ∃ (hc' hm' : pv_H) (rr : Int) (nw' ng' : Nat), fX1_goesOn N (v : Int) tk hc = some (hc', rr) ∧ fX10_comes N (v : Int) tk a3 hm = some hm' ∧ SWz lr tk n v nw ng nw' ng' last rr hc hm hc' hm' ∧ J (fun w => if w = v ∨ nw ≤ w then tk else last w) nw' ng' hc' hm' ∧ hm' 0 41 = hm 0 41 ∧ hm' 0 37 = hm 0 37) :
  ∀ (d v i stay fc fm nw ng : Nat) (hc hm : pv_H), v + d = many → INz J lr tk many there v i stay nw ng hc hm → (if a1 = -1 then hm 0 37 else a1) = a3 → there < i + fc → many < v + fm →
  ∃ (hc' hm' : pv_H) (nw' ng' stay' : Nat), fX1_moveAll_10 N tk fc (there : Int) (stay : Int) (i : Int) hc = fX1_moveAll_55 N tk N (stay' : Int) (there : Int) hc' ∧ fX10_runs_247 N k216 a1 fm (many : Int) (v : Int) hm = k216 (pv_up hm' 0 41 (tk + 1)) ∧ INz J lr tk many there many there stay' nw' ng' hc' hm' ∧ hm' 0 37 = hm 0 37 := by
  intro d
  induction d with
  | zero =>
    intro v i stay fc fm nw ng hc hm e1 I ea ffc ffm
    have : v = many := by omega
    subst this
    have th : there = i := by have := I.2.2.2.2.1; have := I.2.2.2.2.2.2.1; omega
    subst th
    obtain ⟨fc', rfl⟩ : ∃ fc', fc = fc' + 1 := ⟨fc - 1, by omega⟩
    obtain ⟨fm', rfl⟩ : ∃ fm', fm = fm' + 1 := ⟨fm - 1, by omega⟩
    have e41 := I.2.2.2.1
    refine ⟨hc, hm, nw, ng, stay, ?_, ?_, I, rfl⟩
    · rw [fX1_moveAll_10, if_pos (by omega)]
    · rw [fX10_runs_247, if_pos (by omega), bbs, e41, pv_w_id (by omega) (by omega)]
  | succ d ih =>
    intro v i stay fc fm nw ng hc hm e1 I ea ffc ffm
    obtain ⟨fm', rfl⟩ : ∃ fm', fm = fm' + 1 := ⟨fm - 1, by omega⟩
    have hv : v < many := by omega
    by_cases go : hm 19 v = 1
    · have rs := (rkz_s (hm 19) v).1 go
      have rm := rkz_m (hm 19) many (show v + 1 ≤ many by omega)
      have hJ := I.2.2.1
      have W := K.W _ _ _ _ _ hJ
      have nw200 := W.2.2.1
      have inw := I.2.1
      have es := I.2.2.2.2.1
      have eth := I.2.2.2.2.2.2.1
      have t200 := I.2.2.2.2.2.2.2.1
      have rl := rkz_le (hm 19) v
      obtain ⟨fc', rfl⟩ : ∃ fc', fc = fc' + 1 := ⟨fc - 1, by omega⟩
      have gi : hc 96 i = (v : Int) := by
        have := I.2.2.2.2.2.2.2.2.2.1 v (Nat.le_refl _) (by omega) go
        rw [← es, Nat.sub_self, Nat.add_zero] at this
        exact this
      have lv : (fun w => if w < v ∨ many ≤ w then tk else tk - lr) v = tk - lr := if_neg (by omega)
      obtain ⟨hc', hm', rr, nw', ng', s1, s2, s3, s4, s5, s6⟩ := step _ _ _ _ _ v hJ (by omega) go lv ea
      have eM := goes_M (fm := fm') (k216 := k216) rfl W (K.G _ _ _ _ _ hJ) (K.L _ _ _ _ _ hJ) K.lr1 K.lr9 hv inw go lv t0 t2 I.2.2.2.1 ea s2
      have eC : fX1_moveAll_10 N tk (fc' + 1) (there : Int) (stay : Int) (i : Int) hc = (if rr = 0 then fX1_moveAll_10 N tk fc' (there : Int) (stay : Int) ((i + 1 : Nat) : Int) hc' else fX1_moveAll_10 N tk fc' (there : Int) ((stay + 1 : Nat) : Int) ((i + 1 : Nat) : Int) (pv_up hc' 96 stay (v : Int))) := by
        rw [fX1_moveAll_10, if_neg (by omega), if_pos (by omega), tnc, gi, bbs, s1, c2s]
        unfold fX1_moveAll_46
        by_cases z : rr = 0
        · rw [if_pos z, if_pos z, bbs, pws (by omega)]
        · rw [if_neg z, if_neg z, if_pos (by omega), tnc, bbs, bbs, bbs, pws (by omega), pws (by omega)]
      rw [eC, eM]
      have ea' : (if a1 = -1 then hm' 0 37 else a1) = a3 := by rw [s6]; exact ea
      rcases s3.2.2.2.1 with z | z
      · rw [if_pos z]
        obtain ⟨hc2, hm2, nw2, ng2, st2, y1, y2, y3, y4⟩ := ih (v + 1) (i + 1) stay fc' fm' nw' ng' hc' hm' (by omega) (in_end K I hv go s3 s4 s5 z) ea' (by omega) (by omega)
        exact ⟨hc2, hm2, nw2, ng2, st2, y1, y2, y3, by rw [y4, s6]⟩
      · have z0 : ¬ rr = 0 := by omega
        rw [if_neg z0]
        obtain ⟨hc2, hm2, nw2, ng2, st2, y1, y2, y3, y4⟩ := ih (v + 1) (i + 1) (stay + 1) fc' fm' nw' ng' (pv_up hc' 96 stay (v : Int)) hm' (by omega) (in_on K I hv go s3 s4 s5 z) ea' (by omega) (by omega)
        exact ⟨hc2, hm2, nw2, ng2, st2, y1, y2, y3, by rw [y4, s6]⟩
    · have I' := in_not K I hv go
      have hJ := I.2.2.1
      have W := K.W _ _ _ _ _ hJ
      have nw200 := W.2.2.1
      have inw := I.2.1
      have v01 := (W.2.2.2.2.2 v (by omega)).2.2.2.2.2.2.2.2.2.2.2.2
      have eM : fX10_runs_247 N k216 a1 (fm' + 1) (many : Int) (v : Int) hm = fX10_runs_247 N k216 a1 fm' (many : Int) ((v + 1 : Nat) : Int) hm := by
        rw [fX10_runs_247, if_neg (by omega), if_pos (by omega), tnc, if_pos (by omega)]
        unfold fX10_runs_319
        rw [bbs, pws (by omega)]
      rw [eM]
      exact ih (v + 1) i stay fc fm' nw ng hc hm (by omega) I' ea ffc (by omega)
end TICKS
