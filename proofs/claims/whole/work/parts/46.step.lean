/-! a WAVE comes to its next cell, in both -/
section GOC
variable {N n r v i : Nat} {st sg su lw : Nat → Int} {h : pv_H} {tk at' am hit ld : Int}
/-- HIT of a WAVE at a cell -/
def htz (lw : Nat → Int) (stuff am : Int) : Int := if stuff = 2 then (if stuff = 1 then am else am * (100 - lw 1) / 100) * lw 6 / 100 else if stuff = 1 then am else am * (100 - lw 1) / 100
theorem htz_b (l : lwB lw) {s : Int} (a1 : 0 ≤ am) (a2 : am ≤ 1000000) : 0 ≤ htz lw s am ∧ htz lw s am ≤ 1000000 ∧ 0 ≤ am * (100 - lw 1) ∧ am * (100 - lw 1) ≤ 100000000 ∧ 0 ≤ am * (100 - lw 1) / 100 ∧ am * (100 - lw 1) / 100 ≤ 1000000 := by
  obtain ⟨_, _, l1, l2, _, _, _, _, _, _, _, _, l3, l4, _⟩ := l
  have p1 : 0 ≤ am * (100 - lw 1) := Int.mul_nonneg a1 (by omega)
  have p2 : am * (100 - lw 1) ≤ am * 100 := Int.mul_le_mul_of_nonneg_left (by omega) a1
  have q : ∀ x : Int, 0 ≤ x → x ≤ 1000000 → 0 ≤ x * lw 6 / 100 ∧ x * lw 6 / 100 ≤ 1000000 := by
    intro x x1 x2
    have p3 : 0 ≤ x * lw 6 := Int.mul_nonneg x1 l3
    have p4 : x * lw 6 ≤ x * 100 := Int.mul_le_mul_of_nonneg_left l4 x1
    omega
  unfold htz
  by_cases s2 : s = 2
  · rw [if_pos s2, if_neg (by omega)]
    have := q (am * (100 - lw 1) / 100) (by omega) (by omega)
    omega
  · rw [if_neg s2]
    by_cases s1 : s = 1
    · rw [if_pos s1]; omega
    · rw [if_neg s1]; omega
theorem hit_C (l : lwB lw) (e1 : h (23 + 1) 1 = lw 1) (e6 : h (23 + 1) 6 = lw 6) {s : Int} (a1 : 0 ≤ am) (a2 : am ≤ 1000000) : fX2_hitOn N 23 s am h = some (htz lw s am) := by
  have b := htz_b (s := s) l a1 a2
  have l4 : 0 ≤ lw 1 ∧ lw 1 ≤ 99 ∧ 0 ≤ lw 6 ∧ lw 6 ≤ 100 := by obtain ⟨_, _, l1, l2, _, _, _, _, _, _, _, _, l3, l4, _⟩ := l; exact ⟨l1, l2, l3, l4⟩
  unfold fX2_hitOn fX2_hitOn_22 fX2_hitOn_40 htz
  rw [e1, e6]
  by_cases s1 : s = 1
  · rw [if_pos s1, if_neg (by omega), if_neg (by omega), if_pos s1]
  · rw [if_neg s1, bbs, pv_w_id (x := 100 - lw 1) (by omega) (by omega), pv_w_id (x := am * (100 - lw 1)) (by omega) (by omega), tdn b.2.2.1, pv_w_id (x := am * (100 - lw 1) / 100) (by omega) (by omega)]
    by_cases s2 : s = 2
    · have p3 : 0 ≤ am * (100 - lw 1) / 100 * lw 6 := Int.mul_nonneg (by omega) (by omega)
      have p4 : am * (100 - lw 1) / 100 * lw 6 ≤ am * (100 - lw 1) / 100 * 100 := Int.mul_le_mul_of_nonneg_left (by omega) (by omega)
      rw [if_pos s2, bbs, if_pos s2, if_neg s1, pv_w_id (x := am * (100 - lw 1) / 100 * lw 6) (by omega) (by omega), tdn p3, pv_w_id (by omega) (by omega)]
    · rw [if_neg s2, if_neg s2, if_neg s1]
/-- nothing there, or a broken cell -/
theorem go_out (c : clz h r n st sg su lw) (hv : v < 200) (h60 : n ≤ 60) {v3 v4 : Int} (out : at' < 0 ∨ (n : Int) ≤ at' ∨ 0 ≤ at' ∧ at' < n ∧ h 94 at'.toNat = 1) : fX1_goesOn_69 N (v : Int) tk v3 v4 at' h = fX1_goesOn_107 N (v : Int) tk v3 v4 at' (pv_up h 97 v at') := by
  obtain ⟨r1, r2⟩ := rod_g c
  have f3 : pv_up h 97 v at' 78 3 = h 78 3 := pv_up_ne (by omega)
  have cr : r ≠ 97 := by have := c.2.2.1; omega
  have f0 : pv_up h 97 v at' r 0 = (n : Int) := by rw [pv_up_ne (Or.inl cr)]; exact c.2.2.2.1
  have f4 : ∀ k, pv_up h 97 v at' 94 k = h 94 k := fun k => pv_up_ne (by omega)
  unfold fX1_goesOn_69
  rw [if_pos (by omega), bbs, tnc]
  by_cases o1 : at' < 0
  · rw [if_pos o1]
  · rw [if_neg o1, f3, if_pos r1, r2, bbs, f0]
    by_cases o2 : (n : Int) ≤ at'
    · rw [if_pos o2]
    · rw [if_neg o2, if_pos (by omega), f4, if_pos (by omega)]
theorem go_107 (hv : v < 200) {v3 v4 wy2 : Int} (l2 : 0 ≤ h 78 4 ∧ (h 78 4).toNat ∈ pv_l2) (l3 : (h 78 4).toNat = 23) (l : lwB lw) (e5 : h (23 + 1) 5 = lw 5) (ea : h 98 v = am) (a1 : 0 ≤ am) (a2 : am ≤ 1000000) (hw : wy2 = if v3 = 0 then 0 else 1) : fX1_goesOn_107 N (v : Int) tk v3 v4 at' h = if v4 = 0 ∧ 0 < am * lw 5 / 100 then pv_c1 (fX1_beginWave N at' wy2 tk (am * lw 5 / 100) 1 h) fun h54 => some (h54, 0) else some (h, 0) := by
  have l4 : 0 ≤ lw 5 ∧ lw 5 ≤ 100 := by obtain ⟨_, _, _, _, _, _, _, _, _, _, l3, l4, _⟩ := l; exact ⟨l3, l4⟩
  have p1 : 0 ≤ am * lw 5 := Int.mul_nonneg a1 l4.1
  have p2 : am * lw 5 ≤ am * 100 := Int.mul_le_mul_of_nonneg_left l4.2 a1
  have key : ∀ x : Int, fX1_goesOn_135 N (v : Int) tk v3 at' x h = if 0 < x then pv_c1 (fX1_beginWave N at' wy2 tk x 1 h) fun h54 => some (h54, 0) else some (h, 0) := by
    intro x
    unfold fX1_goesOn_135 fX1_goesOn_154 fX1_goesOn_161
    by_cases z : x ≤ 0
    · rw [if_pos z, if_neg (show ¬ 0 < x by omega)]
    · rw [if_neg z, if_pos (show 0 < x by omega)]
      by_cases z2 : v3 = 0
      · rw [if_pos z2] at hw ⊢
        rw [hw]
      · rw [if_neg z2] at hw ⊢
        rw [hw]
  unfold fX1_goesOn_107
  by_cases z : v4 = 0
  · rw [if_pos z, if_pos (by omega), if_pos l2, l3, bbs, tnc, ea, e5, pv_w_id (x := am * lw 5) (by omega) (by omega), tdn p1, pv_w_id (x := am * lw 5 / 100) (by omega) (by omega), key]
    by_cases z2 : 0 < am * lw 5 / 100
    · rw [if_pos z2, if_pos ⟨z, z2⟩]
    · rw [if_neg z2, if_neg (fun q => z2 q.2)]
  · rw [if_neg z, key, if_neg (by omega), if_neg (fun q => z q.1)]
/-- a cell that isn't broken: what the class does there -/
theorem go_in (c : clz h r n st sg su lw) (l : lwB lw) (hv : v < 200) (h60 : n ≤ 60) {v3 v4 ca : Int} (hi : i < n) (nb : ¬ h 94 i = 1) (ea : h 98 v = am) (a1 : 0 ≤ am) (a2 : am ≤ 1000000) (eh : htz lw (su i) am = hit) (eca : h 82 (1000 + v) = ca) (el : h 93 i = ld) : fX1_goesOn_69 N (v : Int) tk v3 v4 (i : Int) h = if hit = 0 then some (pv_up (pv_up h 97 v (i : Int)) 98 v hit, 0) else fX1_goesOn_248 N (v : Int) tk v4 (i : Int) (if h 95 i = 1 then 0 else ld) hit (pv_up (pv_up (pv_up h 97 v (i : Int)) 98 v hit) 82 (1000 + v) (pv_w (ca + 1))) := by
  obtain ⟨r1, r2⟩ := rod_g c
  obtain ⟨l1, l2⟩ := law_g c
  have cr : (r < 78 ∨ 98 < r) := c.2.2.1
  have f3 : pv_up h 97 v (i : Int) 78 3 = h 78 3 := pv_up_ne (by omega)
  have f4 : pv_up h 97 v (i : Int) 78 4 = h 78 4 := pv_up_ne (by omega)
  have f0 : pv_up h 97 v (i : Int) r 0 = (n : Int) := by rw [pv_up_ne (by omega)]; exact c.2.2.2.1
  have f5 : pv_up h 97 v (i : Int) 94 i = h 94 i := pv_up_ne (by omega)
  have f6 : pv_up h 97 v (i : Int) (r + 4) i = su i := by
    have : r + 4 ≠ 97 := by
      have := c.2.1
      unfold pv_l5 at this
      simp at this
      omega
    rw [pv_up_ne (Or.inl this)]
    exact (c.2.2.2.2.1 i hi).2.2.1
  have f7 : pv_up h 97 v (i : Int) 98 v = am := by rw [pv_up_ne (by omega)]; exact ea
  have g1 : pv_up h 97 v (i : Int) (23 + 1) 1 = lw 1 := by rw [pv_up_ne (by omega)]; exact c.2.2.2.2.2.2 1 (by omega)
  have g6 : pv_up h 97 v (i : Int) (23 + 1) 6 = lw 6 := by rw [pv_up_ne (by omega)]; exact c.2.2.2.2.2.2 6 (by omega)
  have x5 : pv_w (1000 + (v : Int)) = ((1000 + v : Nat) : Int) := by rw [pv_w_id (by omega) (by omega)]; omega
  unfold fX1_goesOn_69
  rw [if_pos (by omega), bbs, tnc, if_neg (by omega), f3, if_pos r1, r2, bbs, f0, if_neg (by omega), if_pos (by omega), tnc, f5, if_neg nb, f4, if_pos l1, l2, bbs, if_pos ⟨by omega, c.2.1⟩, bbs, if_pos (by omega), if_pos (by omega), f6, f7, hit_C l g1 g6 a1 a2, c1s, eh]
  simp (disch := omega) only [if_pos, bbs, pu_eq, x5, tnc]
  by_cases z : hit = 0
  · rw [if_pos z, if_pos z]
  · rw [if_neg z, if_neg z]
    simp (disch := omega) only [pu_ne, pu_eq, eca, el]
    by_cases z2 : h 95 i = 1
    · rw [if_pos z2, if_pos z2]
    · rw [if_neg z2, if_neg z2]
end GOC
section COM
variable {N n v i : Nat} {st sg su lw : Nat → Int} {h : pv_H} {tk at' am hit a3 : Int}
/-- where the reference says that a WAVE comes to -/
theorem com_at (hv : v < 200) (l : lwB lw) (m2 : h 2 1118 = lw 2) {q w25 w27 : Int} (e27 : h 27 v = w27) (e25 : h 25 v = w25) (q0 : 0 ≤ q) (eq : tk = w27 + lw 2 * (q + 1)) (b1 : -1 ≤ w25) (b2 : w25 ≤ 60) (t1 : tk ≤ 4000) (t0 : 0 ≤ w27) : ∃ s, fX10_comes N (v : Int) tk a3 h = fX10_comes_42 N (v : Int) tk a3 s w25 h ∧ pv_w (w25 + s) = (if h 26 v = 0 then w25 - (q + 1) else w25 + (q + 1)) := by
  have l4 : 1 ≤ lw 2 ∧ lw 2 ≤ 9 := by obtain ⟨_, _, _, _, l3, l4, _⟩ := l; exact ⟨l3, l4⟩
  have p : 1 * (q + 1) ≤ lw 2 * (q + 1) := Int.mul_le_mul_of_nonneg_right l4.1 (by omega)
  have ek : pv_w (Int.tdiv (pv_w (tk - w27)) (lw 2)) = q + 1 := by
    have e : tk - w27 = lw 2 * (q + 1) := by omega
    rw [pv_w_id (x := tk - w27) (by omega) (by omega), tdn (by omega), e, Int.mul_ediv_cancel_left _ (by omega), pv_w_id (by omega) (by omega)]
  by_cases z : h 26 v = 0
  · refine ⟨-(q + 1), ?_, ?_⟩
    · unfold fX10_comes
      rw [m2, if_pos (by omega), if_pos (by omega), tnc, e27, ek, bbs, if_pos (by omega), if_pos (by omega), if_pos z, e25, pv_w_id (by omega) (by omega)]
    · rw [if_pos z, pv_w_id (by omega) (by omega)]; omega
  · refine ⟨q + 1, ?_, ?_⟩
    · unfold fX10_comes
      rw [m2, if_pos (by omega), if_pos (by omega), tnc, e27, ek, bbs, if_pos (by omega), if_pos (by omega), if_neg z, e25]
    · rw [if_neg z, pv_w_id (by omega) (by omega)]
theorem com_out (m19 : h 0 19 = (n : Int)) (h60 : n ≤ 60) {s w25 : Int} (e : pv_w (w25 + s) = at') (out : at' < 0 ∨ (n : Int) ≤ at' ∨ 0 ≤ at' ∧ at' < n ∧ h 17 at'.toNat = 1) : fX10_comes_42 N (v : Int) tk a3 s w25 h = pv_c1 (fX10_stops N (v : Int) at' tk h) fun h19 => some h19 := by
  unfold fX10_comes_42 fX10_comes_69
  rw [e, bbs, m19]
  by_cases o1 : at' < 0
  · rw [if_pos o1]
  · rw [if_neg o1]
    by_cases o2 : (n : Int) ≤ at'
    · rw [if_pos o2]
    · rw [if_neg o2, if_pos (by omega), if_neg (by omega)]
theorem part_M (x y : Int) (p1 : 0 ≤ x * y) (p2 : x * y ≤ 2000000000) : fX10_part N x y h = some (x * y / 100) := by
  unfold fX10_part
  rw [pv_wl_id (x := x * y) (by omega) (by omega), tdn p1, pv_wl_id (by omega) (by omega), pv_w_id (by omega) (by omega)]
theorem stop_M (hv : v < 200) (l : lwB lw) (m5 : h 2 1121 = lw 5) (ea : h 31 v = am) (a1 : 0 ≤ am) (a2 : am ≤ 1000000) {w26 w29 : Int} (e26 : h 26 v = w26) (e29 : h 29 v = w29) (h26 : w26 = 0 ∨ w26 = 1) : fX10_stops N (v : Int) at' tk h = if ¬ w29 = 1 ∧ 0 < am * lw 5 / 100 then fX10_begins N at' (1 - w26) tk (am * lw 5 / 100) 1 (pv_up h 19 v 0) else some (pv_up h 19 v 0) := by
  have l4 : 0 ≤ lw 5 ∧ lw 5 ≤ 100 := by obtain ⟨_, _, _, _, _, _, _, _, _, _, l3, l4, _⟩ := l; exact ⟨l3, l4⟩
  have p1 : 0 ≤ am * lw 5 := Int.mul_nonneg a1 l4.1
  have p2 : am * lw 5 ≤ am * 100 := Int.mul_le_mul_of_nonneg_left l4.2 a1
  unfold fX10_stops fX10_stops_59
  simp (disch := omega) only [if_pos, bbs, tnc, pu_ne, e29, ea, m5, e26]
  by_cases z : w29 = 1
  · rw [if_pos z, if_neg (fun q => q.1 z)]
  · rw [if_neg z, part_M _ _ p1 (by omega), c1s]
    by_cases z2 : 0 < am * lw 5 / 100
    · rw [if_neg (by omega), if_pos ⟨z, z2⟩, pv_w_id (by omega) (by omega)]
      cases fX10_begins N at' (1 - w26) tk (am * lw 5 / 100) 1 (pv_up h 19 v 0) <;> rfl
    · rw [if_pos (by omega), if_neg (fun q => z2 q.2)]
/-- a cell that isn't broken: what the reference does there -/
theorem com_in (m : mlz h n st sg su lw) (l : lwB lw) (hv : v < 200) (h60 : n ≤ 60) (hi : i < n) (nb : h 17 i = 0) (ea : h 31 v = am) (a1 : 0 ≤ am) (a2 : am ≤ 1000000) (eh : htz lw (su i) am = hit) {s w25 ca off lo : Int} (e : pv_w (w25 + s) = (i : Int)) (eca : h 30 v = ca) (t0 : 0 ≤ a3) (t1 : a3 ≤ 300000) (eo : off = if lw 3 ≤ lw 2 then a3 * lw 4 / 100 else 0) (elo : fX10_loadOf N (i : Int) (pv_up (pv_up h 31 v hit) 30 v (pv_w (ca + 1))) = some lo) (b1 : 0 ≤ lo) (b2 : lo ≤ 3000000) : fX10_comes_42 N (v : Int) tk a3 s w25 h = if hit = 0 then some (pv_up (pv_up h 31 v hit) 19 v 0) else fX10_comes_228 N (v : Int) tk a3 (i : Int) (lo + hit) off (pv_up (pv_up h 31 v hit) 30 v (pv_w (ca + 1))) := by
  obtain ⟨m1, m2, m3⟩ := m
  have m9 : h 9 i = su i := (m2 i hi).2.2.1
  have d1 : h 2 1117 = lw 1 := m3 1 (by omega)
  have d2 : h 2 1118 = lw 2 := m3 2 (by omega)
  have d3 : h 2 1119 = lw 3 := m3 3 (by omega)
  have d4 : h 2 1120 = lw 4 := m3 4 (by omega)
  have d6 : h 2 1122 = lw 6 := m3 6 (by omega)
  have lb : 0 ≤ lw 1 ∧ lw 1 ≤ 99 ∧ 0 ≤ lw 6 ∧ lw 6 ≤ 100 ∧ 0 ≤ lw 4 ∧ lw 4 ≤ 100 := by obtain ⟨_, _, l1, l2, _, _, _, _, l5, l6, _, _, l3, l4, _⟩ := l; exact ⟨l1, l2, l3, l4, l5, l6⟩
  have hb := htz_b (s := su i) l a1 a2
  rw [eh] at hb
  have tp1 : 0 ≤ a3 * lw 4 := Int.mul_nonneg t0 (by omega)
  have tp2 : a3 * lw 4 ≤ a3 * 100 := Int.mul_le_mul_of_nonneg_left (by omega) t0
  have f149 : fX10_comes_149 N (v : Int) tk a3 (i : Int) hit h = if hit = 0 then some (pv_up (pv_up h 31 v hit) 19 v 0) else fX10_comes_228 N (v : Int) tk a3 (i : Int) (lo + hit) off (pv_up (pv_up h 31 v hit) 30 v (pv_w (ca + 1))) := by
    unfold fX10_comes_149
    simp (disch := omega) only [if_pos, bbs, tnc, pu_ne, eca]
    by_cases z : hit = 0
    · rw [if_pos z, if_pos z]
    · rw [if_neg z, if_neg z, elo, c1s, pv_w_id (x := lo + hit) (by omega) (by omega), d2, d3, d4]
      by_cases z2 : lw 2 < lw 3
      · rw [if_pos z2, eo, if_neg (by omega)]
      · rw [if_neg z2, part_M _ _ tp1 (by omega), c1s, eo, if_pos (by omega)]
  have f118 : ∀ x : Int, 0 ≤ x → x ≤ 1000000 → hit = (if su i = 2 then x * lw 6 / 100 else x) → fX10_comes_118 N (v : Int) tk a3 (i : Int) x h = if hit = 0 then some (pv_up (pv_up h 31 v hit) 19 v 0) else fX10_comes_228 N (v : Int) tk a3 (i : Int) (lo + hit) off (pv_up (pv_up h 31 v hit) 30 v (pv_w (ca + 1))) := by
    intro x x1 x2 hx
    unfold fX10_comes_118
    rw [if_pos (by omega), tnc, m9, d6]
    by_cases z : su i = 2
    · rw [if_pos z] at hx
      have p3 : 0 ≤ x * lw 6 := Int.mul_nonneg x1 (by omega)
      have p4 : x * lw 6 ≤ x * 100 := Int.mul_le_mul_of_nonneg_left (by omega) x1
      rw [if_pos z, part_M _ _ p3 (by omega), c1s, ← hx]
      exact f149
    · rw [if_neg z] at hx
      rw [if_neg z, ← hx]
      exact f149
  unfold fX10_comes_42
  rw [e, bbs, m1, if_neg (by omega), if_neg (by omega), if_pos (by omega), tnc, if_pos nb, if_pos (by omega), m9]
  unfold htz at eh
  by_cases z : su i = 1
  · rw [if_pos z, if_pos (by omega), tnc, ea]
    refine f118 am a1 a2 ?_
    rw [if_neg (by omega), if_pos z] at eh
    rw [if_neg (by omega)]; exact eh.symm
  · rw [if_neg z, if_pos (by omega), tnc, ea, d1, pv_w_id (x := 100 - lw 1) (by omega) (by omega), part_M _ _ hb.2.2.1 (by omega), c1s]
    refine f118 _ (by omega) (by omega) ?_
    rw [if_neg z] at eh
    exact eh.symm
end COM
