/-! a run up to its WAVES, both -/
section PREL
variable {N n r : Nat} {st sg su lw str bd tn : Nat → Int} {last : Nat} {hc hm : pv_H} {a1 al : Int}
/-- the reference's first BREAK begins two WAVES -/
theorem brkM {c : Nat} {tk by' : Int} (w2 : hm 0 39 = 0) (m38 : hm 0 38 = 0) (hcn : c < n) (h60 : n ≤ 60) (m19 : hm 0 19 = (n : Int)) {hm' : pv_H} (h : fX10_breaks N (c : Int) tk 0 by' hm = some hm') : hm' 0 39 = 2 ∧ hm' 25 0 = (c : Int) ∧ hm' 26 0 = 0 ∧ hm' 29 0 = 0 ∧ hm' 19 0 = 1 ∧ hm' 25 1 = (c : Int) ∧ hm' 26 1 = 1 ∧ hm' 29 1 = 0 ∧ hm' 19 1 = 1 := by
  have two : ∀ (am : Int) (h1 : pv_H), h1 0 39 = 0 → fX10_breaks_134 N (c : Int) tk 0 by' am h1 = some hm' → hm' 0 39 = 2 ∧ hm' 25 0 = (c : Int) ∧ hm' 26 0 = 0 ∧ hm' 29 0 = 0 ∧ hm' 19 0 = 1 ∧ hm' 25 1 = (c : Int) ∧ hm' 26 1 = 1 ∧ hm' 29 1 = 0 ∧ hm' 19 1 = 1 := by
    intro am h1 z39 hh
    unfold fX10_breaks_134 at hh
    cases e1 : fX10_begins N (c : Int) 0 tk am 0 h1 with
    | none => rw [e1] at hh; cases hh
    | some x =>
      rw [e1, c1s] at hh
      obtain ⟨a1', a2, a3, a4, a5, a6⟩ := begM (nw := 0) z39 (by omega) (Or.inl rfl) e1
      cases e2 : fX10_begins N (c : Int) 1 tk am 0 x with
      | none => rw [e2] at hh; cases hh
      | some y =>
        rw [e2, c1s] at hh
        obtain ⟨b1, b2, b3, b4, b5, b6⟩ := begM (nw := 1) a1' (by omega) (Or.inl rfl) e2
        cases hh
        refine ⟨b1, ?_, ?_, ?_, ?_, b2, b3, b4, b5⟩
        · rw [b6 _ _ (by omega) (by omega)]; exact a2
        · rw [b6 _ _ (by omega) (by omega)]; exact a3
        · rw [b6 _ _ (by omega) (by omega)]; exact a4
        · rw [b6 _ _ (by omega) (by omega)]; exact a5
  have w81 : ∀ (s0 : Int) (h1 : pv_H), h1 0 39 = 0 → h1 0 38 = 0 → fX10_breaks_81 N (c : Int) tk 0 by' s0 0 h1 = some hm' → hm' 0 39 = 2 ∧ hm' 25 0 = (c : Int) ∧ hm' 26 0 = 0 ∧ hm' 29 0 = 0 ∧ hm' 19 0 = 1 ∧ hm' 25 1 = (c : Int) ∧ hm' 26 1 = 1 ∧ hm' 29 1 = 0 ∧ hm' 19 1 = 1 := by
    intro s0 h1 z39 z38 hh
    unfold fX10_breaks_81 at hh
    have t0 : Int.toNat 0 = 0 := rfl
    rw [if_pos (by omega), bbs, pv_up_ne (show (0 : Nat) ≠ 22 ∨ _ by omega), z38, if_pos (by omega), bbs, bbs] at hh
    cases e1 : fX10_part N by' ((pv_up (pv_up (pv_up h1 22 (Int.toNat 0) s0) 23 (Int.toNat 0) by') 0 38 (pv_w ((pv_up (pv_up h1 22 (Int.toNat 0) s0) 23 (Int.toNat 0) by') 0 38 + 1))) 2 1116) (pv_up (pv_up (pv_up h1 22 (Int.toNat 0) s0) 23 (Int.toNat 0) by') 0 38 (pv_w ((pv_up (pv_up h1 22 (Int.toNat 0) s0) 23 (Int.toNat 0) by') 0 38 + 1))) with
    | none => rw [e1] at hh; cases hh
    | some x =>
      rw [e1, c1s] at hh
      have z : (pv_up (pv_up (pv_up h1 22 (Int.toNat 0) s0) 23 (Int.toNat 0) by') 0 38 (pv_w ((pv_up (pv_up h1 22 (Int.toNat 0) s0) 23 (Int.toNat 0) by') 0 38 + 1))) 0 39 = 0 := by
        rw [pv_up_ne (by omega), pv_up_ne (by omega), pv_up_ne (by omega)]; exact z39
      by_cases q : x ≤ 1000000
      · rw [if_pos q] at hh; exact two _ _ z hh
      · rw [if_neg q] at hh; exact two _ _ z hh
  unfold fX10_breaks at h
  rw [if_pos (by omega), bbs, pv_up_ne (show (0 : Nat) ≠ 17 ∨ _ by omega), m38, if_pos (by omega), bbs, pv_up_ne (show (0 : Nat) ≠ 20 ∨ _ by omega), pv_up_ne (show (0 : Nat) ≠ 17 ∨ _ by omega), m38, if_pos (by omega), bbs, if_pos (show (0 : Int) ≤ 0 by omega), tnc] at h
  have hF : ∀ x y, ¬ (x = 17 ∨ x = 20 ∨ x = 21) → (pv_up (pv_up (pv_up hm 17 c 1) 20 (Int.toNat 0) (c : Int)) 21 (Int.toNat 0) tk) x y = hm x y := fun x y np => by
    rw [pv_up_ne (by omega), pv_up_ne (by omega), pv_up_ne (by omega)]
  generalize pv_up (pv_up (pv_up hm 17 c 1) 20 (Int.toNat 0) (c : Int)) 21 (Int.toNat 0) tk = h1 at h hF
  have z39 : h1 0 39 = 0 := by rw [hF _ _ (by omega)]; exact w2
  have z38 : h1 0 38 = 0 := by rw [hF _ _ (by omega)]; exact m38
  rw [z38] at h
  unfold fX10_breaks_57 at h
  by_cases q1 : (c : Int) = 0
  · rw [if_pos q1] at h; exact w81 _ _ z39 z38 h
  · rw [if_neg q1] at h
    by_cases q2 : (c : Int) = pv_w (h1 0 19 - 1)
    · rw [if_pos q2] at h; exact w81 _ _ z39 z38 h
    · rw [if_neg q2, if_pos (by omega)] at h
      by_cases q3 : h1 7 c ≤ h1 11 c
      · rw [if_pos q3, if_pos (by omega)] at h; exact w81 _ _ z39 z38 h
      · rw [if_neg q3, if_pos (by omega)] at h; exact w81 _ _ z39 z38 h
theorem mlz.fr2 {h h' : pv_H} (c : mlz h n st sg su lw) (f : ∀ x y, (x = 0 ∧ y = 19) ∨ x = 2 ∨ x = 6 ∨ x = 7 ∨ x = 9 ∨ x = 10 → h' x y = h x y) : mlz h' n st sg su lw := by
  obtain ⟨c1, c2, c3⟩ := c
  refine ⟨by rw [f _ _ (by omega)]; exact c1, fun i hi => ?_, fun j hj => by rw [f _ _ (by omega)]; exact c3 j hj⟩
  rw [f _ _ (by omega), f _ _ (by omega), f _ _ (by omega), f _ _ (by omega)]
  exact c2 i hi
/-- after the first BREAK -/
def BGz (r n : Nat) (st sg su lw str : Nat → Int) (bend off al : Int) (T c : Nat) (hc hm : pv_H) : Prop := STz r n st sg su lw str bend off al hc hm ∧ LTz n hc hm ∧ BRz n 1 hc hm ∧ WRz 2 2 hc hm ∧ GWz (lw 2) n 2 (fun _ => (T : Int)) hc hm ∧ GOz 2 2 hc hm ∧ (∀ i, i < n → hm 18 i = 0) ∧ c < n ∧ hm 17 c = 1 ∧ (∀ i, i < n → i ≠ c → hm 17 i = 0) ∧ (hm 25 0 = (c : Int) ∧ hm 26 0 = 0 ∧ hm 29 0 = 0 ∧ hm 19 0 = 1 ∧ hm 25 1 = (c : Int) ∧ hm 26 1 = 1 ∧ hm 29 1 = 0 ∧ hm 19 1 = 1) ∧ hc 78 1 = -1 ∧ hc 78 2 = -1 ∧ hm 0 60 = -1
/-- no BREAK -/
def NBz (r n : Nat) (st sg su lw : Nat → Int) (last : Nat) (hc hm : pv_H) : Prop := clz hc r n st sg su lw ∧ mlz hm n st sg su lw ∧ LTz n hc hm ∧ BRz n 0 hc hm ∧ WRz 0 0 hc hm ∧ hc 80 4 = (last : Int) ∧ hm 0 41 = (last : Int) ∧ hc 80 5 = hm 0 36 ∧ hc 80 6 = hm 0 37 ∧ hc 78 1 = -1 ∧ hc 78 2 = -1 ∧ hm 0 60 = -1
theorem prel_2 (hN : 10000 ≤ N) (gb : brz n st sg su) (l : lwB lw) (hs2 : ∀ i, i < n → 1 ≤ str i ∧ str i ≤ 999) (RC : RDC hc r n st sg su lw str bd tn last) (RM : RDM hm n st sg su lw str bd tn last) (e43 : hm 0 43 = al) (hal : al = 0 ∨ al = 1) (ha1 : a1 = -1 ∨ 0 ≤ a1 ∧ a1 ≤ 999) : ∃ hcA hmA : pv_H, (∀ x y, ¬ RCz x y → hcA x y = hc x y) ∧ (∀ x y, ¬ RMz x y → hmA x y = hm x y) ∧ ((fX1_sendWaves N a1 al hc = fX1_sendWaves_219 N a1 al hcA ∧ fX10_runs N a1 hm = fX10_runs_338 N a1 hmA ∧ NBz r n st sg su lw last hcA hmA) ∨ ∃ (T c : Nat) (off a3 : Int), T < 4000 ∧ hc 78 6 ≠ -1 ∧ fX1_sendWaves N a1 al hc = fX1_sendWaves_159 N a1 al N (lw 2) ((T : Int) + 1) ((T : Int) + lw 2) hcA ∧ fX10_runs N a1 hm = fX10_runs_216 N a1 N hmA ∧ hmA 0 41 = (T : Int) + 1 ∧ (if a1 = -1 then hmA 0 37 else a1) = a3 ∧ 0 ≤ a3 ∧ a3 ≤ 300000 ∧ off = (if lw 3 ≤ lw 2 then a3 * lw 4 / 100 else 0) ∧ 0 ≤ bd T ∧ bd T ≤ 237600 ∧ hcA 80 5 = bd T ∧ hcA 80 6 = hmA 0 37 ∧ BGz r n st sg su lw str (bd T) off al T c hcA hmA) := by
  obtain ⟨c, hs, L, T, hL, hT1, hT2, hT3⟩ := RC
  obtain ⟨m, ms, e29, hl, G1, G2, hb⟩ := RM
  have n3 := gb.1
  have n60 := gb.2.1
  have l2 : 1 ≤ lw 2 ∧ lw 2 ≤ 9 := by obtain ⟨_, _, _, _, l3, l4, _⟩ := l; exact ⟨l3, l4⟩
  obtain ⟨g1, g2⟩ := law_g c
  have cr := c.2.2.1
  -- the turn
  obtain ⟨tnT, htn⟩ : ∃ x : Int, x = if T < last then tn T else if last = 0 then 0 else tn (last - 1) := ⟨_, rfl⟩
  obtain ⟨bdT, hbd⟩ : ∃ x : Int, x = if T < last then bd T else if last = 0 then 0 else bd (last - 1) := ⟨_, rfl⟩
  have tnb : 0 ≤ tnT ∧ tnT ≤ 300000 := by
    rw [htn]
    by_cases z : T < last
    · rw [if_pos z]; exact (hb T z).2.2.2.2
    · rw [if_neg z]
      by_cases y : last = 0
      · rw [if_pos y]; omega
      · rw [if_neg y]; exact (hb (last - 1) (by omega)).2.2.2.2
  have e806 : hc 80 6 = tnT := by
    rcases hT3 with ⟨z, _, _, _, _, y, _⟩ | ⟨z, _, _, _, y⟩
    · rw [htn, if_pos z]; exact y
    · rw [htn, if_neg (by omega)]; exact y
  have e805 : hc 80 5 = bdT := by
    rcases hT3 with ⟨z, _, _, _, y, _⟩ | ⟨z, _, _, y, _⟩
    · rw [hbd, if_pos z]; exact y
    · rw [hbd, if_neg (by omega)]; exact y
  obtain ⟨a3, ha3⟩ : ∃ x : Int, x = if a1 = -1 then tnT else a1 := ⟨_, rfl⟩
  have a3b : 0 ≤ a3 ∧ a3 ≤ 300000 := by
    rw [ha3]
    by_cases z : a1 = -1
    · rw [if_pos z]; exact tnb
    · rw [if_neg z]; omega
  obtain ⟨off, hoff⟩ : ∃ x : Int, x = if lw 3 ≤ lw 2 then a3 * lw 4 / 100 else 0 := ⟨_, rfl⟩
  -- the class
  generalize hC0 : pv_up (pv_up (pv_up hc 78 9 al) 78 1 (-1)) 78 2 (-1) = C0
  have f0 : ∀ x y, ¬ (x = 78 ∧ (y = 1 ∨ y = 2 ∨ y = 9)) → C0 x y = hc x y := fun x y np => by rw [← hC0, pv_up_ne (by omega), pv_up_ne (by omega), pv_up_ne (by omega)]
  generalize hC1 : pv_up (pv_up (pv_up (pv_up (pv_up C0 78 8 off) 80 0 0) 80 2 0) 80 3 0) 78 10 0 = C1
  have f1 : ∀ x y, ¬ (x = 78 ∧ (y = 8 ∨ y = 10) ∨ x = 80 ∧ (y = 0 ∨ y = 2 ∨ y = 3)) → C1 x y = C0 x y := fun x y np => by rw [← hC1, pv_up_ne (by omega), pv_up_ne (by omega), pv_up_ne (by omega), pv_up_ne (by omega), pv_up_ne (by omega)]
  obtain ⟨C2, hC2⟩ : ∃ C2 : pv_H, C2 = pv_ur (pv_ur C1 94 (fun k => if k < 60 then 0 else C1 94 k)) 95 (fun k => if k < 60 then 0 else (pv_ur C1 94 (fun k => if k < 60 then 0 else C1 94 k)) 95 k) := ⟨_, rfl⟩
  have f2 : ∀ x y, ¬ ((x = 94 ∨ x = 95) ∧ y < 60) → C2 x y = C1 x y := fun x y np => by
    rw [hC2]
    unfold pv_ur
    by_cases z1 : x = 95
    · subst z1; rw [if_pos rfl, if_neg (by omega), if_neg (by omega)]
    · rw [if_neg z1]
      by_cases z2 : x = 94
      · subst z2; rw [if_pos rfl, if_neg (by omega)]
      · rw [if_neg z2]
  have z94 : ∀ i, i < 60 → C2 94 i = 0 ∧ C2 95 i = 0 := fun i hi => by
    rw [hC2]
    unfold pv_ur
    rw [if_neg (by omega), if_pos rfl, if_pos hi, if_pos rfl, if_pos hi]
    exact ⟨rfl, rfl⟩
  have F2 : ∀ x y, ¬ RCz x y → C2 x y = hc x y := fun x y np => by
    rw [f2 x y (by unfold RCz DCz at np; omega), f1 x y (by unfold RCz DCz at np; omega), f0 x y (by unfold RCz DCz at np; omega)]
  have c2 : clz C2 r n st sg su lw := c.frm (fun x y n1 n2 => F2 x y (by unfold RCz DCz; omega))
  have hs' : ∀ i, i < n → C2 92 i = str i := fun i hi => by rw [F2 _ _ (by unfold RCz DCz; omega)]; exact hs i hi
  have eS : fX1_sendWaves N a1 al hc = (if C2 78 6 = -1 then fX1_sendWaves_219 N a1 al C2 else (pv_c1 (fX1_kindOfFirst N C2) fun r19 => if 0 ≤ C2 78 6 ∧ C2 78 6 < 60 then (pv_c1 (fX1_breakCell N (C2 78 6) (C2 78 7) r19 (C2 93 (Int.toNat (C2 78 6))) C2) fun h22 => if 0 ≤ h22 78 4 ∧ (h22 78 4).toNat ∈ pv_l2 then (pv_b ((h22 78 4).toNat) fun x24 => pv_b (max 1 (h22 (x24 + 1) 2)) fun x25 => pv_b (pv_w ((h22 78 7) + 1)) fun x26 => pv_b (pv_w ((h22 78 7) + x25)) fun x27 => fX1_sendWaves_159 N a1 al N (x25) (x26) (x27) h22) else none) else none)) := by
    have s39 : ∀ t, t = a3 → fX1_sendWaves_39 N a1 al t 23 C0 = (if C2 78 6 = -1 then fX1_sendWaves_219 N a1 al C2 else (pv_c1 (fX1_kindOfFirst N C2) fun r19 => if 0 ≤ C2 78 6 ∧ C2 78 6 < 60 then (pv_c1 (fX1_breakCell N (C2 78 6) (C2 78 7) r19 (C2 93 (Int.toNat (C2 78 6))) C2) fun h22 => if 0 ≤ h22 78 4 ∧ (h22 78 4).toNat ∈ pv_l2 then (pv_b ((h22 78 4).toNat) fun x24 => pv_b (max 1 (h22 (x24 + 1) 2)) fun x25 => pv_b (pv_w ((h22 78 7) + 1)) fun x26 => pv_b (pv_w ((h22 78 7) + x25)) fun x27 => fX1_sendWaves_159 N a1 al N (x25) (x26) (x27) h22) else none) else none)) := by
      intro t ht
      unfold fX1_sendWaves_39
      rw [off_C l (fun j hj => by rw [f0 _ _ (by omega)]; exact c.2.2.2.2.2.2 j hj) (by omega) (by omega), c1s, ht, ← hoff, bbs, bbs, bbs, bbs, bbs, hC1, bbs, bbs, ← hC2]
    unfold fX1_sendWaves
    rw [if_pos hal, bbs, bbs, bbs, hC0, f0 78 4 (by omega), if_pos g1, g2, bbs, f0 80 6 (by omega), e806]
    by_cases z : a1 = -1
    · rw [if_pos z]; exact s39 _ (by rw [ha3, if_pos z])
    · rw [if_neg z]; exact s39 _ (by rw [ha3, if_neg z])
  -- the reference
  generalize hM0 : pv_up (pv_up (pv_up (pv_up (pv_up (pv_up (pv_up hm 0 38 0) 0 39 0) 0 40 0) 0 36 0) 0 37 0) 0 41 0) 0 60 (-1) = M0
  have k0 : ∀ x y, ¬ (x = 0 ∧ (y = 36 ∨ y = 37 ∨ y = 38 ∨ y = 39 ∨ y = 40 ∨ y = 41 ∨ y = 60)) → M0 x y = hm x y := fun x y np => by rw [← hM0, pv_up_ne (by omega), pv_up_ne (by omega), pv_up_ne (by omega), pv_up_ne (by omega), pv_up_ne (by omega), pv_up_ne (by omega), pv_up_ne (by omega)]
  have k38 : M0 0 38 = 0 ∧ M0 0 39 = 0 ∧ M0 0 40 = 0 ∧ M0 0 60 = -1 := by
    rw [← hM0]
    simp (disch := omega) only [pu_ne, pu_eq]
    exact ⟨trivial, trivial, trivial, trivial⟩
  obtain ⟨f', M1, eM1, k1, z17⟩ := clear_M (N := N) (a1 := a1) (hm := M0) (k := fun _ => True) n60 (by rw [k0 _ _ (by omega)]; exact m.1) N 0 M0 (by omega) (by omega) (fun _ _ _ => rfl) (fun y hy => by omega)
  have K1 : ∀ x y, ¬ RMz x y → M1 x y = hm x y := fun x y np => by
    rw [k1 x y (by unfold RMz DMz at np; omega) (by unfold RMz DMz at np; omega), k0 x y (by unfold RMz DMz at np; omega)]
  have m1 : mlz M1 n st sg su lw := m.fr2 (fun x y q => K1 x y (by unfold RMz DMz; omega))
  have ms1 : ∀ i, i < n → M1 11 i = str i := fun i hi => by rw [K1 _ _ (by unfold RMz DMz; omega)]; exact ms i hi
  have q29 : M1 0 29 = (last : Int) := by rw [K1 _ _ (by unfold RMz DMz; omega)]; exact e29
  have q30 : M1 0 30 = hm 0 30 := K1 _ _ (by unfold RMz DMz; omega)
  have qb : ∀ t, t < last → M1 12 t = bd t ∧ M1 13 t = tn t ∧ 0 ≤ bd t ∧ bd t ≤ M1 0 30 := fun t ht => by
    rw [K1 _ _ (by unfold RMz DMz; omega), K1 _ _ (by unfold RMz DMz; omega), q30]
    exact ⟨(hb t ht).1, (hb t ht).2.1, (hb t ht).2.2.1, (hb t ht).2.2.2.1⟩
  obtain ⟨T', eT, t, rfl, t1, t2, t3⟩ := fst_M (N := N) (h := M1) (by omega) gb l m1 ms1 (by rw [q30]; exact G1) (by rw [q30]; exact G2) q29 hl (bd := bd) (fun t ht => ⟨(qb t ht).1, (qb t ht).2.2⟩) hL
  have tT : t = T := by
    by_cases z1 : t < T
    · have := hT2 t z1
      have := t3 (by omega)
      omega
    · by_cases z2 : T < t
      · have := t2 T z2
        rcases hT3 with ⟨_, y, _⟩ | ⟨y, _⟩ <;> omega
      · omega
  subst tT
  generalize hM2 : pv_up M1 0 41 (t : Int) = M2
  have k2 : ∀ x y, ¬ (x = 0 ∧ y = 41) → M2 x y = M1 x y := fun x y np => by rw [← hM2, pv_up_ne (by omega)]
  have e41 : M2 0 41 = (t : Int) := by rw [← hM2, pv_up_self]
  generalize hM3 : pv_up (pv_up M2 0 36 bdT) 0 37 tnT = M3
  have k3 : ∀ x y, ¬ (x = 0 ∧ (y = 36 ∨ y = 37)) → M3 x y = M2 x y := fun x y np => by rw [← hM3, pv_up_ne (by omega), pv_up_ne (by omega)]
  have e36 : M3 0 36 = bdT := by rw [← hM3, pv_up_ne (by omega), pv_up_self]
  have e37 : M3 0 37 = tnT := by rw [← hM3, pv_up_self]
  have K3 : ∀ x y, ¬ RMz x y → M3 x y = hm x y := fun x y np => by
    rw [k3 x y (by unfold RMz at np; omega), k2 x y (by unfold RMz at np; omega), K1 x y np]
  have m3 : mlz M3 n st sg su lw := m.fr2 (fun x y q => K3 x y (by unfold RMz DMz; omega))
  have v41 : M3 0 41 = (t : Int) := by rw [k3 _ _ (by omega)]; exact e41
  have v29 : M3 0 29 = (last : Int) := by rw [K3 _ _ (by unfold RMz DMz; omega)]; exact e29
  have z3 : ∀ y, y < n → M3 17 y = 0 ∧ M3 18 y = 0 := fun y hy => by
    rw [k3 _ _ (by omega), k3 _ _ (by omega), k2 _ _ (by omega), k2 _ _ (by omega)]; exact z17 y hy
  have y38 : M3 0 38 = 0 ∧ M3 0 39 = 0 ∧ M3 0 40 = 0 ∧ M3 0 60 = -1 := by
    rw [k3 _ _ (by omega), k3 _ _ (by omega), k3 _ _ (by omega), k3 _ _ (by omega), k2 _ _ (by omega), k2 _ _ (by omega), k2 _ _ (by omega), k2 _ _ (by omega), k1 _ _ (by omega) (by omega), k1 _ _ (by omega) (by omega), k1 _ _ (by omega) (by omega), k1 _ _ (by omega) (by omega)]
    exact k38
  have eR : fX10_runs N a1 hm = if (last : Int) ≤ (t : Int) then fX10_runs_216 N a1 N M3 else pv_c1 (fX10_weakest N M3) fun r28 => pv_c1 (fX10_loadOf N r28 M3) fun r30 => pv_c1 (fX10_breaks N r28 (t : Int) 0 r30 M3) fun h32 => pv_b (pv_up h32 0 41 (pv_w ((h32 0 41) + 1))) fun h33 => fX10_runs_216 N a1 N h33 := by
    unfold fX10_runs
    rw [bbs, bbs, bbs, bbs, bbs, bbs, bbs, hM0]
    rw [show ((0 : Nat) : Int) = 0 from rfl] at eM1
    rw [eM1, fX10_runs_37, m1.1, if_pos (by omega), eT, c1s, bbs, hM2, ticks_M (bd := bd) (tn := tn) (hm := M2) (t := t) (last := last) (B := bd) (by rw [k2 _ _ (by omega)]; exact q29) hl e41 t1 (fun k hk => by rw [k2 _ _ (by omega), k2 _ _ (by omega)]; exact ⟨(qb k hk).1, (qb k hk).2.1⟩), ← htn, ← hbd]
    unfold fX10_runs_172
    rw [bbs, hM3, v29, v41]
  -- what both have in common
  have o80 : C2 80 0 = 0 ∧ C2 80 2 = 0 ∧ C2 80 3 = 0 ∧ C2 78 10 = 0 ∧ C2 78 8 = off ∧ C2 78 9 = al ∧ C2 78 1 = -1 ∧ C2 78 2 = -1 := by
    rw [f2 _ _ (by omega), f2 _ _ (by omega), f2 _ _ (by omega), f2 _ _ (by omega), f2 _ _ (by omega), f2 _ _ (by omega), f2 _ _ (by omega), f2 _ _ (by omega), f1 78 9 (by omega), f1 78 1 (by omega), f1 78 2 (by omega), ← hC1, ← hC0]
    simp (disch := omega) only [pu_ne, pu_eq]
    exact ⟨trivial, trivial, trivial, trivial, trivial, trivial, trivial, trivial⟩
  have lt0 : LTz n C2 M3 := ⟨fun i hi => ⟨by rw [(z94 i (by omega)).2, (z3 i hi).2], Or.inl (z3 i hi).2⟩, by rw [o80.2.2.1, y38.2.2.1], by rw [y38.2.2.1]; omega, by rw [y38.2.2.1]; omega⟩
  have sz : sumz (M3 17) n = 0 := by
    have : ∀ k, k ≤ n → sumz (M3 17) k = 0 := by
      intro k
      induction k with
      | zero => intro _; rfl
      | succ k ih => intro h; rw [sumz, ih (by omega), (z3 k (by omega)).1]; rfl
    exact this n (Nat.le_refl _)
  have br0 : BRz n 0 C2 M3 := ⟨o80.1, y38.1, sz, fun i hi => ⟨by rw [(z94 i (by omega)).1, (z3 i hi).1], Or.inl (z3 i hi).1⟩, fun k hk => by omega, fun i hi q => by rw [(z3 i hi).1] at q; omega⟩
  have wr0 : WRz 0 0 C2 M3 := ⟨o80.2.1, y38.2.1, by omega, o80.2.2.2.1, by omega, fun w hw => by omega⟩
  have e80 : ∀ y, 4 ≤ y → y ≤ 6 → C2 80 y = hc 80 y := fun y y1 y2 => by
    rw [f2 _ _ (by omega), f1 _ _ (by omega), f0 _ _ (by omega)]
  have e78 : ∀ y, 3 ≤ y → y ≤ 7 → C2 78 y = hc 78 y := fun y y1 y2 => by
    rw [f2 _ _ (by omega), f1 _ _ (by omega), f0 _ _ (by omega)]
  rcases hT3 with ⟨z, b1, b2, b3, b4, b5, b6⟩ | ⟨z, b1, b2, b3, b4⟩
  · -- a BREAK
    have hbT := hb t z
    have eb : bdT = bd t := by rw [hbd, if_pos z]
    have all : ¬ ∀ i, i < n → ldz n (lw 7) st i (bd t) ≤ str i := fun q => by
      have := (hL.2.2 (bd t) hbT.2.2.1).mpr q
      omega
    obtain ⟨ci, hci, ec, _, _⟩ : ∃ c : Nat, c < n ∧ (amz (fun i => ldz n (lw 7) st i (bd t) - str i) n).1 = (c : Int) ∧ (amz (fun i => ldz n (lw 7) st i (bd t) - str i) n).2 = ldz n (lw 7) st c (bd t) - str c ∧ 0 < ldz n (lw 7) st c (bd t) - str c := by
      rcases amz_p (fun i => ldz n (lw 7) st i (bd t) - str i) n with ⟨_, _, q⟩ | q
      · exact absurd (fun i hi => by have := q i hi; omega) all
      · exact q
    have e6 : C2 78 6 = (ci : Int) := by rw [e78 6 (by omega) (by omega), b3, ec]
    have e7 : C2 78 7 = (t : Int) := by rw [e78 7 (by omega) (by omega), b2]
    have e93 : ∀ i, i < n → C2 93 i = ldz n (lw 7) st i (bd t) := fun i hi => by rw [F2 _ _ (by unfold RCz DCz; omega)]; exact b6 i hi
    have lb := ld_b gb l hci hbT.2.2.1
    obtain ⟨hcA, hmB, nw', ng', x1, x2, x3, x4, x5, x6, x7, x8⟩ := brk_2 (N := N) (tk := (t : Int)) (lw := lw) (sg := sg) (str := str) (c := ci) (kd := kdz n sg str ci) (how := 0) (by' := ldz n (lw 7) st ci (bd t)) wr0 br0 l n3 n60 c2.2.2.2.2.2.1 (c2.2.2.2.2.2.2 0 (by omega)) (m3.2.2 0 (by omega)) m3.1 hci (z3 ci hci).1 (m3.2.1 ci hci).2.1 (by rw [K3 _ _ (by unfold RMz DMz; omega)]; exact ms ci hci) (Or.inr ⟨rfl, rfl⟩) (by omega) (by omega) lb.1 (by omega)
    have bM := brkM (n := n) (by rw [y38.2.1]) y38.1 hci n60 m3.1 x2
    generalize hMA : pv_up hmB 0 41 ((t : Int) + 1) = hmA
    have kA : ∀ x y, ¬ (x = 0 ∧ y = 41) → hmA x y = hmB x y := fun x y np => by rw [← hMA, pv_up_ne (by omega)]
    have w41 : hmB 0 41 = (t : Int) := by rw [x8 _ _ (by unfold FMz; omega) (by unfold BMz; omega)]; exact v41
    have FA : ∀ x y, ¬ FCz x y → ¬ BCz x y → hcA x y = C2 x y := x7
    have FMA : ∀ x y, ¬ FMz x y → ¬ BMz x y → ¬ (x = 0 ∧ y = 41) → hmA x y = M3 x y := fun x y n1 n2 n3' => by rw [kA x y n3', x8 x y n1 n2]
    have n2 : nw' = 2 := by
      have := x3.2.2.1.2.1
      rw [bM.1] at this
      omega
    have g2' : ng' = 2 := by have := x3.2.1; omega
    subst n2
    subst g2'
    have WB := x3.2.2.1
    have gA : ∀ x y, FMz x y → hmA x y = hmB x y := fun x y q => kA x y (by unfold FMz at q; omega)
    have WA : WRz 2 2 hcA hmA := WB.frm (fun _ _ _ => rfl) gA
    have a19 : ∀ w, w < 2 → hmA 19 w = 1 := fun w hw => by
      rw [gA _ _ (by unfold FMz; omega)]
      exact (x3.2.2.2.1 w (by omega) hw).2.1
    have r0 : ∀ w, w ≤ 2 → rkz (hmA 19) w = w := fun w hw => by
      have := rkz_all (p := hmA 19) (a := 0) w (fun u _ h2 => a19 u (by omega))
      rw [Nat.zero_add] at this
      rw [this]
      exact Nat.zero_add w
    have bendB : 0 ≤ bd t ∧ bd t ≤ 237600 := ⟨hbT.2.2.1, by have := hbT.2.2.2.1; omega⟩
    refine ⟨hcA, hmA, fun x y np => ?_, fun x y np => ?_, Or.inr ⟨t, ci, off, a3, by omega, by rw [b3, ec]; omega, ?_, ?_, by rw [← hMA, pv_up_self], ?_, a3b.1, a3b.2, hoff, bendB.1, bendB.2, ?_, ?_, ?_⟩⟩
    · rw [FA x y (by unfold RCz DCz at np; unfold FCz; omega) (by unfold RCz DCz at np; unfold BCz; omega)]
      exact F2 x y np
    · rw [FMA x y (by unfold RMz DMz at np; unfold FMz; omega) (by unfold RMz DMz at np; unfold BMz; omega) (by unfold RMz at np; omega)]
      exact K3 x y np
    · have h4 : hcA 78 4 = 23 := by rw [FA _ _ (by unfold FCz; omega) (by unfold BCz; omega)]; exact c2.2.2.2.2.2.1
      have h24 : hcA (23 + 1) 2 = lw 2 := by rw [FA _ _ (by unfold FCz; omega) (by unfold BCz; omega)]; exact c2.2.2.2.2.2.2 2 (by omega)
      have h7 : hcA 78 7 = (t : Int) := by rw [FA _ _ (by unfold FCz; omega) (by unfold BCz; omega)]; exact e7
      have t23 : Int.toNat 23 = 23 := rfl
      have e25 : max 1 (lw 2) = lw 2 := by omega
      rw [eS, e6, if_neg (by omega), kof_C gb c2 hs' hci e6, c1s, if_pos (by omega), tnc, e93 ci hci, e7, x1, c1s, h4, if_pos ⟨by decide, by decide⟩, t23, bbs, h24, e25, h7, bbs, bbs, bbs, pv_w_id (by omega) (by omega), pv_w_id (by omega) (by omega)]
    · have eL : fX10_loadOf N (ci : Int) M3 = some (ldz n (lw 7) st ci (bd t)) := by
        unfold fX10_loadOf
        rw [if_pos (by omega), tnc, (z3 ci hci).2, if_pos rfl, e36, eb, load_M gb l m3 hci bendB.1 (by omega), c1s]
      have eW : fX10_weakest N M3 = some (ci : Int) := by
        have := weak_l (N := N) gb l m3 (str := str) (fun i hi => by rw [K3 _ _ (by unfold RMz DMz; omega)]; exact ms i hi) hs2 (fun i hi => (z3 i hi).2) (by rw [e36, eb]) bendB.1 bendB.2 N 0 (by omega) (by omega)
        unfold fX10_weakest
        rw [bbs, ← ec]
        exact this
      rw [eR, if_neg (by omega), eW, c1s, eL, c1s, x2, c1s, w41, bbs, pv_w_id (by omega) (by omega), hMA]
    · rw [FMA 0 37 (by unfold FMz; omega) (by unfold BMz; omega) (by omega), e37, ha3]
    · rw [FA _ _ (by unfold FCz; omega) (by unfold BCz; omega), e80 5 (by omega) (by omega), b4]
    · rw [FA _ _ (by unfold FCz; omega) (by unfold BCz; omega), e80 6 (by omega) (by omega), e806, FMA 0 37 (by unfold FMz; omega) (by unfold BMz; omega) (by omega), e37]
    · -- the state after it
      obtain ⟨y1, y2, y3, y4, y5, y6, y7, y8, y9⟩ := bM
      refine ⟨⟨?_, ?_, fun i hi => ⟨?_, ?_, ?_⟩, ?_, ?_, ?_, ?_⟩, ?_, ?_, WA, fun w hw go => ?_, ⟨(r0 2 (by omega)).symm, fun w hw go => ?_⟩, fun i hi => ?_, hci, ?_, fun i hi ne => ?_, ?_, ?_, ?_, ?_⟩
      · exact c2.frm (fun x y n1 n2 => FA x y (by unfold FCz; omega) (by unfold BCz; omega))
      · exact m3.fr2 (fun x y q => FMA x y (by unfold FMz; omega) (by unfold BMz; omega) (by omega))
      · rw [FA _ _ (by unfold FCz; omega) (by unfold BCz; omega)]; exact hs' i hi
      · rw [FMA _ _ (by unfold FMz; omega) (by unfold BMz; omega) (by omega), K3 _ _ (by unfold RMz DMz; omega)]; exact ms i hi
      · rw [FA _ _ (by unfold FCz; omega) (by unfold BCz; omega)]; exact e93 i hi
      · rw [FA _ _ (by unfold FCz; omega) (by unfold BCz; omega)]; exact o80.2.2.2.2.1
      · rw [FA _ _ (by unfold FCz; omega) (by unfold BCz; omega)]; exact o80.2.2.2.2.2.1
      · rw [FMA _ _ (by unfold FMz; omega) (by unfold BMz; omega) (by omega), K3 _ _ (by unfold RMz DMz; omega)]; exact e43
      · rw [FMA _ _ (by unfold FMz; omega) (by unfold BMz; omega) (by omega), e36, eb]
      · exact lt0.frm (fun x y q => FA x y (by unfold FCz; omega) (by unfold BCz; omega)) (fun x y q => FMA x y (by unfold FMz; omega) (by unfold BMz; omega) (by omega))
      · exact x4.frm (fun _ _ _ => rfl) (fun x y q => kA x y (by unfold BMz at q; omega))
      · obtain ⟨p1, p2, p3, p4, p5, p6, p7, p8, p9⟩ := x3.2.2.2.1 w (by omega) hw
        rw [gA 31 w (by unfold FMz; omega), gA 27 w (by unfold FMz; omega), gA 26 w (by unfold FMz; omega), gA 25 w (by unfold FMz; omega)]
        have i3 := (WB.2.2.2.2.2 w hw).2.2.2.2.2.2.1
        refine ⟨p5, p6, p7, ⟨0, by omega, by rw [p3, Int.mul_zero, Int.add_zero], fun _ => by rw [p4, Int.sub_zero], fun _ => by rw [p4, Int.add_zero]⟩, fun q => by rw [p4]; exact p8 q, fun q => by rw [p4]; exact p9 q, ?_, ?_⟩
        · rcases i3 with q | q
          · have := p8 q; omega
          · have := p9 q; omega
        · rcases i3 with q | q
          · have := p8 q; omega
          · have := p9 q; omega
      · rw [r0 w (by omega)]
        have := (x3.2.2.2.1 w (by omega) hw).1
        rw [Nat.sub_zero, Nat.zero_add] at this
        exact this
      · rw [FMA _ _ (by unfold FMz; omega) (by unfold BMz; omega) (by omega)]; exact (z3 i hi).2
      · rw [kA _ _ (by omega)]; exact x5
      · rw [kA _ _ (by omega), x6 i ne]; exact (z3 i hi).1
      · rw [gA 25 0 (by unfold FMz; omega), gA 26 0 (by unfold FMz; omega), gA 29 0 (by unfold FMz; omega), gA 19 0 (by unfold FMz; omega), gA 25 1 (by unfold FMz; omega), gA 26 1 (by unfold FMz; omega), gA 29 1 (by unfold FMz; omega), gA 19 1 (by unfold FMz; omega)]
        exact ⟨y2, y3, y4, y5, y6, y7, y8, y9⟩
      · rw [FA _ _ (by unfold FCz; omega) (by unfold BCz; omega)]; exact o80.2.2.2.2.2.2.1
      · rw [FA _ _ (by unfold FCz; omega) (by unfold BCz; omega)]; exact o80.2.2.2.2.2.2.2
      · rw [FMA _ _ (by unfold FMz; omega) (by unfold BMz; omega) (by omega)]; exact y38.2.2.2
  · -- none
    subst z
    refine ⟨C2, M3, F2, K3, Or.inl ⟨?_, ?_, c2, m3, lt0, br0, wr0, ?_, v41, ?_, ?_, o80.2.2.2.2.2.2.1, o80.2.2.2.2.2.2.2, y38.2.2.2⟩⟩
    · rw [eS, e78 6 (by omega) (by omega), b1, if_pos rfl]
    · rw [eR, if_pos (Int.le_refl _)]
      obtain ⟨N', rfl⟩ : ∃ k, N = k + 1 := ⟨N - 1, by omega⟩
      rw [fX10_runs_216]
      by_cases q : 4000 ≤ M3 0 41
      · rw [if_pos q]
      · rw [if_neg q, if_pos (by rw [y38.1]; omega)]
    · rw [e80 4 (by omega) (by omega)]; exact b2
    · rw [e80 5 (by omega) (by omega), e805, e36]
    · rw [e80 6 (by omega) (by omega), e806, e37]
end PREL
