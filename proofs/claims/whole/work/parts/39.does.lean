/-! the reference takes up DOINGS -/
/-- the reference's DOINGS (at o) in numbers -/
def mvz (h : pv_H) (o n : Nat) (K U T : Nat → Int) : Prop := h 2 o = (n : Int) ∧ n ≤ 12 ∧ ∀ j, j < n → h 2 (o + 1 + j) = K j ∧ h 2 (o + 13 + j) = U j ∧ h 2 (o + 25 + j) = T j
theorem does_M {N n a : Nat} {K U T : Nat → Int} {h : pv_H} {p : Int} (hN : 2000 ≤ N) (ha : a < 4) (v : mvz h (968 + 37 * a) n K U T) (g : gdz K U T) (hp : 1 ≤ p) (hp2 : p ≤ 9) : wpz (fX10_does N (a : Int) p h) fun h' => frz PDz h h' ∧ h' 0 28 = tbz (fun j => T j * p) n ∧ ∃ L : Nat, (L : Int) = min (tbz (fun j => T j * p) n) 4000 ∧ layz h' K (fun j => U j / p) (fun j => T j * p) n L := by
  obtain ⟨v1, v2, v3⟩ := v
  have hF := gd_F (p := p) g hp
  have hB := gd_B (p := p) g hp
  have hF9 := gd_F9 g hp hp2
  have hB2 : ∀ j, 0 ≤ U j / p ∧ U j / p ≤ 99 := fun j => by
    obtain ⟨a1, a2, a3, a4, _⟩ := g j
    have := ed_b a3 hp
    omega
  unfold fX10_does
  have eo : pv_w (968 + pv_w (37 * (a : Int))) = ((968 + 37 * a : Nat) : Int) := by
    rw [pv_w_id (x := 37 * (a : Int)) (by omega) (by omega), pv_w_id (by omega) (by omega)]; omega
  rw [eo]
  generalize hO : 968 + 37 * a = o at *
  simp (disch := omega) only [bbs, Int.add_zero, pv_w_id, if_pos, tnc]
  rw [v1]
  have lp : ∀ (f k : Nat) (g : pv_H), k ≤ n → n < k + f → (∀ x y, ¬ (x = 0 ∧ (y = 27 ∨ y = 28) ∨ 14 ≤ x ∧ x ≤ 16) → g x y = h x y) → g 0 27 = (n : Int) → g 0 28 = tbz (fun j => T j * p) k → (∀ j, j < k → g 14 j = K j ∧ g 15 j = U j / p ∧ g 16 j = T j * p) → wpz (fX10_does_29 N (a : Int) p f (o : Int) (k : Int) g) fun h' => frz PDz h h' ∧ h' 0 28 = tbz (fun j => T j * p) n ∧ ∃ L : Nat, (L : Int) = min (tbz (fun j => T j * p) n) 4000 ∧ layz h' K (fun j => U j / p) (fun j => T j * p) n L := by
    intro f
    induction f with
    | zero => intro k g h1 h2; omega
    | succ f ih =>
      intro k q h1 h2 h3 h4 h5 h6
      rw [fX10_does_29, h4]
      by_cases z : n ≤ k
      · rw [if_pos (by omega)]
        have : k = n := by omega
        subst this
        unfold fX10_laysTicks
        simp only [bbs]
        rw [wp_c1]
        have fr0 : frz PLz q (pv_up (pv_up (pv_up (pv_up q 0 36 0) 0 37 0) 0 29 0) 0 30 0) := by
          refine (((frz.rf.up ?_).up ?_).up ?_).up ?_ <;> unfold PLz <;> omega
        refine wp_mono (lay_out (K := K) (B := fun j => U j / p) (F := fun j => T j * p) (h0 := q) hN hF hF9 hB hB2 v2 N 0 _ 0 (by omega) (by omega) fr0 ?_ ?_ rfl ?_ ?_) ?_
        · exact stpz.frm (h := q) ⟨h4, v2, h6⟩ fr0
        · refine ⟨?_, by omega, ?_, ?_, fun t ht => absurd ht (Nat.not_lt_zero t)⟩
          · rw [pv_up_ne (by omega), pv_up_self]; rfl
          · rw [pv_up_self]; omega
          · rw [pv_up_self]; omega
        · simp (disch := omega) only [pu_ne, pu_eq]
          rw [show tbz (fun j => T j * p) 0 = 0 from rfl, bb_0 hF]
        · simp (disch := omega) only [pu_ne, pu_eq]
          rw [show tbz (fun j => T j * p) 0 = 0 from rfl, bt_0 hF]
        · rintro h' ⟨f1, L, f2, f3⟩
          refine wp_some.mpr ⟨fun x y np => ?_, ?_, L, f2, f3⟩
          · rw [f1 x y (by unfold PLz; unfold PDz at np; omega), h3 x y (by unfold PDz at np; omega)]
          · rw [f1 _ _ (by unfold PLz; omega), h5]
      · rw [if_neg (by omega)]
        obtain ⟨w1, w2, w3⟩ := v3 k (by omega)
        have y1 : q 2 (o + 1 + k) = K k := by rw [h3 _ _ (by omega)]; exact w1
        have y2 : q 2 (o + 13 + k) = U k := by rw [h3 _ _ (by omega)]; exact w2
        have y3 : q 2 (o + 25 + k) = T k := by rw [h3 _ _ (by omega)]; exact w3
        have x1 : Int.toNat ((o : Int) + 1 + (k : Int)) = o + 1 + k := by omega
        have x2 : Int.toNat ((o : Int) + 13 + (k : Int)) = o + 13 + k := by omega
        have x3 : Int.toNat ((o : Int) + 25 + (k : Int)) = o + 25 + k := by omega
        have bk := hB2 k
        have fk := hF k
        have fk9 := hF9 k
        have uk := (g k).2.2.1
        have t24 := tb_2400 g k
        have tbp := tb_p (T := T) (p := p) k
        have a1 := tb_nn (F := T) (fun j => (g j).2.2.2.2.1) k
        have tb9 : tbz T k * p ≤ 2400 * 9 := by
          have a2 : tbz T k * p ≤ tbz T k * 9 := Int.mul_le_mul_of_nonneg_left hp2 (by omega)
          omega
        have tb0 : 0 ≤ tbz T k * p := Int.mul_nonneg (by omega) (by omega)
        have en : pv_w ((U k).tdiv p) = U k / p := by rw [tdn uk, pv_w_id (by omega) (by omega)]
        simp (disch := omega) only [pv_w_id (x := (o : Int) + 1), pv_w_id (x := (o : Int) + 13), pv_w_id (x := (o : Int) + 25), pv_w_id (x := (o : Int) + 1 + (k : Int)), pv_w_id (x := (o : Int) + 13 + (k : Int)), pv_w_id (x := (o : Int) + 25 + (k : Int)), if_pos, bbs, tnc, x1, x2, x3, pu_ne, pu_eq, y1, y2, y3, en, h5, pws, pv_w_id (x := T k * p), pv_w_id (x := tbz (fun j => T j * p) k + T k * p)]
        refine ih (k + 1) _ (by omega) (by omega) (fun x y np => ?_) ?_ ?_ (fun j hj => ?_)
        · simp (disch := omega) only [pu_ne]
          exact h3 x y np
        · simp (disch := omega) only [pu_ne]
          exact h4
        · rw [pv_up_self]; rfl
        · by_cases e : j = k
          · subst e
            simp (disch := omega) only [pu_ne, pu_eq]
            exact ⟨trivial, trivial, trivial⟩
          · simp (disch := omega) only [pu_ne]
            exact h6 j (by omega)
  refine lp N 0 _ (by omega) (by omega) (fun x y np => ?_) ?_ ?_ (fun j hj => absurd hj (Nat.not_lt_zero j))
  · simp (disch := omega) only [pu_ne]
  · simp (disch := omega) only [pu_ne, pu_eq]
  · simp (disch := omega) only [pu_ne, pu_eq]
    rfl
