/-! calls: bent, count -/
theorem SSz.dov2 {hc hm : pv_H} (S : SSz hc hm) {a : Nat} (h : a < 4) : ∃ (n : Nat) (K U T : Nat → Int), gdz K U T ∧ cvz hc (59 + 4 * a) n K U T ∧ mvz hm (968 + 37 * a) n K U T := by
  obtain ⟨d1, d2, d3, d4⟩ := S.dov h
  obtain ⟨n, en⟩ := Int.eq_ofNat_of_zero_le d2
  refine ⟨n, fun j => if j < n then hm 2 (968 + 37 * a + 1 + j) else 0, fun j => if j < n then hm 2 (968 + 37 * a + 13 + j) else 0, fun j => if j < n then hm 2 (968 + 37 * a + 25 + j) else 1, ?_, ?_, ?_⟩
  · intro j
    by_cases q : j < n
    · have := d4 j (by omega)
      simp only [if_pos q]
      omega
    · simp only [if_neg q]
      omega
  · refine ⟨by rw [d1, en], by omega, fun j hj => ?_⟩
    have := d4 j (by omega)
    simp only [if_pos hj]
    exact ⟨this.1, this.2.2.2.1, this.2.2.2.2.2.2.1⟩
  · refine ⟨en, by omega, fun j hj => ?_⟩
    simp only [if_pos hj]
    exact ⟨trivial, trivial, trivial⟩
theorem PDz_PM {x y : Nat} (h : PDz x y) : PMz x y := by
  unfold PDz at h
  unfold PMz
  omega
theorem s_bent : sm_bent SSz := by
  intro hc hm S a1 a2 a3 _ _ _
  refine two_th S fun hm S => ?_
  unfold fX9_bent
  by_cases h1 : 0 ≤ a1 ∧ a1 < 4
  · by_cases h2 : 0 ≤ a2 ∧ a2 ≤ 3999
    · rw [hasDo_1 h1, isDo_1 h1, wn_1 h2]
      obtain ⟨a, rfl⟩ := Int.eq_ofNat_of_zero_le h1.1
      obtain ⟨t, rfl⟩ := Int.eq_ofNat_of_zero_le h2.1
      obtain ⟨n, K, U, T, g, c, v⟩ := S.dov2 (a := a) (by omega)
      have hF := gd_F (p := 1) g (by omega)
      have cb := bend_C (N := pv_NN) (p := 1) (over := (t : Int) + 1) (by decide) c g (by omega) (by omega) (by omega) (by omega)
      have ct := turn_C (N := pv_NN) (p := 1) (over := (t : Int) + 1) (by decide) c g (by omega) (by omega) (by omega) (by omega)
      have dm := does_M (N := pv_NN) (p := 1) (by decide) (show a < 4 by omega) v g (by omega) (by omega)
      have e1 : pv_w ((t : Int) + 1) = (t : Int) + 1 := pv_w_id (by omega) (by omega)
      simp (disch := omega) only [c1s, if_neg, if_pos, bbs, tnc, e1, cb, ct]
      have cc : ∀ (Q : pv_H × Int → Prop), Q (hc, if a3 = 0 then bbz K (fun j => U j / 1) (fun j => T j * 1) n ((t : Int) + 1) else btz K (fun j => U j / 1) (fun j => T j * 1) n ((t : Int) + 1)) → wpz (if a3 = 0 then fX9_bent_71 pv_NN (a : Int) (t : Int) a3 (bbz K (fun j => U j / 1) (fun j => T j * 1) n ((t : Int) + 1)) hc else fX9_bent_71 pv_NN (a : Int) (t : Int) a3 (btz K (fun j => U j / 1) (fun j => T j * 1) n ((t : Int) + 1)) hc) Q := by
        intro Q hQ
        unfold fX9_bent_71
        by_cases z : a3 = 0
        · rw [if_pos z] at hQ ⊢
          exact wp_some.mpr hQ
        · rw [if_neg z] at hQ ⊢
          exact wp_some.mpr hQ
      refine cc _ ?_
      refine wp_c1I dm ?_
      rintro h' ⟨f1, f2, L, f3, l1, l2, l3, l4, l5⟩
      have S' : SSz hc h' := S.frz frz.rf (f1.mono fun x y q => PDz_PM q)
      rw [l1]
      unfold fX10_bent_62 fX10_bent_94
      have fin : ∀ r : Int, r = (if a3 = 0 then bbz K (fun j => U j / 1) (fun j => T j * 1) n ((t : Int) + 1) else btz K (fun j => U j / 1) (fun j => T j * 1) n ((t : Int) + 1)) → wpz (some (h', r)) fun m => (hc, if a3 = 0 then bbz K (fun j => U j / 1) (fun j => T j * 1) n ((t : Int) + 1) else btz K (fun j => U j / 1) (fun j => T j * 1) n ((t : Int) + 1)).2 = m.2 ∧ SSz (hc, if a3 = 0 then bbz K (fun j => U j / 1) (fun j => T j * 1) n ((t : Int) + 1) else btz K (fun j => U j / 1) (fun j => T j * 1) n ((t : Int) + 1)).1 m.1 := fun r hr => wp_some.mpr ⟨hr.symm, S'⟩
      by_cases q : L ≤ t
      · rw [if_pos (by omega)]
        have tl : tbz (fun j => T j * 1) n = L := by omega
        have be : bbz K (fun j => U j / 1) (fun j => T j * 1) n ((t : Int) + 1) = bbz K (fun j => U j / 1) (fun j => T j * 1) n L := by
          rw [bb_end hF (by omega), tl]
        have te : btz K (fun j => U j / 1) (fun j => T j * 1) n ((t : Int) + 1) = btz K (fun j => U j / 1) (fun j => T j * 1) n L := by
          rw [bt_end hF (by omega), tl]
        by_cases z : L = 0
        · subst z
          rw [pv_w_id (by omega) (by omega), if_neg (by omega)]
          refine fin _ ?_
          rw [be, te]
          have b0 : bbz K (fun j => U j / 1) (fun j => T j * 1) n ((0 : Nat) : Int) = 0 := bb_0 hF
          have t0 : btz K (fun j => U j / 1) (fun j => T j * 1) n ((0 : Nat) : Int) = 0 := bt_0 hF
          rw [b0, t0, ite_self]
        · have e2 : pv_w ((L : Int) - 1) = ((L - 1 : Nat) : Int) := by rw [pv_w_id (by omega) (by omega)]; omega
          obtain ⟨y1, y2, _⟩ := l5 (L - 1) (by omega)
          have e3 : ((L - 1 : Nat) : Int) + 1 = (L : Int) := by omega
          rw [e3] at y1 y2
          rw [e2]
          simp (disch := omega) only [if_pos, tnc, y1, y2]
          by_cases z : a3 = 0
          · rw [if_pos z]
            exact fin _ (by rw [if_pos z, be])
          · rw [if_neg z]
            exact fin _ (by rw [if_neg z, te])
      · rw [if_neg (by omega)]
        obtain ⟨y1, y2, _⟩ := l5 t (by omega)
        simp (disch := omega) only [if_pos, tnc, y1, y2]
        by_cases z : a3 = 0
        · rw [if_pos z]
          exact fin _ (by rw [if_pos z])
        · rw [if_neg z]
          exact fin _ (by rw [if_neg z])
    · rw [hasDo_1 h1, isDo_1 h1, wn_0 h2]
      by_cases h3 : a2 < 0
      · simp (disch := omega) only [c1s, if_neg, if_pos]
        exact no3 S
      · simp (disch := omega) only [c1s, if_neg, if_pos]
        exact no3 S
  · rw [hasDo_0 h1, isDo_0 h1]
    simp (disch := omega) only [c1s, if_neg, if_pos]
    exact no2 S
/-- how many RODS are there -/
def cntz (p : Nat → Int) : Nat → Int
  | 0 => 0
  | k + 1 => cntz p k + (if p k ≤ 0 then 0 else 1)
theorem cntz_b (p : Nat → Int) : ∀ k : Nat, 0 ≤ cntz p k ∧ cntz p k ≤ k := by
  intro k
  induction k with
  | zero => exact ⟨Int.le_refl _, Int.le_refl _⟩
  | succ k ih =>
    simp only [cntz]
    by_cases q : p k ≤ 0
    · rw [if_pos q]; omega
    · rw [if_neg q]; omega
theorem there_C {N : Nat} {hc : pv_H} {p : Nat → Int} (e : ∀ k, k < 4 → hc (35 + 6 * k) 0 = p k) : ∀ (f i : Nat), i ≤ 4 → 4 < i + f → fX8_rodsThere_4 N 20 f (cntz p i) (i : Int) hc = some (cntz p 4) := by
  intro f
  induction f with
  | zero => intro i h1 h2; omega
  | succ f ih =>
    intro i h1 h2
    rw [fX8_rodsThere_4]
    by_cases q : 4 ≤ i
    · rw [if_pos (by omega)]
      have : i = 4 := by omega
      subst this; rfl
    · have b := cntz_b p i
      have := e i (by omega)
      have x : 20 + 15 + 6 * i = 35 + 6 * i := by omega
      rw [if_neg (by omega), if_pos (by omega), tnc, bbs, x, this]
      unfold fX8_rodsThere_24
      have g := ih (i + 1) (by omega) (by omega)
      simp only [cntz] at g
      by_cases z : p i ≤ 0
      · rw [if_pos z, bbs, pws (by omega)]
        rw [if_pos z, Int.add_zero] at g
        exact g
      · rw [if_neg z, bbs, bbs, pws (by omega), pv_w_id (by omega) (by omega)]
        rw [if_neg z] at g
        exact g
theorem there_M {N : Nat} {hm : pv_H} {p : Nat → Int} (e : ∀ k, k < 4 → hm 2 (242 * k) = p k) : ∀ (f i : Nat), i ≤ 4 → 4 < i + f → fX10_rodsOf_4 N f (cntz p i) (i : Int) hm = some (cntz p 4) := by
  intro f
  induction f with
  | zero => intro i h1 h2; omega
  | succ f ih =>
    intro i h1 h2
    rw [fX10_rodsOf_4]
    by_cases q : 4 ≤ i
    · rw [if_pos (by omega)]
      have : i = 4 := by omega
      subst this; rfl
    · have b := cntz_b p i
      have := e i (by omega)
      rw [if_neg (by omega)]
      unfold fX10_rodsOf_23
      have g := ih (i + 1) (by omega) (by omega)
      simp only [cntz] at g
      have x : Int.toNat (i : Int) = i := tnc i
      by_cases z : p i ≤ 0
      · have no : ¬ rodOk hm (i : Int) := by
          rintro ⟨_, _, q3⟩
          rw [x, this] at q3
          omega
        rw [isRod_0 no, c1s, if_pos rfl, bbs, bbs, pws (by omega), pv_w_id (by omega) (by omega)]
        rw [if_pos z] at g
        exact g
      · have yes : rodOk hm (i : Int) := ⟨by omega, by omega, by rw [x, this]; omega⟩
        rw [isRod_1 yes, c1s, if_neg (by omega), bbs, bbs, pws (by omega), pv_w_id (by omega) (by omega)]
        rw [if_neg z] at g
        exact g
theorem s_count : sm_count SSz := by
  intro hc hm S a1 _
  refine two_th0 S fun hm S => ?_
  unfold fX9_count fX9_count_51 fX9_count_113 fX9_count_141
  obtain ⟨w1, w2, w3⟩ := S.lawv
  by_cases h0 : a1 = 0
  · subst h0
    unfold fX10_count_125
    simp (disch := omega) only [if_pos, if_neg, wn_1, wn_0, c1s]
    exact wend0 S.1.1 S
  · by_cases h1 : a1 = 1
    · subst h1
      unfold fX10_count_125 fX8_rodsThere fX10_rodsOf
      have c := there_C (N := pv_NN) (hc := hc) (p := fun k => hm 2 (242 * k)) (fun k hk => S.rod hk) pv_NN 0 (by omega) (by decide)
      have m := there_M (N := pv_NN) (hm := hm) (p := fun k => hm 2 (242 * k)) (fun k hk => rfl) pv_NN 0 (by omega) (by decide)
      have c : fX8_rodsThere_4 pv_NN 20 pv_NN 0 0 hc = some (cntz (fun k => hm 2 (242 * k)) 4) := c
      have m : fX10_rodsOf_4 pv_NN pv_NN 0 0 hm = some (cntz (fun k => hm 2 (242 * k)) 4) := m
      simp (disch := omega) only [if_pos, if_neg, wn_1, wn_0, c1s, c, m]
      exact wend0 rfl S
    · by_cases h2 : 2 ≤ a1 ∧ a1 ≤ 9
      · simp (disch := omega) only [if_pos, if_neg, wn_1, wn_0, c1s, pv_w_id]
        have x1 : Int.toNat (1116 + a1 - 2) = 1116 + (a1 - 2).toNat := by omega
        rw [x1]
        exact wend0 (w2 _ (by omega)) S
      · by_cases h10 : a1 = 10
        · subst h10
          have x1 : Int.toNat (1116 + 10 - 2) = 1124 := rfl
          simp (disch := omega) only [if_pos, if_neg, wn_1, wn_0, c1s, pv_w_id, x1]
          exact wend0 w1 S
        · by_cases h11 : a1 = 11
          · subst h11
            simp (disch := omega) only [if_pos, if_neg, wn_1, wn_0, c1s, pv_w_id]
            exact wend0 S.lookv.1 S
          · by_cases h20 : 20 ≤ a1 ∧ a1 ≤ 23
            · simp (disch := omega) only [if_pos, if_neg, wn_1, wn_0, c1s, pv_w_id, bbs]
              have x1 : Int.toNat (968 + 37 * (a1 - 20)) = 968 + 37 * (a1 - 20).toNat := by omega
              rw [x1]
              exact wend0 (S.dov (a := (a1 - 20).toNat) (by omega)).1 S
            · by_cases h30 : 30 ≤ a1 ∧ a1 ≤ 33
              · obtain ⟨a, ha⟩ := Int.eq_ofNat_of_zero_le (show 0 ≤ a1 - 30 by omega)
                obtain ⟨n, K, U, T, g, c, v⟩ := S.dov2 (a := a) (by omega)
                have dm := does_M (N := pv_NN) (p := 1) (by decide) (show a < 4 by omega) v g (by omega) (by omega)
                have ct := ticks_C (N := pv_NN) (by decide) c g
                have e1 : pv_w (a1 - 30) = (a : Int) := by rw [pv_w_id (by omega) (by omega), ha]
                unfold fX10_ticksOf
                simp (disch := omega) only [if_pos, if_neg, wn_1, wn_0, c1s, e1, bbs, tnc, ct]
                refine wp_some.mpr ?_
                rw [if_pos trivial, wp_c2, wp_c1]
                refine wp_mono dm ?_
                rintro h' ⟨f1, f2, _⟩
                have S' : SSz hc h' := S.frz frz.rf (f1.mono fun x y q => PDz_PM q)
                refine wp_some.mpr (wp_some.mpr ⟨?_, S'⟩)
                rw [f2, tb_p, Int.mul_one]
              · unfold fX10_count_125
                by_cases l2 : a1 < 2
                · simp (disch := omega) only [if_pos, if_neg, wn_1, wn_0, c1s]
                  exact wend0 rfl S
                · by_cases l20 : a1 < 20
                  · simp (disch := omega) only [if_pos, if_neg, wn_1, wn_0, c1s]
                    exact wend0 rfl S
                  · by_cases l30 : a1 < 30
                    · simp (disch := omega) only [if_pos, if_neg, wn_1, wn_0, c1s]
                      exact wend0 rfl S
                    · simp (disch := omega) only [if_pos, if_neg, wn_1, wn_0, c1s]
                      exact wend0 rfl S
