/-! calls: feed -/
theorem and255 (B : BitVec 32) (s : Nat) (hs : s ≤ 24) : B.sshiftRight s &&& 255#32 = B >>> s &&& 255#32 := by
  have h255 : ∀ i, i < 32 → (255#32).getLsbD i = decide (i < 8) := by decide
  apply BitVec.eq_of_getLsbD_eq
  intro i hi
  rw [BitVec.getLsbD_and, BitVec.getLsbD_and, h255 i hi]
  by_cases q : i < 8
  · rw [BitVec.getLsbD_sshiftRight, BitVec.getLsbD_ushiftRight]
    simp (disch := omega) only [if_pos]
    have h1 : decide (32 ≤ i) = false := decide_eq_false (by omega)
    rw [h1]
    simp
  · simp [q]
theorem byte_s (B : BitVec 32) (s : Nat) (hs : s ≤ 24) : byR (pv_w8 (pv_w8 (B >>> s).toInt)) (B.sshiftRight s &&& 255#32).toInt := by
  rw [and255 B s hs]
  have e1 : (B >>> s &&& 255#32).toNat = (B >>> s).toNat % 256 := by
    rw [BitVec.toNat_and]
    exact Nat.and_two_pow_sub_one_eq_mod _ 8
  have e2 : (B >>> s &&& 255#32).toInt = (((B >>> s).toNat % 256 : Nat) : Int) := by
    rw [BitVec.toInt_eq_toNat_of_lt (by rw [e1]; omega), e1]
  have e3 : pv_w8 (pv_w8 (B >>> s).toInt) = Int.bmod ((B >>> s).toNat : Int) 256 := by
    unfold pv_w8
    rw [Int8.toInt_ofInt, Int8.toInt_ofInt, BitVec.toInt_eq_toNat_bmod]
    rw [Int.bmod_bmod]
    exact Int.bmod_bmod_of_dvd (by decide)
  rw [e2, e3]
  unfold byR
  generalize (B >>> s).toNat = t
  refine ⟨by omega, by omega, ?_⟩
  unfold Int.bmod
  by_cases q : t % 256 < 128
  · rw [if_pos (by omega)]
    rw [if_pos (by omega)]
    omega
  · rw [if_neg (by omega)]
    rw [if_neg (by omega)]
    omega
def bC (a : Int) (j : Nat) : Int := pv_w8 (pv_w8 (pv_ushr a (24 - 8 * (j : Int))))
def bM (a : Int) (j : Nat) : Int := pv_and (pv_shr a (24 - 8 * (j : Int))) 255
theorem byte_j (a : Int) (j : Nat) (hj : j < 4) : byR (bC a j) (bM a j) := by
  have h : j = 0 ∨ j = 1 ∨ j = 2 ∨ j = 3 := by omega
  unfold bC bM pv_and pv_ushr pv_shr
  rw [Int32.ofInt_toInt]
  generalize Int32.ofInt a = X
  rcases h with rfl | rfl | rfl | rfl
  · exact byte_s X.toBitVec 24 (by omega)
  · exact byte_s X.toBitVec 16 (by omega)
  · exact byte_s X.toBitVec 8 (by omega)
  · exact byte_s X.toBitVec 0 (by omega)
/-- THE TAPE alone has changed -/
theorem SSz.tape {hc hm hc' hm' : pv_H} (S : SSz hc hm) (f : ∀ i k, i ≠ 19 → ¬ (i = 1 ∧ k = 0) → hc' i k = hc i k) (g : ∀ i k, i ≠ 4 → ¬ (i = 0 ∧ k = 6) → hm' i k = hm i k) (r : tapeR hc' hm') : SSz hc' hm' := by
  obtain ⟨a1, a2, a4, a5, a6, a7, a8⟩ := S
  refine ⟨r, ?_, a4.congr (fun d k hr => ?_) (fun k hk => ?_), fun i hi => ?_, fun k hk => ?_, fun j hj => ?_, ?_⟩
  · rw [f _ _ (by omega) (by omega), f _ _ (by omega) (by omega), g _ _ (by omega) (by omega), g _ _ (by omega) (by omega)]; exact a2
  · have := rel_lt hr
    exact f _ _ (by omega) (by omega)
  · exact g _ _ (by omega) (by omega)
  · obtain ⟨h1, h2, h3⟩ := a5 i hi
    unfold imgR
    rw [f _ _ (by omega) (by omega), g _ _ (by omega) (by omega)]
    refine ⟨h1, h2, fun q => (h3 q).congr (fun d k hr => ?_) (fun k hk => ?_)⟩
    · have := rel_lt hr
      exact f _ _ (by omega) (by omega)
    · exact g _ _ (by omega) (by omega)
  · have b := a6 k hk
    unfold rowR at b ⊢
    rw [f _ _ (by omega) (by omega), f _ _ (by omega) (by omega), f _ _ (by omega) (by omega), g _ _ (by omega) (by omega), g _ _ (by omega) (by omega)]
    rcases b with b | ⟨b1, b2, b3, b4, b5, b6, b7, b8⟩
    · exact Or.inl b
    · refine Or.inr ⟨b1, b2, b3, b4, b5, b6, b7, fun i hi => ?_⟩
      rw [f _ _ (by omega) (by omega), g _ _ (by omega) (by omega)]
      exact b8 i hi
  · rw [f _ _ (by omega) (by omega), g _ _ (by omega) (by omega)]; exact a7 j hj
  · rw [g _ _ (by omega) (by omega)]; exact a8
theorem put_l {N : Nat} {a : Int} {n : Nat} (hn : n + 4 ≤ 400) {h0 : pv_H} : ∀ (f j : Nat) (h : pv_H), j ≤ 4 → 4 < j + f → h 1 0 = ((n + j : Nat) : Int) → (∀ x y, ¬ (x = 19 ∧ n ≤ y ∧ y < n + 4) → ¬ (x = 1 ∧ y = 0) → h x y = h0 x y) → (∀ i, i < j → h 19 (n + i) = bC a i) → wpz (fX4_put_3 N a f (24 - 8 * (j : Int)) h) fun h' => h' 1 0 = ((n + 4 : Nat) : Int) ∧ (∀ x y, ¬ (x = 19 ∧ n ≤ y ∧ y < n + 4) → ¬ (x = 1 ∧ y = 0) → h' x y = h0 x y) ∧ ∀ i, i < 4 → h' 19 (n + i) = bC a i := by
  intro f
  induction f with
  | zero => intro j h h1 h2; omega
  | succ f ih =>
    intro j h h1 h2 h3 h4 h5
    rw [fX4_put_3]
    by_cases q : j = 4
    · subst q
      rw [if_pos (by omega)]
      exact wp_some.mpr ⟨h3, h4, h5⟩
    · have e0 : Int.toNat ((n + j : Nat) : Int) = n + j := tnc _
      simp (disch := omega) only [if_neg, if_pos, h3, e0, bbs, pu_ne, pv_w_id]
      have e : 24 - 8 * (j : Int) + -8 = 24 - 8 * ((j + 1 : Nat) : Int) := by omega
      rw [e]
      refine ih (j + 1) _ (by omega) (by omega) ?_ (fun x y n1 n2 => ?_) (fun i hi => ?_)
      · rw [pv_up_self]; omega
      · rw [pv_up_ne (by omega), pv_up_ne (by omega)]
        exact h4 x y n1 n2
      · rw [pv_up_ne (by omega)]
        by_cases e : i = j
        · subst e
          rw [pv_up_self]; rfl
        · rw [pv_up_ne (by omega)]
          exact h5 i (by omega)
theorem put_C4 {N : Nat} {a : Int} {n : Nat} (hN : 10 ≤ N) (hn : n + 4 ≤ 400) {h : pv_H} (e : h 1 0 = (n : Int)) : wpz (fX4_put N a h) fun h' => h' 1 0 = ((n + 4 : Nat) : Int) ∧ (∀ x y, ¬ (x = 19 ∧ n ≤ y ∧ y < n + 4) → ¬ (x = 1 ∧ y = 0) → h' x y = h x y) ∧ ∀ i, i < 4 → h' 19 (n + i) = bC a i :=
  put_l hn N 0 h (by omega) (by omega) e (fun x y _ _ => rfl) (fun i hi => absurd hi (Nat.not_lt_zero i))
def pk (a b c d e : Int) (j : Nat) : Int := if j < 4 then a else if j < 8 then b else if j < 12 then c else if j < 16 then d else e
theorem feed_l {N : Nat} {a b c d e : Int} {n : Nat} (hn : n + 20 ≤ 400) {h0 : pv_H} : ∀ (f j : Nat) (h : pv_H), j ≤ 20 → 20 < j + f → h 0 6 = ((n + j : Nat) : Int) → (∀ x y, ¬ (x = 4 ∧ n ≤ y ∧ y < n + 20) → ¬ (x = 0 ∧ y = 6) → h x y = h0 x y) → (∀ i, i < j → h 4 (n + i) = bM (pk a b c d e i) (i % 4)) → wpz (fX10_feed_28 N a b c d e f (j : Int) h) fun r => r.2 = ((n + 20 : Nat) : Int) ∧ r.1 0 6 = ((n + 20 : Nat) : Int) ∧ (∀ x y, ¬ (x = 4 ∧ n ≤ y ∧ y < n + 20) → ¬ (x = 0 ∧ y = 6) → r.1 x y = h0 x y) ∧ ∀ i, i < 20 → r.1 4 (n + i) = bM (pk a b c d e i) (i % 4) := by
  intro f
  induction f with
  | zero => intro j h h1 h2; omega
  | succ f ih =>
    intro j h h1 h2 h3 h4 h5
    rw [fX10_feed_28]
    by_cases q : 20 ≤ j
    · have : j = 20 := by omega
      subst this
      rw [if_pos (by omega)]
      exact wp_some.mpr ⟨h3, h3, h4, h5⟩
    · rw [if_neg (by omega)]
      have step : ∀ v, v = pk a b c d e j → wpz (fX10_feed_81 N (fun v6_ hh => fX10_feed_28 N a b c d e f v6_ hh) a b c d e (j : Int) v h) fun r => r.2 = ((n + 20 : Nat) : Int) ∧ r.1 0 6 = ((n + 20 : Nat) : Int) ∧ (∀ x y, ¬ (x = 4 ∧ n ≤ y ∧ y < n + 20) → ¬ (x = 0 ∧ y = 6) → r.1 x y = h0 x y) ∧ ∀ i, i < 20 → r.1 4 (n + i) = bM (pk a b c d e i) (i % 4) := by
        intro v hv
        unfold fX10_feed_81
        have e0 : Int.toNat ((n + j : Nat) : Int) = n + j := tnc _
        have em : (j : Int) % 4 = ((j % 4 : Nat) : Int) := by omega
        simp (disch := omega) only [if_pos, h3, e0, bbs, pu_ne, pv_w_id, tmn, em]
        refine ih (j + 1) _ (by omega) (by omega) ?_ (fun x y n1 n2 => ?_) (fun i hi => ?_)
        · rw [pv_up_self]; omega
        · rw [pv_up_ne (by omega), pv_up_ne (by omega)]
          exact h4 x y n1 n2
        · rw [pv_up_ne (by omega)]
          by_cases e : i = j
          · subst e
            rw [pv_up_self, ← hv]; rfl
          · rw [pv_up_ne (by omega)]
            exact h5 i (by omega)
      by_cases q4 : 4 ≤ j
      · rw [if_pos (by omega)]
        by_cases q8 : 8 ≤ j
        · rw [if_pos (by omega)]
          by_cases q12 : 12 ≤ j
          · rw [if_pos (by omega)]
            by_cases q16 : 16 ≤ j
            · rw [if_pos (by omega)]
              exact step _ (by unfold pk; simp (disch := omega) only [if_neg])
            · rw [if_neg (by omega)]
              exact step _ (by unfold pk; simp (disch := omega) only [if_neg, if_pos])
          · rw [if_neg (by omega)]
            exact step _ (by unfold pk; simp (disch := omega) only [if_neg, if_pos])
        · rw [if_neg (by omega)]
          exact step _ (by unfold pk; simp (disch := omega) only [if_neg, if_pos])
      · rw [if_neg (by omega)]
        exact step _ (by unfold pk; simp (disch := omega) only [if_pos])
theorem s_feed : sm_feed SSz := by
  intro hc hm S a b c d e _ _ _ _ _
  refine two_th S fun hm S => ?_
  unfold fX9_feed
  obtain ⟨t1, t2, t3, t4⟩ := id S.1
  obtain ⟨n, en⟩ := Int.eq_ofNat_of_zero_le t2
  rw [t1, en, pv_w_id (by omega) (by omega)]
  by_cases q : n + 20 ≤ 400
  · rw [if_pos (by omega), if_pos (by omega)]
    refine wp_c1I (put_C4 (n := n) (by decide) (by omega) (by omega)) (fun h1 ⟨a1, a2, a3⟩ => ?_)
    refine wp_c1I (put_C4 (n := n + 4) (by decide) (by omega) a1) (fun h2 ⟨b1, b2, b3⟩ => ?_)
    refine wp_c1I (put_C4 (n := n + 8) (by decide) (by omega) b1) (fun h3 ⟨c1, c2, c3⟩ => ?_)
    refine wp_c1I (put_C4 (n := n + 12) (by decide) (by omega) c1) (fun h4 ⟨d1, d2, d3⟩ => ?_)
    refine wp_c1I (put_C4 (n := n + 16) (by decide) (by omega) d1) (fun h5 ⟨e1, e2, e3⟩ => ?_)
    refine wp_some.mpr (wp_mono (feed_l (N := pv_NN) (a := a) (b := b) (c := c) (d := d) (e := e) (n := n) (h0 := hm) q pv_NN 0 hm (by omega) (by unfold pv_NN; omega) (by rw [en]; rfl) (fun x y _ _ => rfl) (fun i hi => absurd hi (Nat.not_lt_zero i))) ?_)
    rintro ⟨hm', r⟩ ⟨m0, m1, m2, m3⟩
    dsimp only at m0 m1 m2 m3 ⊢
    have fr1 : ∀ x y, ¬ (x = 19 ∧ n ≤ y ∧ y < n + 20) → ¬ (x = 1 ∧ y = 0) → h5 x y = hc x y := fun x y n1 n2 => by
      rw [e2 _ _ (by omega) n2, d2 _ _ (by omega) n2, c2 _ _ (by omega) n2, b2 _ _ (by omega) n2, a2 _ _ (by omega) n2]
    have by5 : ∀ i, i < 20 → byR (h5 19 (n + i)) (hm' 4 (n + i)) := by
      intro i hi
      rw [m3 i hi]
      have key : h5 19 (n + i) = bC (pk a b c d e i) (i % 4) := by
        unfold pk
        by_cases q1 : i < 4
        · have z := a3 i q1
          rw [e2 _ _ (by omega) (by omega), d2 _ _ (by omega) (by omega), c2 _ _ (by omega) (by omega), b2 _ _ (by omega) (by omega), z, if_pos q1]
          congr 1; omega
        · by_cases q2 : i < 8
          · have z := b3 (i - 4) (by omega)
            have x : n + 4 + (i - 4) = n + i := by omega
            rw [x] at z
            rw [e2 _ _ (by omega) (by omega), d2 _ _ (by omega) (by omega), c2 _ _ (by omega) (by omega), z, if_neg q1, if_pos q2]
            congr 1; omega
          · by_cases q3 : i < 12
            · have z := c3 (i - 8) (by omega)
              have x : n + 8 + (i - 8) = n + i := by omega
              rw [x] at z
              rw [e2 _ _ (by omega) (by omega), d2 _ _ (by omega) (by omega), z, if_neg q1, if_neg q2, if_pos q3]
              congr 1; omega
            · by_cases q4 : i < 16
              · have z := d3 (i - 12) (by omega)
                have x : n + 12 + (i - 12) = n + i := by omega
                rw [x] at z
                rw [e2 _ _ (by omega) (by omega), z, if_neg q1, if_neg q2, if_neg q3, if_pos q4]
                congr 1; omega
              · have z := e3 (i - 16) (by omega)
                have x : n + 16 + (i - 16) = n + i := by omega
                rw [x] at z
                rw [z, if_neg q1, if_neg q2, if_neg q3, if_neg q4]
                congr 1; omega
      rw [key]
      exact byte_j _ _ (by omega)
    refine ⟨by rw [m0, e1], S.tape (fun i k n1 n2 => fr1 _ _ (by omega) n2) (fun i k n1 n2 => m2 _ _ (by omega) n2) ⟨by rw [e1, m1], by omega, by omega, fun i hi => ?_⟩⟩
    by_cases z : i < n
    · rw [fr1 _ _ (by omega) (by omega), m2 _ _ (by omega) (by omega)]
      exact t4 i (by omega)
    · have := by5 (i - n) (by omega)
      have x : n + (i - n) = i := by omega
      rw [x] at this
      exact this
  · rw [if_neg (by omega), if_neg (by omega)]
    exact no5 S
