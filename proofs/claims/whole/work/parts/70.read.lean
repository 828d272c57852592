/-! TOKENS of texts, both: bytes, blanks, letters, digits -/
def RBz (L : Nat) (hc hm : pv_H) : Prop := L ≤ 400 ∧ hc 1 9 = (L : Int) ∧ hm 0 9 = (L : Int) ∧ ∀ i, i < L → byR (hc 19 i) (hm 4 i)
section BYTES
variable {N L : Nat} {hc hm hc' hm' : pv_H}
theorem RBz.frm (R : RBz L hc hm) (f : ∀ x y, x = 1 ∧ y = 9 ∨ x = 19 → hc' x y = hc x y) (g : ∀ x y, x = 0 ∧ y = 9 ∨ x = 4 → hm' x y = hm x y) : RBz L hc' hm' := by
  obtain ⟨r1, r2, r3, r4⟩ := R
  refine ⟨r1, by rw [f _ _ (by omega)]; exact r2, by rw [g _ _ (by omega)]; exact r3, fun i hi => ?_⟩
  rw [f _ _ (by omega), g _ _ (by omega)]
  exact r4 i hi
theorem byR.eqc {x y c : Int} (b : byR x y) (c0 : 0 ≤ c) (c1 : c < 128) : x = c ↔ y = c := by
  obtain ⟨b1, b2, b3⟩ := b
  by_cases z : y < 128
  · rw [if_pos z] at b3; omega
  · rw [if_neg z] at b3; omega
theorem byR.rng {x y c d : Int} (b : byR x y) (c0 : 0 ≤ c) (d1 : d < 128) : (c ≤ x ∧ x ≤ d) ↔ (c ≤ y ∧ y ≤ d) := by
  obtain ⟨b1, b2, b3⟩ := b
  by_cases z : y < 128
  · rw [if_pos z] at b3; omega
  · rw [if_neg z] at b3; omega
theorem byR.low {x y : Int} (b : byR x y) (h : y < 128) : x = y := by
  obtain ⟨b1, b2, b3⟩ := b
  rw [if_pos h] at b3
  exact b3
theorem see_M {q : Nat} (e9 : hm 0 9 = (L : Int)) (h : L ≤ 400) : fX10_see N (q : Int) hm = some (if L ≤ q then -1 else hm 4 q) := by
  unfold fX10_see fX10_see_18
  rw [e9]
  by_cases z : L ≤ q
  · rw [if_pos (by omega), if_pos z]
  · rw [if_neg (by omega), if_pos (by omega), tnc, if_neg z]
theorem small_M {c : Int} : fX10_isSmall N c hm = some (if 97 ≤ c ∧ c ≤ 122 then 1 else 0) := by
  unfold fX10_isSmall fX10_isSmall_16 fX10_isSmall_17
  by_cases z : c < 97
  · rw [if_pos z, if_pos (Or.inl rfl), if_neg (by omega)]
  · rw [if_neg z]
    by_cases y : 122 < c
    · rw [if_pos y, if_pos (Or.inl rfl), if_neg (by omega)]
    · rw [if_neg y, if_pos (Or.inr rfl), if_pos (by omega)]
theorem digit_M {c : Int} : fX10_isDigit N c hm = some (if 48 ≤ c ∧ c ≤ 57 then 1 else 0) := by
  unfold fX10_isDigit fX10_isDigit_16 fX10_isDigit_17
  by_cases z : c < 48
  · rw [if_pos z, if_pos (Or.inl rfl), if_neg (by omega)]
  · rw [if_neg z]
    by_cases y : 57 < c
    · rw [if_pos y, if_pos (Or.inl rfl), if_neg (by omega)]
    · rw [if_neg y, if_pos (Or.inr rfl), if_pos (by omega)]
theorem letter_C {q : Nat} (h : q < 400) : fX4_isLetter N (q : Int) hc = some (if 97 ≤ hc 19 q ∧ hc 19 q ≤ 122 then 1 else 0) := by
  unfold fX4_isLetter fX4_isLetter_26 fX4_isLetter_27
  rw [if_pos (by omega), tnc]
  by_cases z : hc 19 q < 97
  · rw [if_pos z, if_pos (Or.inl rfl), if_neg (by omega)]
  · rw [if_neg z, if_pos (by omega)]
    by_cases y : 122 < hc 19 q
    · rw [if_pos y, if_pos (Or.inl rfl), if_neg (by omega)]
    · rw [if_neg y, if_pos (Or.inr rfl), if_pos (by omega)]
theorem digit_C {q : Nat} (h : q < 400) : fX4_isDigit N (q : Int) hc = some (if 48 ≤ hc 19 q ∧ hc 19 q ≤ 57 then 1 else 0) := by
  unfold fX4_isDigit fX4_isDigit_26 fX4_isDigit_27
  rw [if_pos (by omega), tnc]
  by_cases z : hc 19 q < 48
  · rw [if_pos z, if_pos (Or.inl rfl), if_neg (by omega)]
  · rw [if_neg z, if_pos (by omega)]
    by_cases y : 57 < hc 19 q
    · rw [if_pos y, if_pos (Or.inl rfl), if_neg (by omega)]
    · rw [if_neg y, if_pos (Or.inr rfl), if_pos (by omega)]
theorem i10 {p : Prop} [Decidable p] : (if p then (1 : Int) else 0) = 0 ↔ ¬ p := by
  by_cases z : p
  · rw [if_pos z]; exact ⟨fun y => by omega, fun y => absurd z y⟩
  · rw [if_neg z]; exact ⟨fun _ => z, fun _ => rfl⟩
/-- blanks, both -/
theorem skip_2 : ∀ (d q f f' : Nat) (hc hm : pv_H), q + d = L → d < f → d < f' → RBz L hc hm → hc 1 10 = (q : Int) → hm 0 7 = (q : Int) → ∃ (q' g g' : Nat) (hc' hm' : pv_H), q ≤ q' ∧ q' ≤ L ∧ 0 < g ∧ 0 < g' ∧ fX4_next_0 N f hc = fX4_next_0 N g hc' ∧ fX10_next_8 N f' hm = fX10_next_8 N g' hm' ∧ hc' 1 10 = (q' : Int) ∧ hm' 0 7 = (q' : Int) ∧ (∀ x y, ¬ (x = 1 ∧ y = 10) → hc' x y = hc x y) ∧ (∀ x y, ¬ (x = 0 ∧ y = 7) → hm' x y = hm x y) ∧ (q' < L → hm' 4 q' ≠ 10 ∧ hm' 4 q' ≠ 32) := by
  intro d
  induction d with
  | zero =>
    intro q f f' hc hm h1 h2 h3 R e1 e2
    exact ⟨q, f, f', hc, hm, Nat.le_refl _, by omega, by omega, by omega, rfl, rfl, e1, e2, fun _ _ _ => rfl, fun _ _ _ => rfl, fun z => by omega⟩
  | succ d ih =>
    intro q f f' hc hm h1 h2 h3 R e1 e2
    obtain ⟨r1, r2, r3, r4⟩ := id R
    have b := r4 q (by omega)
    by_cases z : hm 4 q = 10 ∨ hm 4 q = 32
    · obtain ⟨f, rfl⟩ : ∃ g, f = g + 1 := ⟨f - 1, by omega⟩
      obtain ⟨f', rfl⟩ : ∃ g, f' = g + 1 := ⟨f' - 1, by omega⟩
      have eC : fX4_next_0 N (f + 1) hc = fX4_next_0 N f (pv_up hc 1 10 ((q + 1 : Nat) : Int)) := by
        have e39 : fX4_next_39 N (fun hh => fX4_next_0 N f hh) hc = fX4_next_0 N f (pv_up hc 1 10 ((q + 1 : Nat) : Int)) := by
          unfold fX4_next_39
          rw [bbs, e1, pws (by omega)]
        rw [fX4_next_0, r2, e1, if_neg (by omega), if_pos (by omega), tnc, e39]
        by_cases y : hm 4 q = 32
        · rw [if_pos ((b.eqc (by omega) (by omega)).mpr y)]
        · rw [if_neg (fun u => y ((b.eqc (by omega) (by omega)).mp u)), if_pos (by omega), if_pos ((b.eqc (by omega) (by omega)).mpr (by omega))]
      have eM : fX10_next_8 N (f' + 1) hm = fX10_next_8 N f' (pv_up hm 0 7 ((q + 1 : Nat) : Int)) := by
        have e34 : fX10_next_34 N (fun hh => fX10_next_8 N f' hh) hm = fX10_next_8 N f' (pv_up hm 0 7 ((q + 1 : Nat) : Int)) := by
          unfold fX10_next_34
          rw [bbs, e2, pws (by omega)]
        rw [fX10_next_8, e2, see_M r3 r1, c1s, c1s, if_neg (show ¬ L ≤ q by omega), e34]
        by_cases y : hm 4 q = 10
        · rw [if_pos y]
        · rw [if_neg y, if_pos (by omega)]
      rw [eC, eM]
      obtain ⟨q', g, g', hc', hm', x1, x2, x3, x4, x5, x6, x7, x8, x9, x10, x11⟩ := ih (q + 1) f f' (pv_up hc 1 10 ((q + 1 : Nat) : Int)) (pv_up hm 0 7 ((q + 1 : Nat) : Int)) (by omega) (by omega) (by omega) (R.frm (fun x y u => pv_up_ne (by omega)) (fun x y u => pv_up_ne (by omega))) (pv_up_self _ _ _ _) (pv_up_self _ _ _ _)
      exact ⟨q', g, g', hc', hm', by omega, x2, x3, x4, x5, x6, x7, x8, fun x y np => by rw [x9 x y np, pv_up_ne (by omega)], fun x y np => by rw [x10 x y np, pv_up_ne (by omega)], x11⟩
    · exact ⟨q, f, f', hc, hm, Nat.le_refl _, by omega, by omega, by omega, rfl, rfl, e1, e2, fun _ _ _ => rfl, fun _ _ _ => rfl, fun _ => by omega⟩
/-- letters, both -/
theorem lets_2 : ∀ (d q f f' : Nat) (hc hm : pv_H), q + d = L → d < f → d < f' → RBz L hc hm → hc 1 10 = (q : Int) → hm 0 8 = (q : Int) → ∃ (e : Nat) (hc' hm' : pv_H), q ≤ e ∧ e ≤ L ∧ fX4_next_91 N f hc = fX4_next_126 N hc' ∧ fX10_next_89 N f' hm = (pv_c1 (fX10_keyAt N hm') fun r50 => pv_b (pv_up hm' 0 10 r50) fun h51 => fX10_next_306 N h51) ∧ hc' 1 10 = (e : Int) ∧ hm' 0 8 = (e : Int) ∧ (∀ x y, ¬ (x = 1 ∧ y = 10) → hc' x y = hc x y) ∧ (∀ x y, ¬ (x = 0 ∧ y = 8) → hm' x y = hm x y) ∧ (q < L → 97 ≤ hm 4 q ∧ hm 4 q ≤ 122 → q < e) ∧ ∀ i, q ≤ i → i < e → 97 ≤ hm 4 i ∧ hm 4 i ≤ 122 := by
  intro d
  induction d with
  | zero =>
    intro q f f' hc hm h1 h2 h3 R e1 e2
    obtain ⟨f, rfl⟩ : ∃ g, f = g + 1 := ⟨f - 1, by omega⟩
    obtain ⟨f', rfl⟩ : ∃ g, f' = g + 1 := ⟨f' - 1, by omega⟩
    obtain ⟨r1, r2, r3, r4⟩ := id R
    refine ⟨q, hc, hm, Nat.le_refl _, by omega, ?_, ?_, e1, e2, fun _ _ _ => rfl, fun _ _ _ => rfl, fun z => by omega, fun i a b => by omega⟩
    · rw [fX4_next_91, r2, e1, if_pos (by omega)]
    · rw [fX10_next_89, e2, see_M r3 r1, c1s, small_M, c1s, if_pos (show L ≤ q by omega), if_pos (i10.mpr (by omega))]
  | succ d ih =>
    intro q f f' hc hm h1 h2 h3 R e1 e2
    obtain ⟨f, rfl⟩ : ∃ g, f = g + 1 := ⟨f - 1, by omega⟩
    obtain ⟨f', rfl⟩ : ∃ g, f' = g + 1 := ⟨f' - 1, by omega⟩
    obtain ⟨r1, r2, r3, r4⟩ := id R
    have b := (r4 q (by omega)).rng (c := 97) (d := 122) (by omega) (by omega)
    have eC : fX4_next_91 N (f + 1) hc = if 97 ≤ hm 4 q ∧ hm 4 q ≤ 122 then fX4_next_91 N f (pv_up hc 1 10 ((q + 1 : Nat) : Int)) else fX4_next_126 N hc := by
      rw [fX4_next_91, r2, e1, if_neg (by omega), letter_C (by omega), c1s]
      by_cases z : 97 ≤ hm 4 q ∧ hm 4 q ≤ 122
      · rw [if_neg (fun u => i10.mp u (b.mpr z)), if_pos z, bbs, pws (by omega)]
      · rw [if_pos (i10.mpr (fun u => z (b.mp u))), if_neg z]
    have eM : fX10_next_89 N (f' + 1) hm = if 97 ≤ hm 4 q ∧ hm 4 q ≤ 122 then fX10_next_89 N f' (pv_up hm 0 8 ((q + 1 : Nat) : Int)) else (pv_c1 (fX10_keyAt N hm) fun r50 => pv_b (pv_up hm 0 10 r50) fun h51 => fX10_next_306 N h51) := by
      rw [fX10_next_89, e2, see_M r3 r1, c1s, small_M, c1s, if_neg (show ¬ L ≤ q by omega)]
      by_cases z : 97 ≤ hm 4 q ∧ hm 4 q ≤ 122
      · rw [if_neg (fun u => i10.mp u z), if_pos z, bbs, pws (by omega)]
      · rw [if_pos (i10.mpr z), if_neg z]
    by_cases z : 97 ≤ hm 4 q ∧ hm 4 q ≤ 122
    · rw [eC, eM, if_pos z, if_pos z]
      obtain ⟨e, hc', hm', x1, x2, x3, x4, x5, x6, x7, x8, x9, x10⟩ := ih (q + 1) f f' (pv_up hc 1 10 ((q + 1 : Nat) : Int)) (pv_up hm 0 8 ((q + 1 : Nat) : Int)) (by omega) (by omega) (by omega) (R.frm (fun x y u => pv_up_ne (by omega)) (fun x y u => pv_up_ne (by omega))) (pv_up_self _ _ _ _) (pv_up_self _ _ _ _)
      refine ⟨e, hc', hm', by omega, x2, x3, x4, x5, x6, fun x y np => by rw [x7 x y np, pv_up_ne (by omega)], fun x y np => by rw [x8 x y np, pv_up_ne (by omega)], fun _ _ => by omega, fun i a b => ?_⟩
      by_cases y : i = q
      · subst y; exact z
      · have := x10 i (by omega) b
        rw [pv_up_ne (by omega)] at this
        exact this
    · rw [eC, eM, if_neg z, if_neg z]
      exact ⟨q, hc, hm, Nat.le_refl _, by omega, rfl, rfl, e1, e2, fun _ _ _ => rfl, fun _ _ _ => rfl, fun _ y => absurd y z, fun i a b => by omega⟩
/-- digits, both -/
theorem digs_2 {s : Nat} : ∀ (d q f f' : Nat) (hc hm : pv_H), q + d = L → d < f → d < f' → s ≤ q → RBz L hc hm → hc 1 10 = (q : Int) → hm 0 8 = (q : Int) → hc 1 12 = (s : Int) → hm 0 7 = (s : Int) → hc 1 13 = hm 0 11 → 0 ≤ hm 0 11 → (q = s → hm 0 11 = 0) → (q = s + 1 → hm 0 11 ≤ 9) → (q = s + 2 → hm 0 11 ≤ 99) → hm 0 11 ≤ 999 → hc 1 11 = 41 → ∃ (e : Nat) (hc' hm' : pv_H), q ≤ e ∧ e ≤ L ∧ fX4_takeNumber_11 N f hc = some hc' ∧ fX10_next_146 N f' hm = some hm' ∧ hc' 1 10 = (e : Int) ∧ hm' 0 8 = (e : Int) ∧ hc' 1 13 = hm' 0 11 ∧ 0 ≤ hm' 0 11 ∧ hm' 0 11 ≤ 999 ∧ (hc' 1 11 = 41 ∧ hm' 0 10 = 38 ∨ hc' 1 11 = 46 ∧ hm' 0 10 = 43) ∧ (∀ x y, ¬ (x = 1 ∧ (y = 10 ∨ y = 11 ∨ y = 13)) → hc' x y = hc x y) ∧ (∀ x y, ¬ (x = 0 ∧ (y = 8 ∨ y = 10 ∨ y = 11)) → hm' x y = hm x y) ∧ (q < L → 48 ≤ hm 4 q ∧ hm 4 q ≤ 57 → q < e) := by
  intro d
  induction d with
  | zero =>
    intro q f f' hc hm h1 h2 h3 sq R e1 e2 e3 e4 e5 n0 n1 n2 n3 n4 et
    obtain ⟨f, rfl⟩ : ∃ g, f = g + 1 := ⟨f - 1, by omega⟩
    obtain ⟨f', rfl⟩ : ∃ g, f' = g + 1 := ⟨f' - 1, by omega⟩
    obtain ⟨r1, r2, r3, r4⟩ := id R
    have ew : pv_w ((q : Int) - (s : Int)) = (q : Int) - (s : Int) := pv_w_id (by omega) (by omega)
    have eC : fX4_takeNumber_11 N (f + 1) hc = fX4_takeNumber_100 N hc := by rw [fX4_takeNumber_11, r2, e1, if_pos (by omega)]
    have eM : fX10_next_146 N (f' + 1) hm = if (q : Int) - (s : Int) ≤ 3 then fX10_next_230 N 38 hm else fX10_next_230 N 43 hm := by
      rw [fX10_next_146, e2, see_M r3 r1, c1s, digit_M, c1s, if_pos (show L ≤ q by omega), if_pos (i10.mpr (by omega)), e4, ew]
    rw [eC, eM]
    unfold fX4_takeNumber_100 fX4_takeNumber_119 fX10_next_230 fX10_next_306
    rw [e1, e3, ew]
    by_cases z : (q : Int) - (s : Int) ≤ 3
    · rw [if_pos z, if_pos z, bbs]
      refine ⟨q, hc, _, Nat.le_refl _, by omega, rfl, rfl, e1, ?_, ?_, ?_, ?_, Or.inl ⟨et, pv_up_self _ _ _ _⟩, fun _ _ _ => rfl, fun x y np => pv_up_ne (by omega), fun y => by omega⟩
      · rw [pv_up_ne (by omega)]; exact e2
      · rw [pv_up_ne (by omega)]; exact e5
      · rw [pv_up_ne (by omega)]; exact n0
      · rw [pv_up_ne (by omega)]; exact n4
    · rw [if_neg z, if_neg z, bbs, bbs]
      refine ⟨q, _, _, Nat.le_refl _, by omega, rfl, rfl, ?_, ?_, ?_, ?_, ?_, Or.inr ⟨pv_up_self _ _ _ _, pv_up_self _ _ _ _⟩, fun x y np => pv_up_ne (by omega), fun x y np => pv_up_ne (by omega), fun y => by omega⟩
      · rw [pv_up_ne (by omega)]; exact e1
      · rw [pv_up_ne (by omega)]; exact e2
      · rw [pv_up_ne (by omega), pv_up_ne (by omega)]; exact e5
      · rw [pv_up_ne (by omega)]; exact n0
      · rw [pv_up_ne (by omega)]; exact n4
  | succ d ih =>
    intro q f f' hc hm h1 h2 h3 sq R e1 e2 e3 e4 e5 n0 n1 n2 n3 n4 et
    obtain ⟨f, rfl⟩ : ∃ g, f = g + 1 := ⟨f - 1, by omega⟩
    obtain ⟨f', rfl⟩ : ∃ g, f' = g + 1 := ⟨f' - 1, by omega⟩
    obtain ⟨r1, r2, r3, r4⟩ := id R
    have by4 := r4 q (by omega)
    have b := by4.rng (c := 48) (d := 57) (by omega) (by omega)
    have ew : pv_w ((q : Int) - (s : Int)) = (q : Int) - (s : Int) := pv_w_id (by omega) (by omega)
    by_cases z : 48 ≤ hm 4 q ∧ hm 4 q ≤ 57
    · have eb : hc 19 q = hm 4 q := by4.low (by omega)
      -- what the number becomes
      obtain ⟨v, hv⟩ : ∃ v, v = if 3 ≤ (q : Int) - (s : Int) then hm 0 11 else 10 * hm 0 11 + hm 4 q - 48 := ⟨_, rfl⟩
      have vb : 0 ≤ v ∧ v ≤ 999 ∧ (q + 1 = s + 1 → v ≤ 9) ∧ (q + 1 = s + 2 → v ≤ 99) := by
        rw [hv]
        by_cases y : 3 ≤ (q : Int) - (s : Int)
        · rw [if_pos y]; omega
        · rw [if_neg y]
          rcases (show q = s ∨ q = s + 1 ∨ q = s + 2 by omega) with u | u | u
          · have := n1 u; omega
          · have := n2 u; omega
          · have := n3 u; omega
      have eC : ∃ hc1, fX4_takeNumber_11 N (f + 1) hc = fX4_takeNumber_11 N f hc1 ∧ hc1 1 10 = ((q + 1 : Nat) : Int) ∧ hc1 1 13 = v ∧ ∀ x y, ¬ (x = 1 ∧ (y = 10 ∨ y = 13)) → hc1 x y = hc x y := by
        rw [fX4_takeNumber_11, r2, e1, if_neg (by omega), if_pos (by omega), tnc, if_neg (show ¬ hc 19 q < 48 by omega), if_pos (by omega), if_neg (show ¬ 57 < hc 19 q by omega), e3, ew]
        unfold fX4_takeNumber_87
        by_cases y : 3 ≤ (q : Int) - (s : Int)
        · rw [if_pos y, bbs, e1, pws (by omega)]
          exact ⟨_, rfl, pv_up_self _ _ _ _, by rw [pv_up_ne (by omega), e5, hv, if_pos y], fun x y np => pv_up_ne (by omega)⟩
        · rw [if_neg y, if_pos (by omega), eb, e5, bbs, bbs, pv_up_ne (show (1 : Nat) ≠ 1 ∨ (10 : Nat) ≠ 13 by omega), e1, pws (by omega)]
          refine ⟨_, rfl, pv_up_self _ _ _ _, ?_, fun x y np => by rw [pv_up_ne (by omega), pv_up_ne (by omega)]⟩
          rw [pv_up_ne (by omega), pv_up_self, pv_w_id (x := hm 0 11 * 10) (by omega) (by omega), pv_w_id (x := hm 4 q - 48) (by omega) (by omega), pv_w_id (by omega) (by omega), hv, if_neg y]
          omega
      have eM : ∃ hm1, fX10_next_146 N (f' + 1) hm = fX10_next_146 N f' hm1 ∧ hm1 0 8 = ((q + 1 : Nat) : Int) ∧ hm1 0 11 = v ∧ ∀ x y, ¬ (x = 0 ∧ (y = 8 ∨ y = 11)) → hm1 x y = hm x y := by
        rw [fX10_next_146, e2, see_M r3 r1, c1s, digit_M, c1s, if_neg (show ¬ L ≤ q by omega), if_neg (fun u => i10.mp u z), e4, ew, c1s]
        unfold fX10_next_196
        by_cases y : 3 ≤ (q : Int) - (s : Int)
        · rw [if_pos y, bbs, e2, pws (by omega)]
          exact ⟨_, rfl, pv_up_self _ _ _ _, by rw [pv_up_ne (by omega), hv, if_pos y], fun x y np => pv_up_ne (by omega)⟩
        · rw [if_neg y, bbs, bbs, pv_up_ne (show (0 : Nat) ≠ 0 ∨ (8 : Nat) ≠ 11 by omega), e2, pws (by omega)]
          refine ⟨_, rfl, pv_up_self _ _ _ _, ?_, fun x y np => by rw [pv_up_ne (by omega), pv_up_ne (by omega)]⟩
          have n99 : hm 0 11 ≤ 99 := by
            rcases (show q = s ∨ q = s + 1 ∨ q = s + 2 by omega) with u | u | u
            · have := n1 u; omega
            · have := n2 u; omega
            · exact n3 u
          rw [pv_up_ne (by omega), pv_up_self, pv_w_id (x := 10 * hm 0 11) (by omega) (by omega), pv_w_id (x := 10 * hm 0 11 + hm 4 q) (by omega) (by omega), pv_w_id (by omega) (by omega), hv, if_neg y]
      obtain ⟨hc1, c1, c2, c3, c4⟩ := eC
      obtain ⟨hm1, d1, d2, d3, d4⟩ := eM
      rw [c1, d1]
      obtain ⟨e, hc', hm', x1, x2, x3, x4, x5, x6, x7, x8, x9, x10, x11, x12, x13⟩ := ih (q + 1) f f' hc1 hm1 (by omega) (by omega) (by omega) (by omega) (R.frm (fun x y u => c4 x y (by omega)) (fun x y u => d4 x y (by omega))) c2 d2 (by rw [c4 _ _ (by omega)]; exact e3) (by rw [d4 _ _ (by omega)]; exact e4) (by rw [c3, d3]) (by omega) (fun u => by omega) (fun u => by rw [d3]; exact vb.2.2.1 u) (fun u => by rw [d3]; exact vb.2.2.2 u) (by omega) (by rw [c4 _ _ (by omega)]; exact et)
      exact ⟨e, hc', hm', by omega, x2, x3, x4, x5, x6, x7, x8, x9, x10, fun x y np => by rw [x11 x y np, c4 x y (by omega)], fun x y np => by rw [x12 x y np, d4 x y (by omega)], fun _ _ => by omega⟩
    · have eC : fX4_takeNumber_11 N (f + 1) hc = fX4_takeNumber_100 N hc := by
        have nb : ¬ (48 ≤ hc 19 q ∧ hc 19 q ≤ 57) := fun u => z (b.mp u)
        rw [fX4_takeNumber_11, r2, e1, if_neg (by omega), if_pos (by omega), tnc]
        by_cases y : hc 19 q < 48
        · rw [if_pos y]
        · rw [if_neg y, if_pos (by omega), if_pos (show 57 < hc 19 q by omega)]
      have eM : fX10_next_146 N (f' + 1) hm = if (q : Int) - (s : Int) ≤ 3 then fX10_next_230 N 38 hm else fX10_next_230 N 43 hm := by
        rw [fX10_next_146, e2, see_M r3 r1, c1s, digit_M, c1s, if_neg (show ¬ L ≤ q by omega), if_pos (i10.mpr z), e4, ew]
      rw [eC, eM]
      unfold fX4_takeNumber_100 fX4_takeNumber_119 fX10_next_230 fX10_next_306
      rw [e1, e3, ew]
      by_cases y : (q : Int) - (s : Int) ≤ 3
      · rw [if_pos y, if_pos y, bbs]
        refine ⟨q, hc, _, Nat.le_refl _, by omega, rfl, rfl, e1, ?_, ?_, ?_, ?_, Or.inl ⟨et, pv_up_self _ _ _ _⟩, fun _ _ _ => rfl, fun x y np => pv_up_ne (by omega), fun _ u => absurd u z⟩
        · rw [pv_up_ne (by omega)]; exact e2
        · rw [pv_up_ne (by omega)]; exact e5
        · rw [pv_up_ne (by omega)]; exact n0
        · rw [pv_up_ne (by omega)]; exact n4
      · rw [if_neg y, if_neg y, bbs, bbs]
        refine ⟨q, _, _, Nat.le_refl _, by omega, rfl, rfl, ?_, ?_, ?_, ?_, ?_, Or.inr ⟨pv_up_self _ _ _ _, pv_up_self _ _ _ _⟩, fun x y np => pv_up_ne (by omega), fun x y np => pv_up_ne (by omega), fun _ u => absurd u z⟩
        · rw [pv_up_ne (by omega)]; exact e1
        · rw [pv_up_ne (by omega)]; exact e2
        · rw [pv_up_ne (by omega), pv_up_ne (by omega)]; exact e5
        · rw [pv_up_ne (by omega)]; exact n0
        · rw [pv_up_ne (by omega)]; exact n4
end BYTES
