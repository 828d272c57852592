/-! LOOKS as texts, both: codes -/
theorem wfs_app {g : Nat → Int} (k2 : Nat) : ∀ (k1 j n m : Nat), wfs g k1 j n = some m → wfs g (k1 + k2) j n = wfs g k2 (j + k1) m := by
  intro k1
  induction k1 with
  | zero =>
    intro j n m h
    simp only [wfs] at h
    cases h
    rw [Nat.zero_add, Nat.add_zero]
  | succ k1 ih =>
    intro j n m h
    rw [show k1 + 1 + k2 = (k1 + k2) + 1 by omega]
    rw [show j + (k1 + 1) = (j + 1) + k1 by omega]
    simp only [wfs] at h ⊢
    by_cases z : g j = 26
    · rw [if_pos z] at h ⊢
      by_cases y : 1 ≤ n
      · rw [if_pos y] at h ⊢
        exact ih _ _ _ h
      · rw [if_neg y] at h
        cases h
    · rw [if_neg z] at h ⊢
      by_cases x : g j = 24 ∨ g j = 25
      · rw [if_pos x] at h ⊢
        by_cases y : 2 ≤ n
        · rw [if_pos y] at h ⊢
          exact ih _ _ _ h
        · rw [if_neg y] at h
          cases h
      · rw [if_neg x] at h ⊢
        by_cases y : 27 ≤ g j ∧ g j ≤ 36
        · rw [if_pos y] at h ⊢
          exact ih _ _ _ h
        · rw [if_neg y] at h
          cases h
/-- codes c to c' put one value more -/
def PUz (g : Nat → Int) (c c' : Nat) : Prop := c ≤ c' ∧ ∀ n, wfs g (c' - c) c n = some (n + 1)
theorem PUz.congr {g g' : Nat → Int} {c c' : Nat} (P : PUz g c c') (h : ∀ j, c ≤ j → j < c' → g' j = g j) : PUz g' c c' := by
  obtain ⟨p1, p2⟩ := P
  refine ⟨p1, fun n => ?_⟩
  rw [wfs_congr (g := g) (c' - c) c n (fun i a b => h i a (by omega))]
  exact p2 n
theorem pu_fact {g : Nat → Int} {c : Nat} (h : 27 ≤ g c ∧ g c ≤ 36) : PUz g c (c + 1) := by
  refine ⟨by omega, fun n => ?_⟩
  rw [show c + 1 - c = 0 + 1 by omega]
  simp only [wfs]
  rw [if_neg (by omega), if_neg (by omega), if_pos h]
theorem pu_not {g : Nat → Int} {c d : Nat} (P : PUz g c d) (h : g d = 26) : PUz g c (d + 1) := by
  obtain ⟨p1, p2⟩ := P
  refine ⟨by omega, fun n => ?_⟩
  rw [show d + 1 - c = (d - c) + 1 by omega, wfs_app 1 _ _ _ _ (p2 n), show c + (d - c) = d by omega]
  simp only [wfs]
  rw [if_pos h, if_pos (by omega)]
theorem pu_two {g : Nat → Int} {c d m : Nat} (P : PUz g c d) (Q : PUz g d m) (h : g m = 24 ∨ g m = 25) : PUz g c (m + 1) := by
  obtain ⟨p1, p2⟩ := P
  obtain ⟨q1, q2⟩ := Q
  refine ⟨by omega, fun n => ?_⟩
  rw [show m + 1 - c = (d - c) + ((m - d) + 1) by omega, wfs_app _ _ _ _ _ (p2 n), show c + (d - c) = d by omega, wfs_app 1 _ _ _ _ (q2 (n + 1)), show d + (m - d) = m by omega]
  simp only [wfs]
  rw [if_neg (by omega), if_pos h, if_pos (by omega)]
  congr 1
def cdz (hm : pv_H) (j : Nat) : Int := hm 5 (17 + 2 * j)
/-- a LOOK that is being told (number v, c codes so far) -/
def QLz (v c : Nat) (hc hm : pv_H) : Prop := v < 8 ∧ hc 14 0 = (v : Int) ∧ hc 15 (v + 1) = (c : Int) ∧ hm 0 18 = (c : Int) ∧ ∀ j, j < c → hc 16 j = hm 5 (17 + 2 * j) ∧ hc 17 j = hm 5 (17 + 2 * j + 1)
def WKz (v : Nat) (hc : pv_H) : Prop := v < 8 ∧ hc 14 0 = (v : Int) ∧ 0 ≤ hc 15 (v + 1)
def KCf (v x y : Nat) : Prop := RCf x y ∨ x = 15 ∧ y = v + 1 ∨ x = 16 ∨ x = 17
def KMf (x y : Nat) : Prop := RMf x y ∨ x = 5 ∧ 17 ≤ y ∨ x = 0 ∧ (y = 17 ∨ y = 18)
def FKc (v : Nat) (hc hc' : pv_H) : Prop := ∀ x y, ¬ KCf v x y → hc' x y = hc x y
def FKm (hm hm' : pv_H) : Prop := ∀ x y, ¬ KMf x y → hm' x y = hm x y
theorem FKc.rf {v : Nat} {h : pv_H} : FKc v h h := fun _ _ _ => rfl
theorem FKm.rf {h : pv_H} : FKm h h := fun _ _ _ => rfl
theorem FKc.tr {v : Nat} {h h1 h2 : pv_H} (a : FKc v h h1) (b : FKc v h1 h2) : FKc v h h2 := fun x y n => (b x y n).trans (a x y n)
theorem FKm.tr {h h1 h2 : pv_H} (a : FKm h h1) (b : FKm h1 h2) : FKm h h2 := fun x y n => (b x y n).trans (a x y n)
theorem FKc.of {v : Nat} {h h1 : pv_H} (f : ∀ x y, ¬ RCf x y → h1 x y = h x y) : FKc v h h1 := fun x y n => f x y (fun u => n (Or.inl u))
theorem FKm.of {h h1 : pv_H} (f : ∀ x y, ¬ RMf x y → h1 x y = h x y) : FKm h h1 := fun x y n => f x y (fun u => n (Or.inl u))
theorem FKm.up17 {h0 h : pv_H} {x : Int} (F : FKm h0 h) : FKm h0 (pv_up h 0 17 x) := F.tr (fun x y np => pv_up_ne (by unfold KMf at np; omega))
theorem FTz.up17 {hc hm : pv_H} {x : Int} (F : FTz hc hm) : FTz hc (pv_up hm 0 17 x) := F.frm (fun _ _ _ => rfl) (fun x y u => pv_up_ne (by omega))
theorem TYz.up17 {L s p : Nat} {hc hm : pv_H} {x : Int} (T : TYz L s p hc hm) : TYz L s p hc (pv_up hm 0 17 x) := T.frm (fun _ _ _ => rfl) (fun x y u => pv_up_ne (by omega))
theorem QLz.frm {v c : Nat} {hc hm hc' hm' : pv_H} (Q : QLz v c hc hm) (f : ∀ x y, 14 ≤ x ∧ x ≤ 17 → hc' x y = hc x y) (g : ∀ x y, x = 5 ∨ x = 0 ∧ y = 18 → hm' x y = hm x y) : QLz v c hc' hm' := by
  obtain ⟨q1, q2, q3, q4, q5⟩ := Q
  refine ⟨q1, by rw [f _ _ (by omega)]; exact q2, by rw [f _ _ (by omega)]; exact q3, by rw [g _ _ (by omega)]; exact q4, fun j hj => ?_⟩
  rw [f 16 j (by omega), f 17 j (by omega), g 5 _ (by omega), g 5 _ (by omega)]
  exact q5 j hj
theorem QLz.rf {v c : Nat} {hc hm hc' hm' : pv_H} (Q : QLz v c hc hm) (f : ∀ x y, ¬ RCf x y → hc' x y = hc x y) (g : ∀ x y, ¬ RMf x y → hm' x y = hm x y) : QLz v c hc' hm' := Q.frm (fun x y u => f x y (by unfold RCf; omega)) (fun x y u => g x y (by unfold RMf; omega))
theorem QLz.up17 {v c : Nat} {hc hm : pv_H} {x : Int} (Q : QLz v c hc hm) : QLz v c hc (pv_up hm 0 17 x) := Q.frm (fun _ _ _ => rfl) (fun x y u => pv_up_ne (by omega))
theorem QLz.W {v c : Nat} {hc hm : pv_H} (Q : QLz v c hc hm) : WKz v hc := ⟨Q.1, Q.2.1, by have := Q.2.2.1; omega⟩
theorem WKz.rf {v : Nat} {hc hc' : pv_H} (W : WKz v hc) (f : ∀ x y, ¬ RCf x y → hc' x y = hc x y) : WKz v hc' := by
  obtain ⟨w1, w2, w3⟩ := W
  exact ⟨w1, by rw [f _ _ (by unfold RCf; omega)]; exact w2, by rw [f _ _ (by unfold RCf; omega)]; exact w3⟩
section CODES
variable {N L v c : Nat} {hc hm : pv_H} {w x : Int}
theorem emit_2 (Q : QLz v c hc hm) (c199 : c ≤ 199) : ∃ hc' hm', fX3_tell N 14 w x hc = some hc' ∧ fX10_emit N w x hm = some hm' ∧ QLz v (c + 1) hc' hm' ∧ cdz hm' c = w ∧ (∀ a b, ¬ (a = 15 ∧ b = v + 1 ∨ (a = 16 ∨ a = 17) ∧ b = c) → hc' a b = hc a b) ∧ ∀ a b, ¬ (a = 5 ∧ (b = 17 + 2 * c ∨ b = 17 + 2 * c + 1) ∨ a = 0 ∧ b = 18) → hm' a b = hm a b := by
  obtain ⟨q1, q2, q3, q4, q5⟩ := Q
  have ew : pv_w ((v : Int) + 1) = ((v + 1 : Nat) : Int) := pws (by omega)
  have q3' : hc (14 + 1) (v + 1) = (c : Int) := q3
  have eC : fX3_tell N 14 w x hc = some (pv_up (pv_up (pv_up hc 16 c w) 17 c x) 15 (v + 1) ((c + 1 : Nat) : Int)) := by
    unfold fX3_tell fX3_tell_47
    rw [q2, ew, if_pos (by omega), tnc, q3', bbs, if_neg (by omega), if_pos (by omega), tnc, bbs, if_pos (by omega), bbs, pv_up_ne (show (14 : Nat) ≠ 14 + 3 ∨ _ by omega), pv_up_ne (show (14 : Nat) ≠ 14 + 2 ∨ _ by omega), q2, ew, if_pos (by omega), tnc, bbs, pws (by omega)]
  have x1 : pv_w (17 + pv_w (2 * (c : Int))) = ((17 + 2 * c : Nat) : Int) := by rw [pv_w_id (x := 2 * (c : Int)) (by omega) (by omega), pv_w_id (by omega) (by omega)]; omega
  have x2 : pv_w (((17 + 2 * c : Nat) : Int) + 1) = ((17 + 2 * c + 1 : Nat) : Int) := pws (by omega)
  have eM : fX10_emit N w x hm = some (pv_up (pv_up (pv_up hm 5 (17 + 2 * c) w) 5 (17 + 2 * c + 1) x) 0 18 ((c + 1 : Nat) : Int)) := by
    unfold fX10_emit
    rw [q4, x1, if_pos (by omega), tnc, bbs, pv_up_ne (show (0 : Nat) ≠ 5 ∨ _ by omega), q4, x1, x2, if_pos (by omega), tnc, bbs, pv_up_ne (show (0 : Nat) ≠ 5 ∨ _ by omega), pv_up_ne (show (0 : Nat) ≠ 5 ∨ _ by omega), q4, pws (by omega), bbs]
  refine ⟨_, _, eC, eM, ⟨q1, ?_, pv_up_self _ _ _ _, pv_up_self _ _ _ _, fun j hj => ?_⟩, ?_, fun a b np => ?_, fun a b np => ?_⟩
  · rw [pv_up_ne (by omega), pv_up_ne (by omega), pv_up_ne (by omega)]; exact q2
  · by_cases e : j = c
    · subst e
      simp (disch := omega) only [pu_ne, pu_eq]
      exact ⟨trivial, trivial⟩
    · simp (disch := omega) only [pu_ne]
      exact q5 j (by omega)
  · unfold cdz
    simp (disch := omega) only [pu_ne, pu_eq]
  · rw [pv_up_ne (by omega), pv_up_ne (by omega), pv_up_ne (by omega)]
  · rw [pv_up_ne (by omega), pv_up_ne (by omega), pv_up_ne (by omega)]
theorem tell_F (W : WKz v hc) : ∃ hc', fX3_tell N 14 w x hc = some hc' ∧ WKz v hc' ∧ ∀ a b, ¬ (a = 15 ∧ b = v + 1 ∨ a = 16 ∨ a = 17) → hc' a b = hc a b := by
  obtain ⟨q1, q2, q3⟩ := W
  have ew : pv_w ((v : Int) + 1) = ((v + 1 : Nat) : Int) := pws (by omega)
  have q3' : 0 ≤ hc (14 + 1) (v + 1) := q3
  unfold fX3_tell fX3_tell_47
  rw [q2, ew, if_pos (by omega), tnc, bbs]
  by_cases z : 400 ≤ hc (14 + 1) (v + 1)
  · rw [if_pos z]
    exact ⟨hc, rfl, ⟨q1, q2, q3⟩, fun _ _ _ => rfl⟩
  · rw [if_neg z, if_pos (by omega), bbs, if_pos (by omega), bbs, pv_up_ne (show (14 : Nat) ≠ 14 + 3 ∨ _ by omega), pv_up_ne (show (14 : Nat) ≠ 14 + 2 ∨ _ by omega), q2, ew, if_pos (by omega), tnc, bbs]
    refine ⟨_, rfl, ⟨q1, ?_, ?_⟩, fun a b np => ?_⟩
    · rw [pv_up_ne (by omega), pv_up_ne (by omega), pv_up_ne (by omega)]; exact q2
    · have e : ∀ (h : pv_H) (y : Int), pv_up h (14 + 1) (v + 1) y 15 (v + 1) = y := fun h y => pv_up_self _ _ _ _
      rw [e, pv_w_id (by omega) (by omega)]
      omega
    · rw [pv_up_ne (by omega), pv_up_ne (by omega), pv_up_ne (by omega)]
end CODES
/-- what both leave of a part of a LOOK -/
def OKk (L v e o c s : Nat) (hc hm hc' hm' : pv_H) : Prop := ∃ c' s' p' : Nat, TYz L s' p' hc' hm' ∧ QLz v c' hc' hm' ∧ hm' 0 17 = (o : Int) ∧ 2 * c' + e ≤ s' ∧ s < s' ∧ PUz (cdz hm') c c' ∧ (∀ j, j < c → cdz hm' j = cdz hm j) ∧ FKc v hc hc' ∧ FKm hm hm'
def NOk (v : Nat) (hc hm hc' hm' : pv_H) : Prop := FTz hc' hm' ∧ WKz v hc' ∧ FKc v hc hc' ∧ FKm hm hm'
/-- both read such a part -/
def RDk (N o w f f' : Nat) : Prop := ∀ (L v e c s p : Nat) (hc hm : pv_H), TYz L s p hc hm → QLz v c hc hm → hm 0 17 = (o : Int) → 2 * c + e ≤ s → (∃ hc' hm', fr_C N f w (o : Int) hc = some (hc', 1) ∧ fr_M N f' w hm = some hm' ∧ OKk L v e o c s hc hm hc' hm') ∨ (∃ hc' hm', fr_C N f w (o : Int) hc = some (hc', 0) ∧ fr_M N f' w hm = some hm' ∧ NOk v hc hm hc' hm')
theorem frC0 {N n : Nat} {x : Int} {h : pv_H} : fr_C N (n + 1) 0 x h = fX4_readAnyOf N (fr_C N n) x h := by rw [fr_C, if_pos rfl]
theorem frC1 {N n : Nat} {x : Int} {h : pv_H} : fr_C N (n + 1) 1 x h = fX4_readAllOf N (fr_C N n) x h := by rw [fr_C, if_neg (by decide), if_pos rfl]
theorem frC2 {N n : Nat} {x : Int} {h : pv_H} : fr_C N (n + 1) 2 x h = fX4_readFact N (fr_C N n) x h := by rw [fr_C, if_neg (by decide), if_neg (by decide)]
theorem frM0 {N n : Nat} {h : pv_H} : fr_M N (n + 1) 0 h = fX10_readTest N (fr_M N n) h := by rw [fr_M, if_pos rfl]
theorem frM1 {N n : Nat} {h : pv_H} : fr_M N (n + 1) 1 h = fX10_readPart N (fr_M N n) h := by rw [fr_M, if_neg (by decide), if_pos rfl]
theorem frM2 {N n : Nat} {h : pv_H} : fr_M N (n + 1) 2 h = fX10_readFact N (fr_M N n) h := by rw [fr_M, if_neg (by decide), if_neg (by decide)]
section PARTS
variable {N L v e o f f' : Nat}
theorem part_l (hN : 1000 ≤ N) (H : RDk N o 2 f f') : ∀ (d c s p k g g' : Nat) (hc hm : pv_H), L ≤ s + d → d + 1 < g → d + 1 < g' → k ≤ s → TYz L s p hc hm → QLz v c hc hm → hm 0 17 = (o : Int) → 2 * c + e ≤ s → (∃ hc' hm', fX4_readAllOf_8 N (fr_C N f) (o : Int) g 1 (k : Int) hc = some (hc', 1) ∧ fX10_readPart_4 N (fr_M N f') g' hm = some hm' ∧ ∃ c' s' p' : Nat, TYz L s' p' hc' hm' ∧ QLz v c' hc' hm' ∧ hm' 0 17 = (o : Int) ∧ 2 * c' + e ≤ s' ∧ s ≤ s' ∧ (∀ c0, PUz (cdz hm) c0 c → PUz (cdz hm') c0 c') ∧ (∀ j, j < c → cdz hm' j = cdz hm j) ∧ FKc v hc hc' ∧ FKm hm hm') ∨ (∃ hc' hm', fX4_readAllOf_8 N (fr_C N f) (o : Int) g 1 (k : Int) hc = some (hc', 0) ∧ fX10_readPart_4 N (fr_M N f') g' hm = some hm' ∧ NOk v hc hm hc' hm') := by
  have tK : tkz 25 = 25 := rfl
  have stop : ∀ (c s p k g g' : Nat) (hc hm : pv_H), 0 < g → 0 < g' → TYz L s p hc hm → ¬ hm 0 10 = 25 → fX4_readAllOf_8 N (fr_C N f) (o : Int) g 1 (k : Int) hc = some (hc, 1) ∧ fX10_readPart_4 N (fr_M N f') g' hm = some hm := by
    intro c s p k g g' hc hm h1 h2 T ne
    obtain ⟨g, rfl⟩ : ∃ q, g = q + 1 := ⟨g - 1, by omega⟩
    obtain ⟨g', rfl⟩ : ∃ q, g' = q + 1 := ⟨g' - 1, by omega⟩
    have e54 : fX4_readAllOf_54 N (fr_C N f) (o : Int) 1 hc = some (hc, 1) := by
      unfold fX4_readAllOf_54
      rw [if_pos (Or.inr rfl)]
    constructor
    · rw [fX4_readAllOf_8, if_neg n10, T.tok, ← tK, if_neg (fun u => ne (tk_inj.mp u)), e54]
      by_cases q : 400 ≤ (k : Int)
      · rw [if_pos q]
      · rw [if_neg q]
    · rw [fX10_readPart_4, eats_0 T.z12 ne, c2s, if_pos rfl]
  intro d
  induction d with
  | zero =>
    intro c s p k g g' hc hm h1 h2 h3 h4 T Q e17 bu
    have sp := T.sp
    have ne : ¬ hm 0 10 = 25 := fun z => by have := T.lt (by omega); omega
    obtain ⟨x1, x2⟩ := stop c s p k g g' hc hm (by omega) (by omega) T ne
    exact Or.inl ⟨hc, hm, x1, x2, c, s, p, T, Q, e17, bu, Nat.le_refl _, fun _ P => P, fun _ _ => rfl, FKc.rf, FKm.rf⟩
  | succ d ih =>
    intro c s p k g g' hc hm h1 h2 h3 h4 T Q e17 bu
    have sp := T.sp
    by_cases ne : hm 0 10 = 25
    · obtain ⟨g, rfl⟩ : ∃ q, g = q + 1 := ⟨g - 1, by omega⟩
      obtain ⟨g', rfl⟩ : ∃ q, g' = q + 1 := ⟨g' - 1, by omega⟩
      have wd := T.wd (by omega)
      obtain ⟨hc1, hm1, x1, x2, s1, p1, T1, q1, F1, G1⟩ := nx_2 (N := N) hN T (by omega)
      have eC : fX4_readAllOf_8 N (fr_C N f) (o : Int) (g + 1) 1 (k : Int) hc = pv_c2b (fr_C N f 2 (o : Int) hc1) fun h10 r11 => pv_c1 (fX3_tell N 14 25 0 h10) fun h13 => fX4_readAllOf_8 N (fr_C N f) (o : Int) g r11 ((k + 1 : Nat) : Int) h13 := by
        rw [fX4_readAllOf_8, if_neg (by omega), if_neg n10, T.tok, ne, tK, if_pos rfl, x1, c1s, pws (by omega)]
        rfl
      have eM : fX10_readPart_4 N (fr_M N f') (g' + 1) hm = pv_c1 (fr_M N f' 2 hm1) fun h8 => if (h8 0 12) = 0 then (pv_c1 (fX10_emit N 25 0 h8) fun h11 => fX10_readPart_4 N (fr_M N f') g' h11) else (fX10_readPart_4 N (fr_M N f') g' h8) := by
        rw [fX10_readPart_4]
        unfold fX10_eats
        rw [is_1 T.z12 ne, c1s, if_neg n10, x2, c1s, c2s, if_neg n10]
      rw [eC, eM]
      have Q1 := Q.rf F1 G1
      have e171 : hm1 0 17 = (o : Int) := by rw [G1 _ _ (by unfold RMf; omega)]; exact e17
      have sp1 := T1.sp
      rcases H L v (e + 2) c s1 p1 hc1 hm1 T1 Q1 e171 (by omega) with ⟨hc2, hm2, y1, y2, c2, s2, p2, T2, Q2, e172, bu2, lt2, P2, pre2, F2, G2⟩ | ⟨hc2, hm2, y1, y2, FT, W, F2, G2⟩
      · have sp2 := T2.sp
        obtain ⟨hc3, hm3, z1, z2, Q3, cd3, F3, G3⟩ := emit_2 (N := N) (w := 25) (x := 0) Q2 (by omega)
        rw [y1, c2s, z1, c1s, y2, c1s, if_pos T2.z12, z2, c1s]
        have T3 : TYz L s2 p2 hc3 hm3 := T2.frm (fun x y u => F3 x y (by omega)) (fun x y u => G3 x y (by omega))
        have e173 : hm3 0 17 = (o : Int) := by rw [G3 _ _ (by omega)]; exact e172
        have FA : FKc v hc hc3 := ((FKc.of F1).tr F2).tr (fun x y np => F3 x y (by unfold KCf at np; omega))
        have GA : FKm hm hm3 := ((FKm.of G1).tr G2).tr (fun x y np => G3 x y (by unfold KMf at np; omega))
        have same : ∀ j, j < c2 → cdz hm3 j = cdz hm2 j := fun j hj => by unfold cdz; exact G3 _ _ (by omega)
        have pre : ∀ j, j < c → cdz hm3 j = cdz hm j := fun j hj => by
          rw [same j (by have := P2.1; omega), pre2 j hj]
          unfold cdz
          exact G1 _ _ (by unfold RMf; omega)
        rcases ih (c2 + 1) s2 p2 (k + 1) g g' hc3 hm3 (by omega) (by omega) (by omega) (by omega) T3 Q3 e173 (by omega) with ⟨hc', hm', u1, u2, c', s', p', u3, u4, u5, u6, u7, u8, u9, u10, u11⟩ | ⟨hc', hm', u1, u2, u3, u4, u5, u6⟩
        · refine Or.inl ⟨hc', hm', u1, u2, c', s', p', u3, u4, u5, u6, by omega, fun c0 P => u8 c0 ?_, fun j hj => ?_, FA.tr u10, GA.tr u11⟩
          · exact pu_two (P.congr (fun j _ b => pre j b)) (P2.congr (fun j _ b => same j b)) (by omega)
          · rw [u9 j (by have := P2.1; omega), pre j hj]
        · exact Or.inr ⟨hc', hm', u1, u2, u3, u4, FA.tr u5, GA.tr u6⟩
      · obtain ⟨hc3, z1, W3, F3⟩ := tell_F (N := N) (w := 25) (x := 0) W
        have FT3 : FTz hc3 hm2 := FT.frm (fun x y u => F3 x y (by omega)) (fun _ _ _ => rfl)
        obtain ⟨g, rfl⟩ : ∃ q, g = q + 1 := ⟨g - 1, by omega⟩
        obtain ⟨g', rfl⟩ : ∃ q, g' = q + 1 := ⟨g' - 1, by omega⟩
        have e54 : fX4_readAllOf_54 N (fr_C N f) (o : Int) 0 hc3 = some (hc3, 0) := by
          unfold fX4_readAllOf_54
          rw [if_pos (Or.inl rfl)]
        have e8 : fX4_readAllOf_8 N (fr_C N f) (o : Int) (g + 1) 0 ((k + 1 : Nat) : Int) hc3 = some (hc3, 0) := by
          rw [fX4_readAllOf_8, if_pos rfl, e54]
          by_cases q : 400 ≤ ((k + 1 : Nat) : Int)
          · rw [if_pos q]
          · rw [if_neg q]
        have e4 : fX10_readPart_4 N (fr_M N f') (g' + 1) hm2 = some hm2 := by rw [fX10_readPart_4, eats_F FT.ne, c2s, if_pos rfl]
        rw [y1, c2s, z1, c1s, y2, c1s, if_neg FT.ne, e8, e4]
        exact Or.inr ⟨hc3, hm2, rfl, rfl, FT3, W3, ((FKc.of F1).tr F2).tr (fun x y np => F3 x y (by unfold KCf at np; omega)), (FKm.of G1).tr G2⟩
    · obtain ⟨x1, x2⟩ := stop c s p k g g' hc hm (by omega) (by omega) T ne
      exact Or.inl ⟨hc, hm, x1, x2, c, s, p, T, Q, e17, bu, Nat.le_refl _, fun _ P => P, fun _ _ => rfl, FKc.rf, FKm.rf⟩
theorem part_R (hN : 1000 ≤ N) (H : RDk N o 2 f f') : RDk N o 1 (f + 1) (f' + 1) := by
  intro L v e c s p hc hm T Q e17 bu
  rw [frC1, frM1]
  unfold fX4_readAllOf fX10_readPart
  rcases H L v e c s p hc hm T Q e17 bu with ⟨hc2, hm2, y1, y2, c2, s2, p2, T2, Q2, e172, bu2, lt2, P2, pre2, F2, G2⟩ | ⟨hc2, hm2, y1, y2, FT, W, F2, G2⟩
  · rw [y1, y2, c2s, c1s]
    have sp := T2.sp
    rcases part_l (N := N) (L := L) (v := v) (e := e) (o := o) hN H L c2 s2 p2 0 N N hc2 hm2 (by omega) (by omega) (by omega) (by omega) T2 Q2 e172 bu2 with ⟨hc', hm', u1, u2, c', s', p', u3, u4, u5, u6, u7, u8, u9, u10, u11⟩ | ⟨hc', hm', u1, u2, u3, u4, u5, u6⟩
    · exact Or.inl ⟨hc', hm', u1, u2, c', s', p', u3, u4, u5, u6, by omega, u8 c P2, fun j hj => by rw [u9 j (by have := P2.1; omega), pre2 j hj], F2.tr u10, G2.tr u11⟩
    · exact Or.inr ⟨hc', hm', u1, u2, u3, u4, F2.tr u5, G2.tr u6⟩
  · obtain ⟨M, hM⟩ : ∃ M, N = M + 1 := ⟨N - 1, by omega⟩
    have e54 : fX4_readAllOf_54 N (fr_C N f) (o : Int) 0 hc2 = some (hc2, 0) := by
      unfold fX4_readAllOf_54
      rw [if_pos (Or.inl rfl)]
    have e8 : fX4_readAllOf_8 N (fr_C N f) (o : Int) (M + 1) 0 0 hc2 = some (hc2, 0) := by rw [fX4_readAllOf_8, if_neg (by omega), if_pos rfl, e54]
    have e4 : fX10_readPart_4 N (fr_M N f') (M + 1) hm2 = some hm2 := by rw [fX10_readPart_4, eats_F FT.ne, c2s, if_pos rfl]
    have eN : fX4_readAllOf_8 N (fr_C N f) (o : Int) N 0 0 hc2 = some (hc2, 0) := (congrArg (fun q => fX4_readAllOf_8 N (fr_C N f) (o : Int) q 0 0 hc2) hM).trans e8
    have eN2 : fX10_readPart_4 N (fr_M N f') N hm2 = some hm2 := (congrArg (fun q => fX10_readPart_4 N (fr_M N f') q hm2) hM).trans e4
    rw [y1, y2, c2s, c1s, eN, eN2]
    exact Or.inr ⟨hc2, hm2, rfl, rfl, FT, W, F2, G2⟩
end PARTS
section TESTS
variable {N L v e o f f' : Nat}
theorem test_l (hN : 1000 ≤ N) (H : RDk N o 1 f f') : ∀ (d c s p k g g' : Nat) (hc hm : pv_H), L ≤ s + d → d + 1 < g → d + 1 < g' → k ≤ s → TYz L s p hc hm → QLz v c hc hm → hm 0 17 = (o : Int) → 2 * c + e ≤ s → (∃ hc' hm', fX4_readAnyOf_8 N (fr_C N f) (o : Int) g 1 (k : Int) hc = some (hc', 1) ∧ fX10_readTest_4 N (fr_M N f') g' hm = some hm' ∧ ∃ c' s' p' : Nat, TYz L s' p' hc' hm' ∧ QLz v c' hc' hm' ∧ hm' 0 17 = (o : Int) ∧ 2 * c' + e ≤ s' ∧ s ≤ s' ∧ (∀ c0, PUz (cdz hm) c0 c → PUz (cdz hm') c0 c') ∧ (∀ j, j < c → cdz hm' j = cdz hm j) ∧ FKc v hc hc' ∧ FKm hm hm') ∨ (∃ hc' hm', fX4_readAnyOf_8 N (fr_C N f) (o : Int) g 1 (k : Int) hc = some (hc', 0) ∧ fX10_readTest_4 N (fr_M N f') g' hm = some hm' ∧ NOk v hc hm hc' hm') := by
  have tK : tkz 24 = 24 := rfl
  have stop : ∀ (c s p k g g' : Nat) (hc hm : pv_H), 0 < g → 0 < g' → TYz L s p hc hm → ¬ hm 0 10 = 24 → fX4_readAnyOf_8 N (fr_C N f) (o : Int) g 1 (k : Int) hc = some (hc, 1) ∧ fX10_readTest_4 N (fr_M N f') g' hm = some hm := by
    intro c s p k g g' hc hm h1 h2 T ne
    obtain ⟨g, rfl⟩ : ∃ q, g = q + 1 := ⟨g - 1, by omega⟩
    obtain ⟨g', rfl⟩ : ∃ q, g' = q + 1 := ⟨g' - 1, by omega⟩
    have e54 : fX4_readAnyOf_54 N (fr_C N f) (o : Int) 1 hc = some (hc, 1) := by
      unfold fX4_readAnyOf_54
      rw [if_pos (Or.inr rfl)]
    constructor
    · rw [fX4_readAnyOf_8, if_neg n10, T.tok, ← tK, if_neg (fun u => ne (tk_inj.mp u)), e54]
      by_cases q : 400 ≤ (k : Int)
      · rw [if_pos q]
      · rw [if_neg q]
    · rw [fX10_readTest_4, eats_0 T.z12 ne, c2s, if_pos rfl]
  intro d
  induction d with
  | zero =>
    intro c s p k g g' hc hm h1 h2 h3 h4 T Q e17 bu
    have sp := T.sp
    have ne : ¬ hm 0 10 = 24 := fun z => by have := T.lt (by omega); omega
    obtain ⟨x1, x2⟩ := stop c s p k g g' hc hm (by omega) (by omega) T ne
    exact Or.inl ⟨hc, hm, x1, x2, c, s, p, T, Q, e17, bu, Nat.le_refl _, fun _ P => P, fun _ _ => rfl, FKc.rf, FKm.rf⟩
  | succ d ih =>
    intro c s p k g g' hc hm h1 h2 h3 h4 T Q e17 bu
    have sp := T.sp
    by_cases ne : hm 0 10 = 24
    · obtain ⟨g, rfl⟩ : ∃ q, g = q + 1 := ⟨g - 1, by omega⟩
      obtain ⟨g', rfl⟩ : ∃ q, g' = q + 1 := ⟨g' - 1, by omega⟩
      have wd := T.wd (by omega)
      obtain ⟨hc1, hm1, x1, x2, s1, p1, T1, q1, F1, G1⟩ := nx_2 (N := N) hN T (by omega)
      have eC : fX4_readAnyOf_8 N (fr_C N f) (o : Int) (g + 1) 1 (k : Int) hc = pv_c2b (fr_C N f 1 (o : Int) hc1) fun h10 r11 => pv_c1 (fX3_tell N 14 24 0 h10) fun h13 => fX4_readAnyOf_8 N (fr_C N f) (o : Int) g r11 ((k + 1 : Nat) : Int) h13 := by
        rw [fX4_readAnyOf_8, if_neg (by omega), if_neg n10, T.tok, ne, tK, if_pos rfl, x1, c1s, pws (by omega)]
        rfl
      have eM : fX10_readTest_4 N (fr_M N f') (g' + 1) hm = pv_c1 (fr_M N f' 1 hm1) fun h8 => if (h8 0 12) = 0 then (pv_c1 (fX10_emit N 24 0 h8) fun h11 => fX10_readTest_4 N (fr_M N f') g' h11) else (fX10_readTest_4 N (fr_M N f') g' h8) := by
        rw [fX10_readTest_4]
        unfold fX10_eats
        rw [is_1 T.z12 ne, c1s, if_neg n10, x2, c1s, c2s, if_neg n10]
      rw [eC, eM]
      have Q1 := Q.rf F1 G1
      have e171 : hm1 0 17 = (o : Int) := by rw [G1 _ _ (by unfold RMf; omega)]; exact e17
      have sp1 := T1.sp
      rcases H L v (e + 2) c s1 p1 hc1 hm1 T1 Q1 e171 (by omega) with ⟨hc2, hm2, y1, y2, c2, s2, p2, T2, Q2, e172, bu2, lt2, P2, pre2, F2, G2⟩ | ⟨hc2, hm2, y1, y2, FT, W, F2, G2⟩
      · have sp2 := T2.sp
        obtain ⟨hc3, hm3, z1, z2, Q3, cd3, F3, G3⟩ := emit_2 (N := N) (w := 24) (x := 0) Q2 (by omega)
        rw [y1, c2s, z1, c1s, y2, c1s, if_pos T2.z12, z2, c1s]
        have T3 : TYz L s2 p2 hc3 hm3 := T2.frm (fun x y u => F3 x y (by omega)) (fun x y u => G3 x y (by omega))
        have e173 : hm3 0 17 = (o : Int) := by rw [G3 _ _ (by omega)]; exact e172
        have FA : FKc v hc hc3 := ((FKc.of F1).tr F2).tr (fun x y np => F3 x y (by unfold KCf at np; omega))
        have GA : FKm hm hm3 := ((FKm.of G1).tr G2).tr (fun x y np => G3 x y (by unfold KMf at np; omega))
        have same : ∀ j, j < c2 → cdz hm3 j = cdz hm2 j := fun j hj => by unfold cdz; exact G3 _ _ (by omega)
        have pre : ∀ j, j < c → cdz hm3 j = cdz hm j := fun j hj => by
          rw [same j (by have := P2.1; omega), pre2 j hj]
          unfold cdz
          exact G1 _ _ (by unfold RMf; omega)
        rcases ih (c2 + 1) s2 p2 (k + 1) g g' hc3 hm3 (by omega) (by omega) (by omega) (by omega) T3 Q3 e173 (by omega) with ⟨hc', hm', u1, u2, c', s', p', u3, u4, u5, u6, u7, u8, u9, u10, u11⟩ | ⟨hc', hm', u1, u2, u3, u4, u5, u6⟩
        · refine Or.inl ⟨hc', hm', u1, u2, c', s', p', u3, u4, u5, u6, by omega, fun c0 P => u8 c0 ?_, fun j hj => ?_, FA.tr u10, GA.tr u11⟩
          · exact pu_two (P.congr (fun j _ b => pre j b)) (P2.congr (fun j _ b => same j b)) (by omega)
          · rw [u9 j (by have := P2.1; omega), pre j hj]
        · exact Or.inr ⟨hc', hm', u1, u2, u3, u4, FA.tr u5, GA.tr u6⟩
      · obtain ⟨hc3, z1, W3, F3⟩ := tell_F (N := N) (w := 24) (x := 0) W
        have FT3 : FTz hc3 hm2 := FT.frm (fun x y u => F3 x y (by omega)) (fun _ _ _ => rfl)
        obtain ⟨g, rfl⟩ : ∃ q, g = q + 1 := ⟨g - 1, by omega⟩
        obtain ⟨g', rfl⟩ : ∃ q, g' = q + 1 := ⟨g' - 1, by omega⟩
        have e54 : fX4_readAnyOf_54 N (fr_C N f) (o : Int) 0 hc3 = some (hc3, 0) := by
          unfold fX4_readAnyOf_54
          rw [if_pos (Or.inl rfl)]
        have e8 : fX4_readAnyOf_8 N (fr_C N f) (o : Int) (g + 1) 0 ((k + 1 : Nat) : Int) hc3 = some (hc3, 0) := by
          rw [fX4_readAnyOf_8, if_pos rfl, e54]
          by_cases q : 400 ≤ ((k + 1 : Nat) : Int)
          · rw [if_pos q]
          · rw [if_neg q]
        have e4 : fX10_readTest_4 N (fr_M N f') (g' + 1) hm2 = some hm2 := by rw [fX10_readTest_4, eats_F FT.ne, c2s, if_pos rfl]
        rw [y1, c2s, z1, c1s, y2, c1s, if_neg FT.ne, e8, e4]
        exact Or.inr ⟨hc3, hm2, rfl, rfl, FT3, W3, ((FKc.of F1).tr F2).tr (fun x y np => F3 x y (by unfold KCf at np; omega)), (FKm.of G1).tr G2⟩
    · obtain ⟨x1, x2⟩ := stop c s p k g g' hc hm (by omega) (by omega) T ne
      exact Or.inl ⟨hc, hm, x1, x2, c, s, p, T, Q, e17, bu, Nat.le_refl _, fun _ P => P, fun _ _ => rfl, FKc.rf, FKm.rf⟩
theorem test_R (hN : 1000 ≤ N) (H : RDk N o 1 f f') : RDk N o 0 (f + 1) (f' + 1) := by
  intro L v e c s p hc hm T Q e17 bu
  rw [frC0, frM0]
  unfold fX4_readAnyOf fX10_readTest
  rcases H L v e c s p hc hm T Q e17 bu with ⟨hc2, hm2, y1, y2, c2, s2, p2, T2, Q2, e172, bu2, lt2, P2, pre2, F2, G2⟩ | ⟨hc2, hm2, y1, y2, FT, W, F2, G2⟩
  · rw [y1, y2, c2s, c1s]
    have sp := T2.sp
    rcases test_l (N := N) (L := L) (v := v) (e := e) (o := o) hN H L c2 s2 p2 0 N N hc2 hm2 (by omega) (by omega) (by omega) (by omega) T2 Q2 e172 bu2 with ⟨hc', hm', u1, u2, c', s', p', u3, u4, u5, u6, u7, u8, u9, u10, u11⟩ | ⟨hc', hm', u1, u2, u3, u4, u5, u6⟩
    · exact Or.inl ⟨hc', hm', u1, u2, c', s', p', u3, u4, u5, u6, by omega, u8 c P2, fun j hj => by rw [u9 j (by have := P2.1; omega), pre2 j hj], F2.tr u10, G2.tr u11⟩
    · exact Or.inr ⟨hc', hm', u1, u2, u3, u4, F2.tr u5, G2.tr u6⟩
  · obtain ⟨M, hM⟩ : ∃ M, N = M + 1 := ⟨N - 1, by omega⟩
    have e54 : fX4_readAnyOf_54 N (fr_C N f) (o : Int) 0 hc2 = some (hc2, 0) := by
      unfold fX4_readAnyOf_54
      rw [if_pos (Or.inl rfl)]
    have e8 : fX4_readAnyOf_8 N (fr_C N f) (o : Int) (M + 1) 0 0 hc2 = some (hc2, 0) := by rw [fX4_readAnyOf_8, if_neg (by omega), if_pos rfl, e54]
    have e4 : fX10_readTest_4 N (fr_M N f') (M + 1) hm2 = some hm2 := by rw [fX10_readTest_4, eats_F FT.ne, c2s, if_pos rfl]
    have eN : fX4_readAnyOf_8 N (fr_C N f) (o : Int) N 0 0 hc2 = some (hc2, 0) := (congrArg (fun q => fX4_readAnyOf_8 N (fr_C N f) (o : Int) q 0 0 hc2) hM).trans e8
    have eN2 : fX10_readTest_4 N (fr_M N f') N hm2 = some hm2 := (congrArg (fun q => fX10_readTest_4 N (fr_M N f') q hm2) hM).trans e4
    rw [y1, y2, c2s, c1s, eN, eN2]
    exact Or.inr ⟨hc2, hm2, rfl, rfl, FT, W, F2, G2⟩
end TESTS
