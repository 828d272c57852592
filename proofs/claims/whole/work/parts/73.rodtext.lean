/-! a ROD's text, both -/
def TCf (x y : Nat) : Prop := RCf x y ∨ 2 ≤ x ∧ x ≤ 17
def TMf (x y : Nat) : Prop := RMf x y ∨ x = 5
def TFc (hc hc' : pv_H) : Prop := ∀ x y, ¬ TCf x y → hc' x y = hc x y
def TFm (hm hm' : pv_H) : Prop := ∀ x y, ¬ TMf x y → hm' x y = hm x y
theorem TFc.rf {h : pv_H} : TFc h h := fun _ _ _ => rfl
theorem TFm.rf {h : pv_H} : TFm h h := fun _ _ _ => rfl
theorem TFc.tr {h h1 h2 : pv_H} (a : TFc h h1) (b : TFc h1 h2) : TFc h h2 := fun x y n => (b x y n).trans (a x y n)
theorem TFm.tr {h h1 h2 : pv_H} (a : TFm h h1) (b : TFm h1 h2) : TFm h h2 := fun x y n => (b x y n).trans (a x y n)
theorem TFc.of {h h1 : pv_H} (f : ∀ x y, ¬ RCf x y → h1 x y = h x y) : TFc h h1 := fun x y n => f x y (fun u => n (Or.inl u))
theorem TFm.of {h h1 : pv_H} (f : ∀ x y, ¬ RMf x y → h1 x y = h x y) : TFm h h1 := fun x y n => f x y (fun u => n (Or.inl u))
theorem tk_c (k : Int) : (k ≤ 36 ∧ tkz k = k) ∨ (37 ≤ k ∧ tkz k = k + 3) := by
  unfold tkz
  by_cases h : k ≤ 36
  · rw [if_pos h]; exact Or.inl ⟨h, rfl⟩
  · rw [if_neg h]; exact Or.inr ⟨by omega, rfl⟩
def rlo (j : Nat) : Int := if j < 2 then 1 else 0
def rhi (j : Nat) : Int := if j = 0 then 99 else if j = 1 then 999 else if j = 2 then 99 else 2
def RLz (n : Nat) (hc hm : pv_H) : Prop := 3 ≤ n ∧ n ≤ 60 ∧ hc 2 0 = (n : Int) ∧ hm 5 0 = (n : Int) ∧ hc 2 1 = hm 5 1 ∧ 0 ≤ hm 5 1 ∧ hm 5 1 ≤ 99 ∧ (∀ j i, j < 4 → i < n → hc (3 + j) i = hm 5 (2 + 60 * j + i) ∧ rlo j ≤ hm 5 (2 + 60 * j + i) ∧ hm 5 (2 + 60 * j + i) ≤ rhi j) ∧ ∀ i, i < n → hc 7 i = shp n i
theorem RLz.frm {n : Nat} {hc hm hc' hm' : pv_H} (R : RLz n hc hm) (f : ∀ x y, 2 ≤ x ∧ x ≤ 7 → hc' x y = hc x y) (g : ∀ y, hm' 5 y = hm 5 y) : RLz n hc' hm' := by
  obtain ⟨r1, r2, r3, r4, r5, r6, r7, r8, r9⟩ := R
  refine ⟨r1, r2, by rw [f _ _ (by omega)]; exact r3, by rw [g]; exact r4, by rw [f _ _ (by omega), g]; exact r5, by rw [g]; exact r6, by rw [g]; exact r7, fun j i hj hi => ?_, fun i hi => by rw [f _ _ (by omega)]; exact r9 i hi⟩
  rw [f (3 + j) i (by omega), g]
  exact r8 j i hj hi
theorem RLz.rf {n : Nat} {hc hm hc' hm' : pv_H} (R : RLz n hc hm) (f : ∀ x y, ¬ RCf x y → hc' x y = hc x y) (g : ∀ x y, ¬ RMf x y → hm' x y = hm x y) : RLz n hc' hm' := R.frm (fun x y u => f x y (by unfold RCf; omega)) (fun y => g _ _ (by unfold RMf; omega))
section ROD
variable {N L s p n : Nat} {hc hm : pv_H}
/-- the class tells some cells -/
theorem tell_l {w v : Int} {j a b : Nat} (n60 : n ≤ 60) (hj : j < 4) (hb : b < n) : ∀ (d i f : Nat) (h : pv_H), i + d = b + 1 → d < f → a ≤ i → h 2 0 = (n : Int) → (∀ x y, ¬ (x = 3 + j ∧ a ≤ y ∧ y < i) → h x y = hc x y) → (∀ y, a ≤ y → y < i → h (3 + j) y = v) → ∃ h', fX5_tell_52 N 2 w (a : Int) (b : Int) v f (3 + j) (i : Int) h = some h' ∧ (∀ x y, ¬ (x = 3 + j ∧ a ≤ y ∧ y ≤ b) → h' x y = hc x y) ∧ ∀ y, a ≤ y → y ≤ b → h' (3 + j) y = v := by
  intro d
  induction d with
  | zero =>
    intro i f h h1 h2 h3 e F V
    obtain ⟨f, rfl⟩ : ∃ g, f = g + 1 := ⟨f - 1, by omega⟩
    unfold fX5_tell_52 fX5_tell_80
    rw [if_pos (by omega)]
    exact ⟨h, rfl, fun x y np => F x y (by omega), fun y a1 a2 => V y a1 (by omega)⟩
  | succ d ih =>
    intro i f h h1 h2 h3 e F V
    obtain ⟨f, rfl⟩ : ∃ g, f = g + 1 := ⟨f - 1, by omega⟩
    rw [fX5_tell_52, if_neg (by omega), e, if_neg (by omega), if_pos (by omega), tnc, bbs, bbs, pws (by omega)]
    refine ih (i + 1) f _ (by omega) (by omega) (by omega) (by rw [pv_up_ne (by omega)]; exact e) (fun x y np => by rw [pv_up_ne (by omega)]; exact F x y (by omega)) (fun y a1 a2 => ?_)
    by_cases z : y = i
    · subst z; rw [pv_up_self]
    · rw [pv_up_ne (by omega)]; exact V y a1 (by omega)
theorem tell_C {w v : Int} {j a b : Nat} (hN : 1000 ≤ N) (n60 : n ≤ 60) (hb : b < n) (ab : a ≤ b) (e : hc 2 0 = (n : Int)) (hw : w = 1 ∧ j = 0 ∨ w = 2 ∧ j = 1 ∨ w = 5 ∧ j = 2 ∨ (w = 3 ∨ w = 4) ∧ j = 3) : ∃ h', fX5_tell N 2 w (a : Int) (b : Int) v hc = some h' ∧ (∀ x y, ¬ (x = 3 + j ∧ a ≤ y ∧ y ≤ b) → h' x y = hc x y) ∧ ∀ y, a ≤ y → y ≤ b → h' (3 + j) y = v := by
  have em : max (a : Int) 0 = (a : Int) := by omega
  have t := tell_l (N := N) (hc := hc) (w := w) (v := v) (j := j) (a := a) (b := b) n60 (by omega) hb (b + 1 - a) a N hc (by omega) (by omega) (Nat.le_refl _) e (fun _ _ _ => rfl) (fun y a1 a2 => by omega)
  unfold fX5_tell fX5_tell_45
  simp only [bbs, em]
  rcases hw with ⟨w1, w2⟩ | ⟨w1, w2⟩ | ⟨w1, w2⟩ | ⟨w1, w2⟩
  · subst w2
    rw [if_pos w1]
    exact t
  · subst w2
    rw [if_neg (by omega), if_pos w1]
    exact t
  · subst w2
    rw [if_neg (by omega), if_neg (by omega), if_pos w1]
    exact t
  · subst w2
    rw [if_neg (by omega), if_neg (by omega), if_neg (by omega)]
    exact t
/-- the reference tells some cells -/
theorem sp97_l {v : Int} {k44 : pv_H → Option pv_H} {j a b : Nat} (n60 : n ≤ 60) (hj : j < 4) (hb : b < n) (z12 : hm 0 12 = 0) : ∀ (d i f : Nat) (h : pv_H), i + d = b + 1 → d < f → a ≤ i → (∀ x y, ¬ (x = 5 ∧ 2 + 60 * j + a ≤ y ∧ y < 2 + 60 * j + i) → h x y = hm x y) → (∀ y, a ≤ y → y < i → h 5 (2 + 60 * j + y) = v) → ∃ h', fX10_readSpans_97 N k44 ((2 + 60 * j : Nat) : Int) v f (b : Int) (i : Int) h = k44 h' ∧ (∀ x y, ¬ (x = 5 ∧ 2 + 60 * j + a ≤ y ∧ y ≤ 2 + 60 * j + b) → h' x y = hm x y) ∧ ∀ y, a ≤ y → y ≤ b → h' 5 (2 + 60 * j + y) = v := by
  intro d
  induction d with
  | zero =>
    intro i f h h1 h2 h3 F V
    obtain ⟨f, rfl⟩ : ∃ g, f = g + 1 := ⟨f - 1, by omega⟩
    unfold fX10_readSpans_97 fX10_readSpans_127
    rw [if_pos (by omega)]
    exact ⟨h, rfl, fun x y np => F x y (by omega), fun y a1 a2 => V y a1 (by omega)⟩
  | succ d ih =>
    intro i f h h1 h2 h3 F V
    obtain ⟨f, rfl⟩ : ∃ g, f = g + 1 := ⟨f - 1, by omega⟩
    have x : pv_w (((2 + 60 * j : Nat) : Int) + (i : Int)) = ((2 + 60 * j + i : Nat) : Int) := by rw [pv_w_id (by omega) (by omega)]; omega
    rw [fX10_readSpans_97, if_neg (by omega), F 0 12 (by omega), if_pos z12, x, if_pos (by omega), tnc, bbs, bbs, pws (by omega)]
    refine ih (i + 1) f _ (by omega) (by omega) (by omega) (fun x y np => by rw [pv_up_ne (by omega)]; exact F x y (by omega)) (fun y a1 a2 => ?_)
    by_cases z : y = i
    · subst z; rw [pv_up_self]
    · rw [pv_up_ne (by omega)]; exact V y a1 (by omega)
theorem sp11_l {v : Int} {j : Nat} (n60 : n ≤ 60) (hj : j < 4) (z12 : hm 0 12 = 0) (e : hm 5 0 = (n : Int)) : ∀ (d i f : Nat) (h : pv_H), i + d = n → d < f → (∀ x y, ¬ (x = 5 ∧ 2 + 60 * j ≤ y ∧ y < 2 + 60 * j + i) → h x y = hm x y) → (∀ y, y < i → h 5 (2 + 60 * j + y) = v) → ∃ h', fX10_readSpans_11 N ((2 + 60 * j : Nat) : Int) v f (i : Int) h = some h' ∧ (∀ x y, ¬ (x = 5 ∧ 2 + 60 * j ≤ y ∧ y < 2 + 60 * j + n) → h' x y = hm x y) ∧ ∀ y, y < n → h' 5 (2 + 60 * j + y) = v := by
  intro d
  induction d with
  | zero =>
    intro i f h h1 h2 F V
    obtain ⟨f, rfl⟩ : ∃ g, f = g + 1 := ⟨f - 1, by omega⟩
    unfold fX10_readSpans_11 fX10_readSpans_43
    rw [F 5 0 (by omega), e, if_pos (by omega)]
    exact ⟨h, rfl, fun x y np => F x y (by omega), fun y a1 => V y (by omega)⟩
  | succ d ih =>
    intro i f h h1 h2 F V
    obtain ⟨f, rfl⟩ : ∃ g, f = g + 1 := ⟨f - 1, by omega⟩
    have x : pv_w (((2 + 60 * j : Nat) : Int) + (i : Int)) = ((2 + 60 * j + i : Nat) : Int) := by rw [pv_w_id (by omega) (by omega)]; omega
    rw [fX10_readSpans_11, F 5 0 (by omega), e, if_neg (by omega), F 0 12 (by omega), if_pos z12, x, if_pos (by omega), tnc, bbs, bbs, pws (by omega)]
    refine ih (i + 1) f _ (by omega) (by omega) (fun x y np => by rw [pv_up_ne (by omega)]; exact F x y (by omega)) (fun y a1 => ?_)
    by_cases z : y = i
    · subst z; rw [pv_up_self]
    · rw [pv_up_ne (by omega)]; exact V y (by omega)
/-- both have told some cells -/
theorem RLz.set {v : Int} {j a b : Nat} {hc' hm' : pv_H} (R : RLz n hc hm) (hj : j < 4) (v0 : rlo j ≤ v) (v1 : v ≤ rhi j) (f : ∀ x y, ¬ (x = 3 + j ∧ a ≤ y ∧ y ≤ b) → hc' x y = hc x y) (fv : ∀ y, a ≤ y → y ≤ b → hc' (3 + j) y = v) (g : ∀ x y, ¬ (x = 5 ∧ 2 + 60 * j + a ≤ y ∧ y ≤ 2 + 60 * j + b) → hm' x y = hm x y) (gv : ∀ y, a ≤ y → y ≤ b → hm' 5 (2 + 60 * j + y) = v) (hb : b < n) : RLz n hc' hm' := by
  obtain ⟨r1, r2, r3, r4, r5, r6, r7, r8, r9⟩ := R
  refine ⟨r1, r2, by rw [f _ _ (by omega)]; exact r3, by rw [g _ _ (by omega)]; exact r4, by rw [f _ _ (by omega), g _ _ (by omega)]; exact r5, by rw [g _ _ (by omega)]; exact r6, by rw [g _ _ (by omega)]; exact r7, fun j' i hj' hi => ?_, fun i hi => by rw [f _ _ (by omega)]; exact r9 i hi⟩
  by_cases z : j' = j ∧ a ≤ i ∧ i ≤ b
  · obtain ⟨z1, z2, z3⟩ := z
    subst z1
    rw [fv i z2 z3, gv i z2 z3]
    exact ⟨rfl, v0, v1⟩
  · rw [f (3 + j') i (by omega), g 5 (2 + 60 * j' + i) (by omega)]
    exact r8 j' i hj' hi
def OKr (L n s : Nat) (hc hm hc' hm' : pv_H) : Prop := ∃ s' p', TYz L s' p' hc' hm' ∧ s ≤ s' ∧ RLz n hc' hm' ∧ TFc hc hc' ∧ TFm hm hm'
def NOr (hc hm hc' hm' : pv_H) : Prop := FTz hc' hm' ∧ TFc hc hc' ∧ TFm hm hm'
theorem sp44_F {a v : Int} {f : Nat} {h : pv_H} (z : ¬ h 0 12 = 0) (hf : 0 < f) : fX10_readSpans_44 N a v f h = some h := by
  obtain ⟨f, rfl⟩ : ∃ g, f = g + 1 := ⟨f - 1, by omega⟩
  rw [fX10_readSpans_44, eats_F z, c2s, if_pos rfl]
theorem sp94_F {a v x y : Int} {f : Nat} {h : pv_H} (hN : 1000 ≤ N) (z : ¬ h 0 12 = 0) (hf : 0 < f) : fX10_readSpans_94 N (fun hh => fX10_readSpans_44 N a v f hh) a v x y h = some h := by
  obtain ⟨M, hM⟩ : ∃ M, N = M + 1 := ⟨N - 1, by omega⟩
  have e : fX10_readSpans_97 N (fun hh => fX10_readSpans_44 N a v f hh) a v (M + 1) y x h = some h := by
    unfold fX10_readSpans_97 fX10_readSpans_127
    by_cases q : y < x
    · rw [if_pos q]; exact sp44_F z hf
    · rw [if_neg q, if_neg z]; exact sp44_F z hf
  unfold fX10_readSpans_94
  rw [← hM] at e
  exact e
/-- SPANS, both -/
theorem spans_l {w v : Int} {j : Nat} (hN : 1000 ≤ N) (v0 : rlo j ≤ v) (v1 : v ≤ rhi j) (hw : w = 1 ∧ j = 0 ∨ w = 2 ∧ j = 1 ∨ w = 5 ∧ j = 2 ∨ (w = 3 ∨ w = 4) ∧ j = 3) : ∀ (d s p c f f' : Nat) (hc hm : pv_H), L ≤ s + d → d < f → d < f' → c ≤ s → TYz L s p hc hm → RLz n hc hm → (∃ hc' hm', fX4_readSpans_32 N w v f (c : Int) hc = some (hc', 1) ∧ fX10_readSpans_44 N ((2 + 60 * j : Nat) : Int) v f' hm = some hm' ∧ OKr L n s hc hm hc' hm') ∨ (∃ hc' hm', fX4_readSpans_32 N w v f (c : Int) hc = some (hc', 0) ∧ fX10_readSpans_44 N ((2 + 60 * j : Nat) : Int) v f' hm = some hm' ∧ NOr hc hm hc' hm') := by
  have hj : j < 4 := by omega
  intro d
  induction d with
  | zero =>
    intro s p c f f' hc hm h1 h2 h3 h4 T R
    obtain ⟨f, rfl⟩ : ∃ g, f = g + 1 := ⟨f - 1, by omega⟩
    obtain ⟨f', rfl⟩ : ∃ g, f' = g + 1 := ⟨f' - 1, by omega⟩
    have sp := T.sp
    have ne : ¬ hm 0 10 = 7 := fun z => by have := T.lt (by omega); omega
    refine Or.inl ⟨hc, hm, ?_, ?_, s, p, T, Nat.le_refl _, R, TFc.rf, TFm.rf⟩
    · have t7 : tkz 7 = 7 := rfl
      rw [fX4_readSpans_32, T.tok, ← t7, if_neg (fun u => ne (tk_inj.mp u))]
      unfold fX4_readSpans_135
      by_cases q : 400 ≤ (c : Int)
      · rw [if_pos q]
      · rw [if_neg q]
    · rw [fX10_readSpans_44, eats_0 T.z12 ne, c2s, if_pos rfl]
  | succ d ih =>
    intro s p c f f' hc hm h1 h2 h3 h4 T R
    obtain ⟨f, rfl⟩ : ∃ g, f = g + 1 := ⟨f - 1, by omega⟩
    obtain ⟨f', rfl⟩ : ∃ g, f' = g + 1 := ⟨f' - 1, by omega⟩
    have sp := T.sp
    have t7 : tkz 7 = 7 := rfl
    have t8 : tkz 8 = 8 := rfl
    by_cases ne : hm 0 10 = 7
    · have lt := T.lt (by omega)
      have n3 := R.1
      have n60 := R.2.1
      obtain ⟨hc1, hm1, x1, x2, s1, p1, T1, q1, F1, G1⟩ := nx_2 (N := N) hN T (by omega)
      have R1 : RLz n hc1 hm1 := R.frm (fun x y u => F1 x y (by unfold RCf; omega)) (fun y => G1 _ _ (by unfold RMf; omega))
      have eC : fX4_readSpans_32 N w v (f + 1) (c : Int) hc = (pv_c2b (fX4_numberWithin N 0 (pv_w ((n : Int) - 1)) hc1) fun h9 r10 => if r10 = (-1) then (fX4_readSpans_108 N (fun v3_ hh => fX4_readSpans_32 N w v f v3_ hh) w v (c : Int) (r10) (r10) h9) else (if (h9 1 11) = 8 then (pv_c1 (fX4_next N h9) fun h14 => pv_c2b (fX4_numberWithin N r10 (pv_w ((h14 2 0) - 1)) h14) fun h16 r17 => fX4_readSpans_108 N (fun v3_ hh => fX4_readSpans_32 N w v f v3_ hh) w v (c : Int) (r10) (r17) h16) else (fX4_readSpans_108 N (fun v3_ hh => fX4_readSpans_32 N w v f v3_ hh) w v (c : Int) (r10) (r10) h9))) := by
        rw [fX4_readSpans_32, if_neg (by omega), T.tok, ne, t7, if_pos rfl, x1, c1s, R1.2.2.1]
      have eM : fX10_readSpans_44 N ((2 + 60 * j : Nat) : Int) v (f' + 1) hm = (pv_c2b (fX10_reads N 0 (pv_w ((n : Int) - 1)) hm1) fun h9 r10 => pv_c2b (fX10_eats N 8 h9) fun h12 r13 => if r13 = 0 then (fX10_readSpans_94 N (fun hh => fX10_readSpans_44 N ((2 + 60 * j : Nat) : Int) v f' hh) ((2 + 60 * j : Nat) : Int) v (r10) (r10) h12) else (pv_c2b (fX10_reads N r10 (pv_w ((h12 5 0) - 1)) h12) fun h16 r17 => fX10_readSpans_94 N (fun hh => fX10_readSpans_44 N ((2 + 60 * j : Nat) : Int) v f' hh) ((2 + 60 * j : Nat) : Int) v (r10) (r17) h16)) := by
        rw [fX10_readSpans_44]
        unfold fX10_eats
        rw [is_1 T.z12 ne, c1s, if_neg n10, x2, c1s, c2s, if_neg n10, R1.2.2.2.1]
      have en : pv_w ((n : Int) - 1) = (n : Int) - 1 := pv_w_id (by omega) (by omega)
      rw [eC, eM, en]
      rcases number_2 (N := N) (lo := 0) (hi := (n : Int) - 1) hN T1 with ⟨hc2, hm2, a, y1, y2, a0, a1, _, _, lt1, s2, p2, T2, q2, F2, G2⟩ | ⟨hc2, hm2, r, y1, y2, FT, F2, G2⟩
      · obtain ⟨a, rfl⟩ := Int.eq_ofNat_of_zero_le a0
        have R2 : RLz n hc2 hm2 := R1.frm (fun x y u => F2 x y (by unfold RCf; omega)) (fun y => G2 _ _ (by unfold RMf; omega))
        rw [y1, y2, c2s, c2s, if_neg (show ¬ (a : Int) = -1 by omega)]
        -- one SPAN, told by both
        have go : ∀ (b s3 p3 : Nat) (hc3 hm3 : pv_H), a ≤ b → b < n → TYz L s3 p3 hc3 hm3 → RLz n hc3 hm3 → s1 + 1 ≤ s3 → TFc hc hc3 → TFm hm hm3 → (∃ hc' hm', fX4_readSpans_108 N (fun v3_ hh => fX4_readSpans_32 N w v f v3_ hh) w v (c : Int) (a : Int) (b : Int) hc3 = some (hc', 1) ∧ fX10_readSpans_94 N (fun hh => fX10_readSpans_44 N ((2 + 60 * j : Nat) : Int) v f' hh) ((2 + 60 * j : Nat) : Int) v (a : Int) (b : Int) hm3 = some hm' ∧ OKr L n s hc hm hc' hm') ∨ (∃ hc' hm', fX4_readSpans_108 N (fun v3_ hh => fX4_readSpans_32 N w v f v3_ hh) w v (c : Int) (a : Int) (b : Int) hc3 = some (hc', 0) ∧ fX10_readSpans_94 N (fun hh => fX10_readSpans_44 N ((2 + 60 * j : Nat) : Int) v f' hh) ((2 + 60 * j : Nat) : Int) v (a : Int) (b : Int) hm3 = some hm' ∧ NOr hc hm hc' hm') := by
          intro b s3 p3 hc3 hm3 ab bn T3 R3 lt3 FA GA
          obtain ⟨hc4, z1, z2, z3⟩ := tell_C (N := N) (w := w) (v := v) (j := j) (a := a) (b := b) (hc := hc3) hN n60 bn ab R3.2.2.1 hw
          obtain ⟨hm4, w1, w2, w3⟩ := sp97_l (N := N) (hm := hm3) (v := v) (k44 := fun hh => fX10_readSpans_44 N ((2 + 60 * j : Nat) : Int) v f' hh) (j := j) (a := a) (b := b) n60 hj bn T3.z12 (b + 1 - a) a N hm3 (by omega) (by omega) (Nat.le_refl _) (fun _ _ _ => rfl) (fun y a1 a2 => by omega)
          have T4 : TYz L s3 p3 hc4 hm4 := T3.frm (fun x y u => z2 x y (by omega)) (fun x y u => w2 x y (by omega))
          have R4 : RLz n hc4 hm4 := R3.set hj v0 v1 z2 z3 w2 w3 bn
          have F4 : TFc hc hc4 := FA.tr (fun x y np => z2 x y (by unfold TCf RCf at np; omega))
          have G4 : TFm hm hm4 := GA.tr (fun x y np => w2 x y (by unfold TMf RMf at np; omega))
          unfold fX4_readSpans_108 fX10_readSpans_94
          rw [if_neg (show ¬ (b : Int) = -1 by omega), z1, c1s, bbs, pws (by have := T3.sp; omega), w1]
          rcases ih s3 p3 (c + 1) f f' hc4 hm4 (by omega) (by omega) (by omega) (by omega) T4 R4 with ⟨hc', hm', u1, u2, s', p', u3, u4, u5, u6, u7⟩ | ⟨hc', hm', u1, u2, u3, u4, u5⟩
          · exact Or.inl ⟨hc', hm', u1, u2, s', p', u3, by omega, u5, F4.tr u6, G4.tr u7⟩
          · exact Or.inr ⟨hc', hm', u1, u2, u3, F4.tr u4, G4.tr u5⟩
        have FA : TFc hc hc2 := (TFc.of F1).tr (TFc.of F2)
        have GA : TFm hm hm2 := (TFm.of G1).tr (TFm.of G2)
        have lt1' : s1 + 1 ≤ s2 := by omega
        by_cases e8 : hm2 0 10 = 8
        · obtain ⟨hc3, hm3, v1', v2', s3, p3, T3, q3, F3, G3⟩ := nx_2 (N := N) hN T2 (by omega)
          have R3 : RLz n hc3 hm3 := R2.frm (fun x y u => F3 x y (by unfold RCf; omega)) (fun y => G3 _ _ (by unfold RMf; omega))
          have ee : fX10_eats N 8 hm2 = some (hm3, 1) := by
            unfold fX10_eats
            rw [is_1 T2.z12 e8, c1s, if_neg n10, v2', c1s]
          rw [T2.tok, e8, t8, if_pos rfl, v1', c1s, R3.2.2.1, en, ee, c2s, if_neg n10, R3.2.2.2.1, en]
          have sp2 := T2.sp
          rcases number_2 (N := N) (lo := (a : Int)) (hi := (n : Int) - 1) hN T3 with ⟨hc4, hm4, b, y1, y2, b0, b1, b00, _, lt3, s4, p4, T4, q4, F4, G4⟩ | ⟨hc4, hm4, r, y1, y2, FT, F4, G4⟩
          · obtain ⟨b, rfl⟩ := Int.eq_ofNat_of_zero_le b00
            have R4 : RLz n hc4 hm4 := R3.frm (fun x y u => F4 x y (by unfold RCf; omega)) (fun y => G4 _ _ (by unfold RMf; omega))
            rw [y1, y2, c2s, c2s]
            exact go b s4 p4 hc4 hm4 (by omega) (by omega) T4 R4 (by omega) ((FA.tr (TFc.of F3)).tr (TFc.of F4)) ((GA.tr (TFm.of G3)).tr (TFm.of G4))
          · rw [y1, y2, c2s, c2s]
            refine Or.inr ⟨hc4, hm4, ?_, sp94_F hN FT.ne (by omega), FT, (FA.tr (TFc.of F3)).tr (TFc.of F4), (GA.tr (TFm.of G3)).tr (TFm.of G4)⟩
            unfold fX4_readSpans_108
            rw [if_pos rfl]
        · rw [T2.tok, ← t8, if_neg (fun u => e8 (tk_inj.mp u)), t8, eats_0 T2.z12 e8, c2s, if_pos rfl]
          exact go a s2 p2 hc2 hm2 (Nat.le_refl _) (by omega) T2 R2 lt1' FA GA
      · rw [y1, y2, c2s, c2s, if_pos rfl, eats_F FT.ne, c2s, if_pos rfl]
        refine Or.inr ⟨hc2, hm2, ?_, sp94_F hN FT.ne (by omega), FT, (TFc.of F1).tr (TFc.of F2), (TFm.of G1).tr (TFm.of G2)⟩
        unfold fX4_readSpans_108
        rw [if_pos rfl]
    · refine Or.inl ⟨hc, hm, ?_, ?_, s, p, T, Nat.le_refl _, R, TFc.rf, TFm.rf⟩
      · rw [fX4_readSpans_32, T.tok, ← t7, if_neg (fun u => ne (tk_inj.mp u))]
        unfold fX4_readSpans_135
        by_cases q : 400 ≤ (c : Int)
        · rw [if_pos q]
        · rw [if_neg q]
      · rw [fX10_readSpans_44, eats_0 T.z12 ne, c2s, if_pos rfl]
theorem spans_2 {w v : Int} {j : Nat} (hN : 1000 ≤ N) (v0 : rlo j ≤ v) (v1 : v ≤ rhi j) (hw : w = 1 ∧ j = 0 ∨ w = 2 ∧ j = 1 ∨ w = 5 ∧ j = 2 ∨ (w = 3 ∨ w = 4) ∧ j = 3) (T : TYz L s p hc hm) (R : RLz n hc hm) : (∃ hc' hm', fX4_readSpans N w v hc = some (hc', 1) ∧ fX10_readSpans N ((2 + 60 * j : Nat) : Int) v hm = some hm' ∧ OKr L n s hc hm hc' hm') ∨ (∃ hc' hm', fX4_readSpans N w v hc = some (hc', 0) ∧ fX10_readSpans N ((2 + 60 * j : Nat) : Int) v hm = some hm' ∧ NOr hc hm hc' hm') := by
  have t7 : tkz 7 = 7 := rfl
  have hj : j < 4 := by omega
  have sp := T.sp
  have n3 := R.1
  have n60 := R.2.1
  unfold fX4_readSpans fX10_readSpans
  rw [T.tok]
  by_cases ne : hm 0 10 = 7
  · rw [ne, t7, if_pos rfl, is_1 T.z12 ne, c1s, if_neg n10]
    exact spans_l hN v0 v1 hw L s p 0 N N hc hm (by omega) (by omega) (by omega) (by omega) T R
  · rw [← t7, if_neg (fun u => ne (tk_inj.mp u)), t7, is_0 T.z12 ne, c1s, if_pos rfl, R.2.2.1]
    have en : pv_w ((n : Int) - 1) = ((n - 1 : Nat) : Int) := by rw [pv_w_id (by omega) (by omega)]; omega
    obtain ⟨hc4, z1, z2, z3⟩ := tell_C (N := N) (w := w) (v := v) (j := j) (a := 0) (b := n - 1) (hc := hc) hN n60 (by omega) (by omega) R.2.2.1 hw
    obtain ⟨hm4, w1, w2, w3⟩ := sp11_l (N := N) (hm := hm) (v := v) (j := j) n60 hj T.z12 R.2.2.2.1 n 0 N hm (by omega) (by omega) (fun _ _ _ => rfl) (fun y a1 => by omega)
    have z1' : fX5_tell N 2 w 0 ((n - 1 : Nat) : Int) v hc = some hc4 := z1
    have w1' : fX10_readSpans_11 N ((2 + 60 * j : Nat) : Int) v N 0 hm = some hm4 := w1
    rw [en, z1', c1s, w1']
    refine Or.inl ⟨hc4, hm4, rfl, rfl, s, p, T.frm (fun x y u => z2 x y (by omega)) (fun x y u => w2 x y (by omega)), Nat.le_refl _, R.set (a := 0) (b := n - 1) hj v0 v1 z2 z3 (fun x y np => w2 x y (by omega)) (fun y _ a2 => w3 y (by omega)) (by omega), fun x y np => z2 x y (by unfold TCf RCf at np; omega), fun x y np => w2 x y (by unfold TMf RMf at np; omega)⟩
end ROD
