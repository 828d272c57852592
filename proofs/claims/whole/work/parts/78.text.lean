/-! the call: text -/
theorem place_1 {N : Nat} {a b : Int} {h : pv_H} (P : (a = 0 ∨ a = 1) ∧ 0 ≤ b ∧ b < 4 ∨ (a = 2 ∨ a = 3) ∧ b = 0) : fX9_isTextPlace N a b h = some 1 := by
  unfold fX9_isTextPlace fX9_isTextPlace_18 fX9_isTextPlace_38 fX9_isTextPlace_49 fX9_isTextPlace_58
  rcases P with ⟨z | z, y1, y2⟩ | ⟨z | z, y⟩
  · rw [if_pos z, if_neg (by omega), if_neg (by omega), if_pos (Or.inr rfl)]
  · rw [if_neg (by omega), if_pos z, if_neg (by omega), if_neg (by omega), if_pos (Or.inr rfl)]
  · rw [if_neg (by omega), if_neg (by omega), if_pos z, if_pos y, if_pos (Or.inr rfl)]
  · rw [if_neg (by omega), if_neg (by omega), if_neg (by omega), if_pos z, if_pos y, if_pos (Or.inr rfl)]
theorem place_0 {N : Nat} {a b : Int} {h : pv_H} (P : ¬ ((a = 0 ∨ a = 1) ∧ 0 ≤ b ∧ b < 4 ∨ (a = 2 ∨ a = 3) ∧ b = 0)) : fX9_isTextPlace N a b h = some 0 := by
  unfold fX9_isTextPlace fX9_isTextPlace_17 fX9_isTextPlace_37 fX9_isTextPlace_49 fX9_isTextPlace_57 fX9_isTextPlace_18 fX9_isTextPlace_38 fX9_isTextPlace_58
  rw [if_pos (Or.inl rfl)]
  by_cases z0 : a = 0
  · rw [if_pos z0]
    by_cases y : b < 0
    · rw [if_pos y]
    · rw [if_neg y, if_pos (by omega)]
  · rw [if_neg z0]
    by_cases z1 : a = 1
    · rw [if_pos z1]
      by_cases y : b < 0
      · rw [if_pos y]
      · rw [if_neg y, if_pos (by omega)]
    · rw [if_neg z1]
      by_cases z2 : a = 2
      · rw [if_pos z2, if_neg (by omega)]
      · rw [if_neg z2]
        by_cases z3 : a = 3
        · rw [if_pos z3, if_neg (by omega)]
        · rw [if_neg z3]
section TEXT
variable {N : Nat} {hc hm : pv_H}
/-- the reference's fresh row is cleared -/
theorem clear_l {a1 a2 a3 : Int} : ∀ (d i f : Nat) (h0 h : pv_H), i + d = 417 → d < f → (∀ x y, ¬ (x = 5 ∧ y < i) → h x y = h0 x y) → (∀ k, k < i → h 5 k = 0) → ∃ h', fX10_text_104 N a1 a2 a3 f (i : Int) h = (if a1 = 2 then (pv_c1 (fX10_plainLaw N 1 h') fun h28 => fX10_text_136 N a1 a2 a3 h28) else (fX10_text_136 N a1 a2 a3 h')) ∧ (∀ x y, x ≠ 5 → h' x y = h0 x y) ∧ ∀ k, k < 417 → h' 5 k = 0 := by
  intro d
  induction d with
  | zero =>
    intro i f h0 h h1 h2 F V
    obtain ⟨f, rfl⟩ : ∃ g, f = g + 1 := ⟨f - 1, by omega⟩
    rw [fX10_text_104, if_pos (by omega)]
    exact ⟨h, rfl, fun x y nx => F x y (by omega), fun k hk => V k (by omega)⟩
  | succ d ih =>
    intro i f h0 h h1 h2 F V
    obtain ⟨f, rfl⟩ : ∃ g, f = g + 1 := ⟨f - 1, by omega⟩
    rw [fX10_text_104, if_neg (by omega), if_pos (by omega), tnc, bbs, bbs, pws (by omega)]
    refine ih (i + 1) f h0 _ (by omega) (by omega) (fun x y np => by rw [pv_up_ne (by omega)]; exact F x y (by omega)) (fun k hk => ?_)
    by_cases z : k = i
    · subst z; exact pv_up_self _ _ _ _
    · rw [pv_up_ne (by omega)]; exact V k (by omega)
def plt : List Int := [100, 5, 2, 1, 50, 0, 20, 0, 0]
theorem plain_s {i f : Nat} {h : pv_H} (hi : i < 9) : fX10_plainLaw_4 N 1 (f + 1) ((1116 + i : Nat) : Int) h = fX10_plainLaw_4 N 1 f ((1116 + (i + 1) : Nat) : Int) (pv_up h 5 i (plt.getD i 0)) := by
  have ew : pv_w (((1116 + i : Nat) : Int) + 1) = ((1116 + (i + 1) : Nat) : Int) := pws (by omega)
  have ex : pv_w (((1116 + i : Nat) : Int) - 1116) = (i : Int) := by rw [pv_w_id (by omega) (by omega)]; omega
  have e81 : ∀ v : Int, fX10_plainLaw_81 N (fun v2_ hh => fX10_plainLaw_4 N 1 f v2_ hh) 1 ((1116 + i : Nat) : Int) v h = fX10_plainLaw_4 N 1 f ((1116 + (i + 1) : Nat) : Int) (pv_up h 5 i v) := by
    intro v
    unfold fX10_plainLaw_81 fX10_plainLaw_107
    rw [if_neg (by omega), ex, if_pos (by omega), tnc, bbs, bbs, ew]
  rw [fX10_plainLaw_4, if_neg (by omega), e81, e81, e81, e81, e81, e81, e81]
  rcases (show i = 0 ∨ i = 1 ∨ i = 2 ∨ i = 3 ∨ i = 4 ∨ i = 5 ∨ i = 6 ∨ i = 7 ∨ i = 8 by omega) with u | u | u | u | u | u | u | u | u <;> subst u <;> simp (disch := omega) only [if_pos, if_neg] <;> rfl
theorem plain_l : ∀ (d i f : Nat) (h0 h : pv_H), i + d = 9 → d < f → (∀ x y, ¬ (x = 5 ∧ y < i) → h x y = h0 x y) → (∀ k, k < i → h 5 k = plt.getD k 0) → ∃ h', fX10_plainLaw_4 N 1 f ((1116 + i : Nat) : Int) h = some h' ∧ (∀ x y, ¬ (x = 5 ∧ y < 9) → h' x y = h0 x y) ∧ ∀ k, k < 9 → h' 5 k = plt.getD k 0 := by
  intro d
  induction d with
  | zero =>
    intro i f h0 h h1 h2 F V
    obtain ⟨f, rfl⟩ : ∃ g, f = g + 1 := ⟨f - 1, by omega⟩
    have : i = 9 := by omega
    subst this
    rw [fX10_plainLaw_4, if_pos (by omega)]
    exact ⟨h, rfl, F, V⟩
  | succ d ih =>
    intro i f h0 h h1 h2 F V
    obtain ⟨f, rfl⟩ : ∃ g, f = g + 1 := ⟨f - 1, by omega⟩
    rw [plain_s (by omega)]
    refine ih (i + 1) f h0 _ (by omega) (by omega) (fun x y np => by rw [pv_up_ne (by omega)]; exact F x y (by omega)) (fun k hk => ?_)
    by_cases z : k = i
    · subst z; exact pv_up_self _ _ _ _
    · rw [pv_up_ne (by omega)]; exact V k (by omega)
/-- how both begin to read -/
theorem start_2 {a1 a2 s0 s1 s2 : Int} {n : Nat} (hN : 1000 ≤ N) (S : SSz hc hm) (hn : (n : Int) ≤ hm 0 6) (ws : s1 ≤ s2 ∧ s2 ≤ s0) : ∃ (hcT hmT : pv_H) (s p : Nat), fX4_begin N (n : Int) hc = some hcT ∧ fX10_text_32 N a1 a2 (n : Int) s0 s1 s2 hm = fX10_text_140 N a1 a2 (n : Int) N hmT ∧ TYz n s p hcT hmT ∧ hmT 0 14 = 0 ∧ hmT 0 17 = 0 ∧ hmT 0 18 = 0 ∧ (a1 ≠ 2 → ∀ i, i < 417 → hmT 5 i = 0) ∧ (a1 = 2 → ∀ j, j < 8 → hmT 5 j = pv_t0.getD j 0) ∧ hcT 1 0 = 0 ∧ hmT 0 6 = 0 ∧ (∀ x y, x ≠ 1 → hcT x y = hc x y) ∧ ∀ x y, x ≠ 5 → ¬ (x = 0 ∧ (y = 6 ∨ 7 ≤ y ∧ y ≤ 14 ∨ y = 17 ∨ y = 18)) → hmT x y = hm x y := by
  obtain ⟨t1, t2, t3, t4⟩ := S.1
  have em : min (n : Int) 400 = (n : Int) := by omega
  -- the class
  obtain ⟨hcB, hB⟩ : ∃ h, h = pv_up (pv_up (pv_up (pv_up (pv_up hc 1 0 0) 1 9 (n : Int)) 1 10 0) 1 1 0) 1 2 (-1) := ⟨_, rfl⟩
  have FB : ∀ x y, ¬ (x = 1 ∧ (y = 0 ∨ y = 1 ∨ y = 2 ∨ y = 9 ∨ y = 10)) → hcB x y = hc x y := fun x y np => by rw [hB, pv_up_ne (by omega), pv_up_ne (by omega), pv_up_ne (by omega), pv_up_ne (by omega), pv_up_ne (by omega)]
  have b0 : hcB 1 0 = 0 ∧ hcB 1 9 = (n : Int) ∧ hcB 1 10 = 0 ∧ hcB 1 1 = 0 ∧ hcB 1 2 = -1 := by
    rw [hB]
    simp (disch := omega) only [pu_ne, pu_eq]
    exact ⟨trivial, trivial, trivial, trivial, trivial⟩
  -- the reference
  obtain ⟨hmA, hA⟩ : ∃ h, h = pv_up (pv_up (pv_up (pv_up (pv_up (pv_up (pv_up hm 0 9 (n : Int)) 0 6 0) 0 8 0) 0 12 0) 0 14 0) 0 17 0) 0 18 0 := ⟨_, rfl⟩
  have FA : ∀ x y, ¬ (x = 0 ∧ (y = 6 ∨ y = 8 ∨ y = 9 ∨ y = 12 ∨ y = 14 ∨ y = 17 ∨ y = 18)) → hmA x y = hm x y := fun x y np => by rw [hA, pv_up_ne (by omega), pv_up_ne (by omega), pv_up_ne (by omega), pv_up_ne (by omega), pv_up_ne (by omega), pv_up_ne (by omega), pv_up_ne (by omega)]
  have a0 : hmA 0 9 = (n : Int) ∧ hmA 0 6 = 0 ∧ hmA 0 8 = 0 ∧ hmA 0 12 = 0 ∧ hmA 0 14 = 0 ∧ hmA 0 17 = 0 ∧ hmA 0 18 = 0 := by
    rw [hA]
    simp (disch := omega) only [pu_ne, pu_eq]
    exact ⟨trivial, trivial, trivial, trivial, trivial, trivial, trivial⟩
  obtain ⟨hmC, c1, c2, c3⟩ := clear_l (N := N) (a1 := a1) (a2 := a2) (a3 := (n : Int)) 417 0 N hmA hmA (by omega) (by omega) (fun _ _ _ => rfl) (fun k hk => by omega)
  have c1 : fX10_text_104 N a1 a2 (n : Int) N 0 hmA = _ := c1
  have pl : ∃ hmP, (if a1 = 2 then (pv_c1 (fX10_plainLaw N 1 hmC) fun h28 => fX10_text_136 N a1 a2 (n : Int) h28) else (fX10_text_136 N a1 a2 (n : Int) hmC)) = fX10_text_136 N a1 a2 (n : Int) hmP ∧ (∀ x y, x ≠ 5 → hmP x y = hmA x y) ∧ (a1 ≠ 2 → ∀ i, i < 417 → hmP 5 i = 0) ∧ (a1 = 2 → ∀ j, j < 8 → hmP 5 j = pv_t0.getD j 0) := by
    by_cases z : a1 = 2
    · obtain ⟨h', p1, p2, p3⟩ := plain_l (N := N) 9 0 N hmC hmC (by omega) (by omega) (fun _ _ _ => rfl) (fun k hk => by omega)
      have p1 : fX10_plainLaw N 1 hmC = some h' := p1
      rw [if_pos z, p1, c1s]
      refine ⟨h', rfl, fun x y nx => by rw [p2 x y (by omega), c2 x y nx], fun y => absurd z y, fun _ j hj => ?_⟩
      rw [p3 j (by omega)]
      rcases (show j = 0 ∨ j = 1 ∨ j = 2 ∨ j = 3 ∨ j = 4 ∨ j = 5 ∨ j = 6 ∨ j = 7 by omega) with u | u | u | u | u | u | u | u <;> subst u <;> rfl
    · rw [if_neg z]
      exact ⟨hmC, rfl, c2, fun _ => c3, fun y => absurd y z⟩
  obtain ⟨hmP, d1, d2, d3, d4⟩ := pl
  obtain ⟨q1, q2, q3, q4, q5, q6, q7⟩ := a0
  obtain ⟨r0, r1, r2, r3, r4⟩ := b0
  have NX : NXz n 0 hcB hmP := by
    refine ⟨⟨by omega, r1, by rw [d2 _ _ (by omega)]; exact q1, fun i hi => ?_⟩, by omega, r2, by rw [d2 _ _ (by omega)]; exact q3, by rw [d2 _ _ (by omega)]; exact q4, r3, r4⟩
    rw [FB _ _ (by omega), d2 _ _ (by omega), FA _ _ (by omega)]
    exact t4 i (by omega)
  obtain ⟨s, p, hcT, hmT, n1, n2, n3, n4, n5, n6⟩ := next_2 (N := N) hN NX
  refine ⟨hcT, hmT, s, p, ?_, ?_, n3, ?_, ?_, ?_, fun z i hi => ?_, fun z j hj => ?_, ?_, ?_, fun x y nx => ?_, fun x y nx ny => ?_⟩
  · unfold fX4_begin
    rw [em, bbs, bbs, bbs, bbs, bbs, ← hB, n1, c1s]
  · unfold fX10_text_32
    rw [wn_1 ws, c1s, if_neg n10, wn_1 (show 0 ≤ (n : Int) ∧ (n : Int) ≤ hm 0 6 by omega), c1s, if_neg n10, bbs, bbs, bbs, bbs, bbs, bbs, bbs, ← hA, c1, d1]
    unfold fX10_text_136
    rw [n2, c1s]
  · rw [n6 _ _ (by unfold RMf; omega), d2 _ _ (by omega)]; exact q5
  · rw [n6 _ _ (by unfold RMf; omega), d2 _ _ (by omega)]; exact q6
  · rw [n6 _ _ (by unfold RMf; omega), d2 _ _ (by omega)]; exact q7
  · rw [n6 _ _ (by unfold RMf; omega)]; exact d3 z i hi
  · rw [n6 _ _ (by unfold RMf; omega)]; exact d4 z j hj
  · rw [n5 _ _ (by unfold RCf; omega)]; exact r0
  · rw [n6 _ _ (by unfold RMf; omega), d2 _ _ (by omega)]; exact q2
  · rw [n5 _ _ (by unfold RCf; omega), FB _ _ (by omega)]
  · rw [n6 _ _ (by unfold RMf; omega), d2 _ _ nx, FA _ _ (by omega)]
theorem t225_F {a1 a2 a3 : Int} (z : ¬ hm 0 12 = 0) : fX10_text_225 N a1 a2 a3 hm = some (pv_up (pv_up (pv_up hm 0 15 (hm 0 12)) 0 16 (hm 0 13)) 1 1 (pv_w (hm 1 1 + 1)), pv_w (-10 - hm 0 12)) := by
  unfold fX10_text_225 fX10_text_249
  rw [bbs, pv_up_ne (show (0 : Nat) ≠ 0 ∨ (12 : Nat) ≠ 15 by omega), if_neg z, bbs, pv_up_ne (show (0 : Nat) ≠ 0 ∨ (12 : Nat) ≠ 16 by omega), pv_up_ne (show (0 : Nat) ≠ 0 ∨ (12 : Nat) ≠ 15 by omega), if_neg z, bbs, pv_up_ne (show (0 : Nat) ≠ 0 ∨ (13 : Nat) ≠ 15 by omega)]
  simp (disch := omega) only [pu_ne]
theorem t405_l {a1 a2 a3 : Int} {off many : Nat} (h1 : off + many ≤ 9159) (h2 : many ≤ 417) : ∀ (d i f : Nat) (h0 h : pv_H), i + d = many → d < f → (∀ x y, ¬ (x = 2 ∧ off ≤ y ∧ y < off + i) → h x y = h0 x y) → (∀ k, k < i → h 2 (off + k) = h0 5 k) → ∃ h', fX10_text_405 N a1 a2 a3 f (off : Int) (many : Int) (i : Int) h = some (h', h0 0 14) ∧ (∀ x y, ¬ (x = 2 ∧ off ≤ y ∧ y < off + many) → h' x y = h0 x y) ∧ ∀ k, k < many → h' 2 (off + k) = h0 5 k := by
  intro d
  induction d with
  | zero =>
    intro i f h0 h e1 e2 F V
    obtain ⟨f, rfl⟩ : ∃ g, f = g + 1 := ⟨f - 1, by omega⟩
    have : i = many := by omega
    subst this
    rw [fX10_text_405, if_pos (by omega), F 0 14 (by omega)]
    exact ⟨h, rfl, F, V⟩
  | succ d ih =>
    intro i f h0 h e1 e2 F V
    obtain ⟨f, rfl⟩ : ∃ g, f = g + 1 := ⟨f - 1, by omega⟩
    have x : pv_w ((off : Int) + (i : Int)) = ((off + i : Nat) : Int) := by rw [pv_w_id (by omega) (by omega)]; omega
    rw [fX10_text_405, if_neg (by omega), if_pos (by omega), x, if_pos (by omega), tnc, tnc, bbs, bbs, pws (by omega), F 5 i (by omega)]
    refine ih (i + 1) f h0 _ (by omega) (by omega) (fun x y np => by rw [pv_up_ne (by omega)]; exact F x y (by omega)) (fun k hk => ?_)
    by_cases z : k = i
    · subst z; exact pv_up_self _ _ _ _
    · rw [pv_up_ne (by omega)]; exact V k (by omega)
/-- the reference's end of a text without a FAULT -/
theorem t225_ok {a1 a2 a3 : Int} {off many : Nat} {hmX : pv_H} (hN : 1000 ≤ N) (z : hm 0 12 = 0) (h1 : off + many ≤ 9159) (h2 : many ≤ 417) (eX : fX10_text_225 N a1 a2 a3 hm = fX10_text_400 N a1 a2 a3 (off : Int) (many : Int) hmX) : ∃ h', fX10_text_225 N a1 a2 a3 hm = some (h', hmX 0 14) ∧ (∀ x y, ¬ (x = 2 ∧ off ≤ y ∧ y < off + many) → h' x y = hmX x y) ∧ ∀ k, k < many → h' 2 (off + k) = hmX 5 k := by
  rw [eX]
  unfold fX10_text_400
  exact t405_l (N := N) (a1 := a1) (a2 := a2) (a3 := a3) h1 h2 many 0 N hmX hmX (by omega) (by omega) (fun _ _ _ => rfl) (fun k hk => by omega)
/-- the relation after a text -/
theorem text_SS {hc' hm' : pv_H} (S : SSz hc hm) (F : ∀ x y, 75 ≤ x → x ≠ 77 → hc' x y = hc x y) (G : ∀ x y, x ≠ 0 → x ≠ 1 → x ≠ 5 → (x = 2 → 3053 ≤ y) → hm' x y = hm x y) (e10 : hc' 1 0 = 0) (e6 : hm' 0 6 = 0) (e1 : hc' 1 1 = hm' 0 15) (e2 : hc' 1 2 = hm' 0 16) (e43 : hm' 0 43 = 0) (rf : ∀ k, k < 8 → hc' 77 k = hm' 1 k) (ST : Stz (csz 20 hc') (msz 0 hm')) : SSz hc' hm' := by
  obtain ⟨a1, a2, a4, a5, a6, a7, a8⟩ := S
  refine ⟨⟨by rw [e10, e6], by omega, by omega, fun i hi => by omega⟩, ⟨e1, e2⟩, ST, fun i hi => ?_, fun k hk => ?_, rf, e43⟩
  · obtain ⟨h1, h2, h3⟩ := a5 i hi
    unfold imgR
    rw [F _ _ (by omega) (by omega), G _ _ (by omega) (by omega) (by omega) (by omega)]
    refine ⟨h1, h2, fun q => (h3 q).congr (fun d k hr => ?_) (fun k hk => ?_)⟩
    · have := rel_lt hr
      exact F _ _ (by omega) (by omega)
    · exact G _ _ (by omega) (by omega) (by omega) (by omega)
  · have b := a6 k hk
    unfold rowR at b ⊢
    rw [F _ _ (by omega) (by omega), F _ _ (by omega) (by omega), F _ _ (by omega) (by omega), G _ _ (by omega) (by omega) (by omega) (by omega), G _ _ (by omega) (by omega) (by omega) (by omega)]
    rcases b with b | ⟨b1, b2, b3, b4, b5, b6, b7, b8⟩
    · exact Or.inl b
    · refine Or.inr ⟨b1, b2, b3, b4, b5, b6, b7, fun i hi => ?_⟩
      rw [F _ _ (by omega) (by omega), G _ _ (by omega) (by omega) (by omega) (by omega)]
      exact b8 i hi
end TEXT
section PARTSOF
variable {c c' : Nat → Nat → Int} {m m' : Nat → Int}
theorem rodR.of {d o : Nat} (hc : ∀ x y, d ≤ x → x < d + 6 → c' x y = c x y) (hm : ∀ y, o ≤ y → y < o + 242 → m' y = m y) (h : rodR c m d o) : rodR c' m' d o := by
  obtain ⟨h1, h2, h3, h4, h5, h6⟩ := h
  have e0 : m' o = m o := hm _ (by omega) (by omega)
  have e1 : m' (o + 1) = m (o + 1) := hm _ (by omega) (by omega)
  refine ⟨by rw [hc _ _ (by omega) (by omega), e0]; exact h1, by rw [hc _ _ (by omega) (by omega), e1]; exact h2, by rw [e0]; exact h3, by rw [e1]; exact h4, by rw [e1]; exact h5, fun i hi => ?_⟩
  rw [e0] at hi
  have := h6 i hi
  rw [hc (d + 1) i (by omega) (by omega), hc (d + 2) i (by omega) (by omega), hc (d + 3) i (by omega) (by omega), hc (d + 4) i (by omega) (by omega), hc (d + 5) i (by omega) (by omega), hm (o + 2 + i) (by omega) (by omega), hm (o + 62 + i) (by omega) (by omega), hm (o + 122 + i) (by omega) (by omega), hm (o + 182 + i) (by omega) (by omega), e0]
  exact this
theorem doR.of {d o : Nat} (hc : ∀ x y, d ≤ x → x < d + 4 → c' x y = c x y) (hm : ∀ y, o ≤ y → y < o + 37 → m' y = m y) (h : doR c m d o) : doR c' m' d o := by
  obtain ⟨h1, h2, h3, h6⟩ := h
  have e0 : m' o = m o := hm _ (by omega) (by omega)
  refine ⟨by rw [hc _ _ (by omega) (by omega), e0]; exact h1, by rw [e0]; exact h2, by rw [e0]; exact h3, fun i hi => ?_⟩
  rw [e0] at hi
  have := h6 i hi
  rw [hc (d + 1) i (by omega) (by omega), hc (d + 2) i (by omega) (by omega), hc (d + 3) i (by omega) (by omega), hm (o + 1 + i) (by omega) (by omega), hm (o + 13 + i) (by omega) (by omega), hm (o + 25 + i) (by omega) (by omega)]
  exact this
theorem lawR.of (hc : ∀ x y, x = 3 ∨ x = 4 → c' x y = c x y) (hm : ∀ y, 1116 ≤ y → y ≤ 1124 → m' y = m y) (h : lawR c m) : lawR c' m' := by
  obtain ⟨h1, h2, h3⟩ := h
  refine ⟨by rw [hc _ _ (by omega), hm _ (by omega) (by omega)]; exact h1, fun j hj => by rw [hc _ _ (by omega), hm _ (by omega) (by omega)]; exact h2 j hj, ?_⟩
  unfold lawB at h3 ⊢
  rw [hm 1116 (by omega) (by omega), hm 1117 (by omega) (by omega), hm 1118 (by omega) (by omega), hm 1119 (by omega) (by omega), hm 1120 (by omega) (by omega), hm 1121 (by omega) (by omega), hm 1122 (by omega) (by omega), hm 1123 (by omega) (by omega)]
  exact h3
theorem lookR.of (hc : ∀ x y, 5 ≤ x → x ≤ 8 → c' x y = c x y) (hm : ∀ y, 2636 ≤ y → y < 3053 → m' y = m y) (h : lookR c m) : lookR c' m' := by
  obtain ⟨h1, h2, h3, h4⟩ := h
  have e0 : m' 2636 = m 2636 := hm _ (by omega) (by omega)
  refine ⟨by rw [hc _ _ (by omega) (by omega), e0]; exact h1, by rw [e0]; exact h2, by rw [e0]; exact h3, fun l hl => ?_⟩
  rw [e0] at hl
  obtain ⟨a, b, q1, q2, q3, q4, q5, q6, q7, q8⟩ := h4 l hl
  refine ⟨a, b, q1, q2, by rw [hc _ _ (by omega) (by omega)]; exact q3, by rw [hc _ _ (by omega) (by omega)]; exact q4, by rw [hm _ (by omega) (by omega)]; exact q5, by rw [hm _ (by omega) (by omega)]; exact q6, ?_, fun j a1 b1 => ?_⟩
  · rw [wfs_congr (g := fun j => m (2653 + 2 * j)) (g' := fun j => m' (2653 + 2 * j)) _ _ _ (fun i a1 b1 => hm _ (by omega) (by omega))]
    exact q7
  · rw [hc _ _ (by omega) (by omega), hc _ _ (by omega) (by omega), hm _ (by omega) (by omega), hm _ (by omega) (by omega)]
    exact q8 j a1 b1
theorem keptR.of (hc : ∀ x y, x = 0 ∨ 10 ≤ x ∧ x ≤ 14 → c' x y = c x y) (hm : ∀ y, 1125 ≤ y → y ≤ 2635 → m' y = m y) (h : keptR c m) : keptR c' m' := by
  obtain ⟨h1, h2, h3⟩ := h
  have e0 : m' 1125 = m 1125 := hm _ (by omega) (by omega)
  refine ⟨by rw [hc _ _ (by omega), e0]; exact h1, by rw [e0]; exact h2, ?_⟩
  rw [e0]
  intro q
  obtain ⟨a1, a2, a3, a4, a5, a6, a7, a8, a9, a10, a11, a12, a13, a14, a15⟩ := h3 q
  have e1 : m' 1126 = m 1126 := hm _ (by omega) (by omega)
  have e2 : m' 1127 = m 1127 := hm _ (by omega) (by omega)
  have e3 : m' 1128 = m 1128 := hm _ (by omega) (by omega)
  have e4 : m' 1134 = m 1134 := hm _ (by omega) (by omega)
  have e5 : m' 1135 = m 1135 := hm _ (by omega) (by omega)
  have e6 : m' 2635 = m 2635 := hm _ (by omega) (by omega)
  have e7 : c' 10 0 = c 10 0 := hc _ _ (by omega)
  rw [e1, e2, e3, e4, e5, e6, e7]
  refine ⟨fun t ht => ?_, a2, a3, a4, a5, a6, a7, fun w i hw hi => ?_, fun i hi => ?_, fun i hi => ?_, fun w i hw hi => ?_, a12, a13, a14, a15⟩
  · rw [hc _ _ (by omega), hm _ (by omega) (by omega)]; exact a1 t ht
  · rw [hc _ _ (by omega), hm _ (by omega) (by omega)]; exact a8 w i hw hi
  · rw [hm _ (by omega) (by omega)]; exact a9 i hi
  · rw [hc _ _ (by omega), hm _ (by omega) (by omega)]; exact a10 i hi
  · rw [hc _ _ (by omega), hm _ (by omega) (by omega)]; exact a11 w i hw hi
end PARTSOF
section ADOPT
variable {hc hm hc1 hm1 : pv_H}
/-- what holds of both when a text has been read -/
def RTz (hc hm hc1 hm1 : pv_H) : Prop := hc1 1 0 = 0 ∧ hm1 0 6 = 0 ∧ (∀ x y, 19 ≤ x → hc1 x y = hc x y) ∧ (∀ x y, x ≠ 0 → x ≠ 5 → hm1 x y = hm x y) ∧ hm1 0 43 = 0
/-- the reference's last rows -/
def lastz (hm1 : pv_H) : pv_H := pv_up (pv_up hm1 0 15 0) 0 16 (-1)
theorem adopt_rod {k n u : Nat} {a3 : Int} (S : SSz hc hm) (X : RTz hc hm hc1 hm1) (hk : k < 4) (R : RLz n hc1 hm1) (z12 : hm1 0 12 = 0) (z14 : hm1 0 14 = (u : Int)) (c1 : hc1 1 1 = 0) (c2 : hc1 1 2 = -1) : ∃ hc' hm', fX9_adoptText pv_NN 0 (k : Int) hc1 = some hc' ∧ fX10_text_225 pv_NN 0 (k : Int) a3 hm1 = some (hm', (u : Int)) ∧ SSz hc' hm' := by
  obtain ⟨x1, x2, x3, x4, x5⟩ := X
  obtain ⟨hcA, e1, f1, v1⟩ := cp5 (N := pv_NN) (tt := 35 + 6 * k) (a := 2) (h := hc1) (by omega)
  have eC : fX9_adoptText pv_NN 0 (k : Int) hc1 = some hcA := by
    unfold fX9_adoptText fX9_adoptText_95
    rw [if_pos rfl, if_pos (by omega), tnc, bbs, e1, c1s]
  have ew : pv_w (242 * (k : Int)) = ((242 * k : Nat) : Int) := by rw [pv_w_id (by omega) (by omega)]; omega
  have l12 : lastz hm1 0 12 = 0 := by unfold lastz; rw [pv_up_ne (by omega), pv_up_ne (by omega)]; exact z12
  have eX : fX10_text_225 pv_NN 0 (k : Int) a3 hm1 = fX10_text_400 pv_NN 0 (k : Int) a3 ((242 * k : Nat) : Int) ((242 : Nat) : Int) (lastz hm1) := by
    unfold fX10_text_225 fX10_text_249 fX10_text_292 fX10_text_308 fX10_text_323 fX10_text_365
    rw [bbs, pv_up_ne (show (0 : Nat) ≠ 0 ∨ (12 : Nat) ≠ 15 by omega), z12, if_pos rfl, bbs]
    have l12' : pv_up (pv_up hm1 0 15 0) 0 16 (-1) 0 12 = 0 := l12
    rw [l12', if_pos rfl, if_neg (by omega), if_neg (by omega), if_neg (by omega), if_pos rfl, if_pos rfl, ew]
    rfl
  obtain ⟨hmA, e2, f2, v2⟩ := t225_ok (N := pv_NN) (hmX := lastz hm1) (by decide) z12 (by omega) (by omega) eX
  have lz : ∀ x y, ¬ (x = 0 ∧ (y = 15 ∨ y = 16)) → lastz hm1 x y = hm1 x y := fun x y np => by unfold lastz; rw [pv_up_ne (by omega), pv_up_ne (by omega)]
  have l15 : lastz hm1 0 15 = 0 ∧ lastz hm1 0 16 = -1 := by unfold lastz; exact ⟨by rw [pv_up_ne (by omega), pv_up_self], pv_up_self _ _ _ _⟩
  have l14 : lastz hm1 0 14 = (u : Int) := by rw [lz _ _ (by omega)]; exact z14
  rw [l14] at e2
  refine ⟨hcA, hmA, eC, e2, ?_⟩
  obtain ⟨h1, h2, h3, h4, h5⟩ := S.2.2.1
  refine text_SS S (fun x y q1 q2 => by rw [f1 x y (by omega), x3 x y (by omega)]) (fun x y q1 q2 q3 q4 => by rw [f2 x y (by omega), lz x y (by omega), x4 x y q1 q3]) (by rw [f1 _ _ (by omega)]; exact x1) (by rw [f2 _ _ (by omega), lz _ _ (by omega)]; exact x2) ?_ ?_ (by rw [f2 _ _ (by omega), lz _ _ (by omega)]; exact x5) (fun j hj => by rw [f1 _ _ (by omega), x3 _ _ (by omega), f2 _ _ (by omega), lz _ _ (by omega), x4 _ _ (by omega) (by omega)]; exact S.2.2.2.2.2.1 j hj) ⟨fun r hr => ?_, fun r hr => ?_, ?_, ?_, ?_⟩
  · rw [f1 _ _ (by omega), f2 _ _ (by omega), c1, l15.1]
  · rw [f1 _ _ (by omega), f2 _ _ (by omega), c2, l15.2]
  · by_cases z : r = k
    · subst z
      obtain ⟨r1, r2, r3, r4, r5, r6, r7, r8, r9⟩ := R
      have rowC : ∀ j y, (j = 0 ∧ y < 2 ∨ 1 ≤ j ∧ j ≤ 5 ∧ y < 60) → csz 20 hcA (15 + 6 * r + j) y = hc1 (2 + j) y := fun j y q => by
        have e : 20 + (15 + 6 * r + j) = 35 + 6 * r + j := by omega
        unfold csz
        rw [e]
        exact v1 j y q
      have rowM : ∀ y, y < 242 → msz 0 hmA (242 * r + y) = hm1 5 y := fun y q => by
        unfold msz
        rw [Nat.zero_add, v2 y q, lz _ _ (by omega)]
      have m0 : msz 0 hmA (242 * r) = (n : Int) := (rowM 0 (by omega)).trans r4
      have m1 : msz 0 hmA (242 * r + 1) = hm1 5 1 := rowM 1 (by omega)
      have c0 : csz 20 hcA (15 + 6 * r) 0 = (n : Int) := (rowC 0 0 (by omega)).trans r3
      have cc1 : csz 20 hcA (15 + 6 * r) 1 = hm1 5 1 := (rowC 0 1 (by omega)).trans r5
      refine ⟨by rw [c0, m0], by rw [cc1, m1], Or.inr ?_, by rw [m1]; exact r6, by rw [m1]; exact r7, fun i hi => ?_⟩
      · rw [m0]; omega
      · rw [m0] at hi ⊢
        have i60 : i < n := by omega
        have t0 := r8 0 i (by omega) i60
        have t1 := r8 1 i (by omega) i60
        have t2 := r8 2 i (by omega) i60
        have t3 := r8 3 i (by omega) i60
        have u0 : msz 0 hmA (242 * r + 2 + i) = hm1 5 (2 + 60 * 0 + i) := by rw [show 242 * r + 2 + i = 242 * r + (2 + 60 * 0 + i) by omega]; exact rowM _ (by omega)
        have u1 : msz 0 hmA (242 * r + 62 + i) = hm1 5 (2 + 60 * 1 + i) := by rw [show 242 * r + 62 + i = 242 * r + (2 + 60 * 1 + i) by omega]; exact rowM _ (by omega)
        have u2 : msz 0 hmA (242 * r + 122 + i) = hm1 5 (2 + 60 * 2 + i) := by rw [show 242 * r + 122 + i = 242 * r + (2 + 60 * 2 + i) by omega]; exact rowM _ (by omega)
        have u3 : msz 0 hmA (242 * r + 182 + i) = hm1 5 (2 + 60 * 3 + i) := by rw [show 242 * r + 182 + i = 242 * r + (2 + 60 * 3 + i) by omega]; exact rowM _ (by omega)
        rw [u0, u1, u2, u3, rowC 1 i (by omega), rowC 2 i (by omega), rowC 3 i (by omega), rowC 4 i (by omega), rowC 5 i (by omega)]
        exact ⟨t0.1, t0.2.1, t0.2.2, t1.1, t1.2.1, t1.2.2, t2.1, t2.2.1, t2.2.2, t3.1, t3.2.1, t3.2.2, r9 i i60⟩
    · exact (h1 r hr).of (fun x y q1 q2 => by unfold csz; rw [f1 _ _ (by omega), x3 _ _ (by omega)]) (fun y q1 q2 => by unfold msz; rw [f2 _ _ (by omega), lz _ _ (by omega), x4 _ _ (by omega) (by omega)])
  · exact (h2 r hr).of (fun x y q1 q2 => by unfold csz; rw [f1 _ _ (by omega), x3 _ _ (by omega)]) (fun y q1 q2 => by unfold msz; rw [f2 _ _ (by omega), lz _ _ (by omega), x4 _ _ (by omega) (by omega)])
  · exact h3.of (fun x y q => by unfold csz; rw [f1 _ _ (by omega), x3 _ _ (by omega)]) (fun y q1 q2 => by unfold msz; rw [f2 _ _ (by omega), lz _ _ (by omega), x4 _ _ (by omega) (by omega)])
  · exact h4.of (fun x y q1 q2 => by unfold csz; rw [f1 _ _ (by omega), x3 _ _ (by omega)]) (fun y q1 q2 => by unfold msz; rw [f2 _ _ (by omega), lz _ _ (by omega), x4 _ _ (by omega) (by omega)])
  · exact h5.of (fun x y q => by unfold csz; rw [f1 _ _ (by omega), x3 _ _ (by omega)]) (fun y q1 q2 => by unfold msz; rw [f2 _ _ (by omega), lz _ _ (by omega), x4 _ _ (by omega) (by omega)])
theorem adopt_do {k u : Nat} {a3 : Int} (S : SSz hc hm) (X : RTz hc hm hc1 hm1) (hk : k < 4) (R : DLz u hc1 hm1) (z12 : hm1 0 12 = 0) (z14 : hm1 0 14 = (u : Int)) (c1 : hc1 1 1 = 0) (c2 : hc1 1 2 = -1) : ∃ hc' hm', fX9_adoptText pv_NN 1 (k : Int) hc1 = some hc' ∧ fX10_text_225 pv_NN 1 (k : Int) a3 hm1 = some (hm', (u : Int)) ∧ SSz hc' hm' := by
  obtain ⟨x1, x2, x3, x4, x5⟩ := X
  obtain ⟨hcA, e1, f1, v1⟩ := cp0 (N := pv_NN) (tt := 59 + 4 * k) (a := 8) (h := hc1) (by omega)
  have eC : fX9_adoptText pv_NN 1 (k : Int) hc1 = some hcA := by
    unfold fX9_adoptText fX9_adoptText_95
    rw [if_neg (by omega), if_pos rfl, if_pos (by omega), tnc, bbs, e1, c1s]
  have ew : pv_w (968 + pv_w (37 * (k : Int))) = ((968 + 37 * k : Nat) : Int) := by rw [pv_w_id (x := 37 * (k : Int)) (by omega) (by omega), pv_w_id (by omega) (by omega)]; omega
  obtain ⟨hmX, hX⟩ : ∃ h, h = pv_up (lastz hm1) 5 0 (u : Int) := ⟨_, rfl⟩
  have l12 : lastz hm1 0 12 = 0 := by unfold lastz; rw [pv_up_ne (by omega), pv_up_ne (by omega)]; exact z12
  have l14' : lastz hm1 0 14 = (u : Int) := by unfold lastz; rw [pv_up_ne (by omega), pv_up_ne (by omega)]; exact z14
  have eX : fX10_text_225 pv_NN 1 (k : Int) a3 hm1 = fX10_text_400 pv_NN 1 (k : Int) a3 ((968 + 37 * k : Nat) : Int) ((37 : Nat) : Int) hmX := by
    unfold fX10_text_225 fX10_text_249 fX10_text_292 fX10_text_308 fX10_text_323 fX10_text_365
    rw [bbs, pv_up_ne (show (0 : Nat) ≠ 0 ∨ (12 : Nat) ≠ 15 by omega), z12, if_pos rfl, bbs]
    have l12' : pv_up (pv_up hm1 0 15 0) 0 16 (-1) 0 12 = 0 := l12
    have l14'' : pv_up (pv_up hm1 0 15 0) 0 16 (-1) 0 14 = (u : Int) := l14'
    rw [l12', if_pos rfl, if_pos rfl, l14'', bbs, if_neg (by omega), if_neg (by omega), if_neg (by omega), if_pos rfl, if_neg (by omega), if_pos rfl, ew, hX]
    rfl
  obtain ⟨hmA, e2, f2, v2⟩ := t225_ok (N := pv_NN) (hmX := hmX) (by decide) z12 (by omega) (by omega) eX
  have lz : ∀ x y, ¬ (x = 0 ∧ (y = 15 ∨ y = 16) ∨ x = 5 ∧ y = 0) → hmX x y = hm1 x y := fun x y np => by rw [hX, pv_up_ne (by omega)]; unfold lastz; rw [pv_up_ne (by omega), pv_up_ne (by omega)]
  have l15 : hmX 0 15 = 0 ∧ hmX 0 16 = -1 := by rw [hX]; unfold lastz; exact ⟨by rw [pv_up_ne (by omega), pv_up_ne (by omega), pv_up_self], by rw [pv_up_ne (by omega), pv_up_self]⟩
  have l50 : hmX 5 0 = (u : Int) := by rw [hX, pv_up_self]
  have l14 : hmX 0 14 = (u : Int) := by rw [lz _ _ (by omega)]; exact z14
  rw [l14] at e2
  refine ⟨hcA, hmA, eC, e2, ?_⟩
  obtain ⟨h1, h2, h3, h4, h5⟩ := S.2.2.1
  refine text_SS S (fun x y q1 q2 => by rw [f1 x y (by omega), x3 x y (by omega)]) (fun x y q1 q2 q3 q4 => by rw [f2 x y (by omega), lz x y (by omega), x4 x y q1 q3]) (by rw [f1 _ _ (by omega)]; exact x1) (by rw [f2 _ _ (by omega), lz _ _ (by omega)]; exact x2) ?_ ?_ (by rw [f2 _ _ (by omega), lz _ _ (by omega)]; exact x5) (fun j hj => by rw [f1 _ _ (by omega), x3 _ _ (by omega), f2 _ _ (by omega), lz _ _ (by omega), x4 _ _ (by omega) (by omega)]; exact S.2.2.2.2.2.1 j hj) ⟨fun r hr => ?_, fun r hr => ?_, ?_, ?_, ?_⟩
  · rw [f1 _ _ (by omega), f2 _ _ (by omega), c1, l15.1]
  · rw [f1 _ _ (by omega), f2 _ _ (by omega), c2, l15.2]
  · exact (h1 r hr).of (fun x y q1 q2 => by unfold csz; rw [f1 _ _ (by omega), x3 _ _ (by omega)]) (fun y q1 q2 => by unfold msz; rw [f2 _ _ (by omega), lz _ _ (by omega), x4 _ _ (by omega) (by omega)])
  · by_cases z : r = k
    · subst z
      obtain ⟨r1, r2, r3⟩ := R
      have rowC : ∀ j y, (j = 0 ∧ y = 0 ∨ 1 ≤ j ∧ j ≤ 3 ∧ y < 12) → csz 20 hcA (39 + 4 * r + j) y = hc1 (8 + j) y := fun j y q => by
        have e : 20 + (39 + 4 * r + j) = 59 + 4 * r + j := by omega
        unfold csz
        rw [e]
        exact v1 j y q
      have rowM : ∀ y, y < 37 → msz 0 hmA (968 + 37 * r + y) = hmX 5 y := fun y q => by
        unfold msz
        rw [Nat.zero_add, v2 y q]
      have m0 : msz 0 hmA (968 + 37 * r) = (u : Int) := (rowM 0 (by omega)).trans l50
      have c0 : csz 20 hcA (39 + 4 * r) 0 = (u : Int) := (rowC 0 0 (by omega)).trans r2
      refine ⟨by rw [c0, m0], by rw [m0]; omega, by rw [m0]; omega, fun i hi => ?_⟩
      rw [m0] at hi
      have w := r3 i (by omega)
      have u0 : msz 0 hmA (968 + 37 * r + 1 + i) = hm1 5 (1 + i) := by rw [show 968 + 37 * r + 1 + i = 968 + 37 * r + (1 + i) by omega, rowM _ (by omega)]; exact lz _ _ (by omega)
      have u1 : msz 0 hmA (968 + 37 * r + 13 + i) = hm1 5 (13 + i) := by rw [show 968 + 37 * r + 13 + i = 968 + 37 * r + (13 + i) by omega, rowM _ (by omega)]; exact lz _ _ (by omega)
      have u2 : msz 0 hmA (968 + 37 * r + 25 + i) = hm1 5 (25 + i) := by rw [show 968 + 37 * r + 25 + i = 968 + 37 * r + (25 + i) by omega, rowM _ (by omega)]; exact lz _ _ (by omega)
      rw [u0, u1, u2, rowC 1 i (by omega), rowC 2 i (by omega), rowC 3 i (by omega)]
      exact w
    · exact (h2 r hr).of (fun x y q1 q2 => by unfold csz; rw [f1 _ _ (by omega), x3 _ _ (by omega)]) (fun y q1 q2 => by unfold msz; rw [f2 _ _ (by omega), lz _ _ (by omega), x4 _ _ (by omega) (by omega)])
  · exact h3.of (fun x y q => by unfold csz; rw [f1 _ _ (by omega), x3 _ _ (by omega)]) (fun y q1 q2 => by unfold msz; rw [f2 _ _ (by omega), lz _ _ (by omega), x4 _ _ (by omega) (by omega)])
  · exact h4.of (fun x y q1 q2 => by unfold csz; rw [f1 _ _ (by omega), x3 _ _ (by omega)]) (fun y q1 q2 => by unfold msz; rw [f2 _ _ (by omega), lz _ _ (by omega), x4 _ _ (by omega) (by omega)])
  · exact h5.of (fun x y q => by unfold csz; rw [f1 _ _ (by omega), x3 _ _ (by omega)]) (fun y q1 q2 => by unfold msz; rw [f2 _ _ (by omega), lz _ _ (by omega), x4 _ _ (by omega) (by omega)])
theorem adopt_law {u : Nat} {a3 : Int} (S : SSz hc hm) (X : RTz hc hm hc1 hm1) (R : LLz hc1 hm1) (u0 : hc1 12 0 = (u : Int)) (z12 : hm1 0 12 = 0) (z14 : hm1 0 14 = (u : Int)) (c1 : hc1 1 1 = 0) (c2 : hc1 1 2 = -1) : ∃ hc' hm', fX9_adoptText pv_NN 2 0 hc1 = some hc' ∧ fX10_text_225 pv_NN 2 0 a3 hm1 = some (hm', (u : Int)) ∧ SSz hc' hm' := by
  obtain ⟨x1, x2, x3, x4, x5⟩ := X
  obtain ⟨hcA, e1, f1, v1⟩ := cp2 (N := pv_NN) (tt := 23) (a := 12) (h := hc1) (by omega)
  have eC : fX9_adoptText pv_NN 2 0 hc1 = some hcA := by
    unfold fX9_adoptText fX9_adoptText_95
    rw [if_neg (by omega), if_neg (by omega), if_pos rfl, e1, c1s]
  obtain ⟨hmX, hX⟩ : ∃ h, h = pv_up (lastz hm1) 5 8 (u : Int) := ⟨_, rfl⟩
  have l12 : lastz hm1 0 12 = 0 := by unfold lastz; rw [pv_up_ne (by omega), pv_up_ne (by omega)]; exact z12
  have l14' : lastz hm1 0 14 = (u : Int) := by unfold lastz; rw [pv_up_ne (by omega), pv_up_ne (by omega)]; exact z14
  have eX : fX10_text_225 pv_NN 2 0 a3 hm1 = fX10_text_400 pv_NN 2 0 a3 ((1116 : Nat) : Int) ((9 : Nat) : Int) hmX := by
    unfold fX10_text_225 fX10_text_249 fX10_text_292 fX10_text_308 fX10_text_323 fX10_text_365
    rw [bbs, pv_up_ne (show (0 : Nat) ≠ 0 ∨ (12 : Nat) ≠ 15 by omega), z12, if_pos rfl, bbs]
    have l12' : pv_up (pv_up hm1 0 15 0) 0 16 (-1) 0 12 = 0 := l12
    have l14'' : pv_up (pv_up hm1 0 15 0) 0 16 (-1) 0 14 = (u : Int) := l14'
    rw [l12', if_pos rfl, if_neg (show ¬ (2 : Int) = 1 by omega), if_pos rfl, l14'', bbs, if_neg (show ¬ (2 : Int) = 3 by omega), if_neg (show ¬ (2 : Int) = 0 by omega), if_neg (show ¬ (2 : Int) = 1 by omega), if_pos rfl, if_neg (show ¬ (2 : Int) = 0 by omega), if_neg (show ¬ (2 : Int) = 1 by omega), if_pos rfl, hX]
    rfl
  obtain ⟨hmA, e2, f2, v2⟩ := t225_ok (N := pv_NN) (hmX := hmX) (by decide) z12 (by omega) (by omega) eX
  have lz : ∀ x y, ¬ (x = 0 ∧ (y = 15 ∨ y = 16) ∨ x = 5 ∧ y = 8) → hmX x y = hm1 x y := fun x y np => by rw [hX, pv_up_ne (by omega)]; unfold lastz; rw [pv_up_ne (by omega), pv_up_ne (by omega)]
  have l15 : hmX 0 15 = 0 ∧ hmX 0 16 = -1 := by rw [hX]; unfold lastz; exact ⟨by rw [pv_up_ne (by omega), pv_up_ne (by omega), pv_up_self], by rw [pv_up_ne (by omega), pv_up_self]⟩
  have l58 : hmX 5 8 = (u : Int) := by rw [hX, pv_up_self]
  have l14 : hmX 0 14 = (u : Int) := by rw [lz _ _ (by omega)]; exact z14
  rw [l14] at e2
  refine ⟨hcA, hmA, eC, e2, ?_⟩
  obtain ⟨h1, h2, h3, h4, h5⟩ := S.2.2.1
  refine text_SS S (fun x y q1 q2 => by rw [f1 x y (by omega), x3 x y (by omega)]) (fun x y q1 q2 q3 q4 => by rw [f2 x y (by omega), lz x y (by omega), x4 x y q1 q3]) (by rw [f1 _ _ (by omega)]; exact x1) (by rw [f2 _ _ (by omega), lz _ _ (by omega)]; exact x2) ?_ ?_ (by rw [f2 _ _ (by omega), lz _ _ (by omega)]; exact x5) (fun j hj => by rw [f1 _ _ (by omega), x3 _ _ (by omega), f2 _ _ (by omega), lz _ _ (by omega), x4 _ _ (by omega) (by omega)]; exact S.2.2.2.2.2.1 j hj) ⟨fun r hr => ?_, fun r hr => ?_, ?_, ?_, ?_⟩
  · rw [f1 _ _ (by omega), f2 _ _ (by omega), c1, l15.1]
  · rw [f1 _ _ (by omega), f2 _ _ (by omega), c2, l15.2]
  · exact (h1 r hr).of (fun x y q1 q2 => by unfold csz; rw [f1 _ _ (by omega), x3 _ _ (by omega)]) (fun y q1 q2 => by unfold msz; rw [f2 _ _ (by omega), lz _ _ (by omega), x4 _ _ (by omega) (by omega)])
  · exact (h2 r hr).of (fun x y q1 q2 => by unfold csz; rw [f1 _ _ (by omega), x3 _ _ (by omega)]) (fun y q1 q2 => by unfold msz; rw [f2 _ _ (by omega), lz _ _ (by omega), x4 _ _ (by omega) (by omega)])
  · have rowM : ∀ y, y < 9 → msz 0 hmA (1116 + y) = hmX 5 y := fun y q => by
      unfold msz
      rw [Nat.zero_add, v2 y q]
    have m8 : msz 0 hmA 1124 = (u : Int) := (rowM 8 (by omega)).trans l58
    have mj : ∀ j, j < 8 → msz 0 hmA (1116 + j) = hm1 5 j := fun j hj => (rowM j (by omega)).trans (lz _ _ (by omega))
    have cj : ∀ j, j < 8 → csz 20 hcA 4 j = hc1 13 j := fun j hj => v1 1 j (by omega)
    have c0 : csz 20 hcA 3 0 = (u : Int) := (v1 0 0 (by omega)).trans u0
    refine ⟨by rw [c0, m8], fun j hj => by rw [cj j hj, mj j hj]; exact (R j hj).1, ?_⟩
    have b : ∀ j, j < 8 → llo j ≤ msz 0 hmA (1116 + j) ∧ msz 0 hmA (1116 + j) ≤ lhi j := fun j hj => by rw [mj j hj]; exact (R j hj).2
    have b0 := b 0 (by omega)
    have b1 := b 1 (by omega)
    have b2 := b 2 (by omega)
    have b3 := b 3 (by omega)
    have b4 := b 4 (by omega)
    have b5 := b 5 (by omega)
    have b6 := b 6 (by omega)
    have b7 := b 7 (by omega)
    exact ⟨b0.1, b0.2, b1.1, b1.2, b2.1, b2.2, b3.1, b3.2, b4.1, b4.2, b5.1, b5.2, b6.1, b6.2, b7.1, b7.2⟩
  · exact h4.of (fun x y q1 q2 => by unfold csz; rw [f1 _ _ (by omega), x3 _ _ (by omega)]) (fun y q1 q2 => by unfold msz; rw [f2 _ _ (by omega), lz _ _ (by omega), x4 _ _ (by omega) (by omega)])
  · exact h5.of (fun x y q => by unfold csz; rw [f1 _ _ (by omega), x3 _ _ (by omega)]) (fun y q1 q2 => by unfold msz; rw [f2 _ _ (by omega), lz _ _ (by omega), x4 _ _ (by omega) (by omega)])
theorem adopt_look {u c : Nat} {a3 : Int} (S : SSz hc hm) (X : RTz hc hm hc1 hm1) (R : KLz u c hc1 hm1) (c200 : c ≤ 200) (z12 : hm1 0 12 = 0) (z14 : hm1 0 14 = (u : Int)) (c1 : hc1 1 1 = 0) (c2 : hc1 1 2 = -1) : ∃ hc' hm', fX9_adoptText pv_NN 3 0 hc1 = some hc' ∧ fX10_text_225 pv_NN 3 0 a3 hm1 = some (hm', (u : Int)) ∧ SSz hc' hm' := by
  obtain ⟨x1, x2, x3, x4, x5⟩ := X
  obtain ⟨hcA, e1, f1, v1⟩ := cp3 (N := pv_NN) (tt := 25) (a := 14) (h := hc1) (by omega)
  have eC : fX9_adoptText pv_NN 3 0 hc1 = some hcA := by
    unfold fX9_adoptText fX9_adoptText_95
    rw [if_neg (by omega), if_neg (by omega), if_neg (by omega), e1, c1s]
  obtain ⟨hmX, hX⟩ : ∃ h, h = pv_up (lastz hm1) 5 0 (u : Int) := ⟨_, rfl⟩
  have l12 : lastz hm1 0 12 = 0 := by unfold lastz; rw [pv_up_ne (by omega), pv_up_ne (by omega)]; exact z12
  have l14' : lastz hm1 0 14 = (u : Int) := by unfold lastz; rw [pv_up_ne (by omega), pv_up_ne (by omega)]; exact z14
  have eX : fX10_text_225 pv_NN 3 0 a3 hm1 = fX10_text_400 pv_NN 3 0 a3 ((2636 : Nat) : Int) ((417 : Nat) : Int) hmX := by
    unfold fX10_text_225 fX10_text_249 fX10_text_292 fX10_text_308 fX10_text_323 fX10_text_365
    rw [bbs, pv_up_ne (show (0 : Nat) ≠ 0 ∨ (12 : Nat) ≠ 15 by omega), z12, if_pos rfl, bbs]
    have l12' : pv_up (pv_up hm1 0 15 0) 0 16 (-1) 0 12 = 0 := l12
    have l14'' : pv_up (pv_up hm1 0 15 0) 0 16 (-1) 0 14 = (u : Int) := l14'
    rw [l12', if_pos rfl, if_neg (show ¬ (3 : Int) = 1 by omega), if_neg (show ¬ (3 : Int) = 2 by omega), if_pos rfl, l14'', bbs, if_neg (show ¬ (3 : Int) = 0 by omega), if_neg (show ¬ (3 : Int) = 1 by omega), if_neg (show ¬ (3 : Int) = 2 by omega), if_neg (show ¬ (3 : Int) = 0 by omega), if_neg (show ¬ (3 : Int) = 1 by omega), if_neg (show ¬ (3 : Int) = 2 by omega), hX]
    rfl
  obtain ⟨hmA, e2, f2, v2⟩ := t225_ok (N := pv_NN) (hmX := hmX) (by decide) z12 (by omega) (by omega) eX
  have lz : ∀ x y, ¬ (x = 0 ∧ (y = 15 ∨ y = 16) ∨ x = 5 ∧ y = 0) → hmX x y = hm1 x y := fun x y np => by rw [hX, pv_up_ne (by omega)]; unfold lastz; rw [pv_up_ne (by omega), pv_up_ne (by omega)]
  have l15 : hmX 0 15 = 0 ∧ hmX 0 16 = -1 := by rw [hX]; unfold lastz; exact ⟨by rw [pv_up_ne (by omega), pv_up_ne (by omega), pv_up_self], by rw [pv_up_ne (by omega), pv_up_self]⟩
  have l50 : hmX 5 0 = (u : Int) := by rw [hX, pv_up_self]
  have l14 : hmX 0 14 = (u : Int) := by rw [lz _ _ (by omega)]; exact z14
  rw [l14] at e2
  refine ⟨hcA, hmA, eC, e2, ?_⟩
  obtain ⟨h1, h2, h3, h4, h5⟩ := S.2.2.1
  refine text_SS S (fun x y q1 q2 => by rw [f1 x y (by omega), x3 x y (by omega)]) (fun x y q1 q2 q3 q4 => by rw [f2 x y (by omega), lz x y (by omega), x4 x y q1 q3]) (by rw [f1 _ _ (by omega)]; exact x1) (by rw [f2 _ _ (by omega), lz _ _ (by omega)]; exact x2) ?_ ?_ (by rw [f2 _ _ (by omega), lz _ _ (by omega)]; exact x5) (fun j hj => by rw [f1 _ _ (by omega), x3 _ _ (by omega), f2 _ _ (by omega), lz _ _ (by omega), x4 _ _ (by omega) (by omega)]; exact S.2.2.2.2.2.1 j hj) ⟨fun r hr => ?_, fun r hr => ?_, ?_, ?_, ?_⟩
  · rw [f1 _ _ (by omega), f2 _ _ (by omega), c1, l15.1]
  · rw [f1 _ _ (by omega), f2 _ _ (by omega), c2, l15.2]
  · exact (h1 r hr).of (fun x y q1 q2 => by unfold csz; rw [f1 _ _ (by omega), x3 _ _ (by omega)]) (fun y q1 q2 => by unfold msz; rw [f2 _ _ (by omega), lz _ _ (by omega), x4 _ _ (by omega) (by omega)])
  · exact (h2 r hr).of (fun x y q1 q2 => by unfold csz; rw [f1 _ _ (by omega), x3 _ _ (by omega)]) (fun y q1 q2 => by unfold msz; rw [f2 _ _ (by omega), lz _ _ (by omega), x4 _ _ (by omega) (by omega)])
  · exact h3.of (fun x y q => by unfold csz; rw [f1 _ _ (by omega), x3 _ _ (by omega)]) (fun y q1 q2 => by unfold msz; rw [f2 _ _ (by omega), lz _ _ (by omega), x4 _ _ (by omega) (by omega)])
  · obtain ⟨r1, r2, r3, r4, r5, r6⟩ := R
    have rowM : ∀ y, y < 417 → msz 0 hmA (2636 + y) = hmX 5 y := fun y q => by
      unfold msz
      rw [Nat.zero_add, v2 y q]
    have m0 : msz 0 hmA 2636 = (u : Int) := (rowM 0 (by omega)).trans l50
    have c0 : csz 20 hcA 5 0 = (u : Int) := (v1 0 0 (by omega)).trans r2
    have cb : ∀ l, l < 9 → csz 20 hcA 6 l = hc1 15 l := fun l hl => v1 1 l (by omega)
    have cw : ∀ j, j < 400 → csz 20 hcA 7 j = hc1 16 j := fun j hj => v1 2 j (by omega)
    have cn : ∀ j, j < 400 → csz 20 hcA 8 j = hc1 17 j := fun j hj => v1 3 j (by omega)
    have mm : ∀ y, 1 ≤ y → y < 417 → msz 0 hmA (2636 + y) = hm1 5 y := fun y q1 q2 => (rowM y q2).trans (lz _ _ (by omega))
    have mc : ∀ j, j < 200 → msz 0 hmA (2653 + 2 * j) = hm1 5 (17 + 2 * j) := fun j hj => by rw [show 2653 + 2 * j = 2636 + (17 + 2 * j) by omega]; exact mm _ (by omega) (by omega)
    refine ⟨by rw [c0, m0], by rw [m0]; omega, by rw [m0]; omega, fun l hl => ?_⟩
    rw [m0] at hl
    obtain ⟨a, b, q1, q2, q3, q4, q5, q6, q7⟩ := r5 l (by omega)
    refine ⟨a, b, q1, by omega, by rw [cb _ (by omega)]; exact q3, by rw [cb _ (by omega)]; exact q4, ?_, ?_, ?_, fun j j1 j2 => ?_⟩
    · rw [show 2637 + l = 2636 + (1 + l) by omega, mm _ (by omega) (by omega)]; exact q5
    · rw [show 2645 + l = 2636 + (9 + l) by omega, mm _ (by omega) (by omega)]; exact q6
    · rw [wfs_congr (g := cdz hm1) (g' := fun j => msz 0 hmA (2653 + 2 * j)) _ _ _ (fun i a1 b1 => mc i (by omega))]
      exact q7
    · have w := r6 j (by omega)
      rw [cw _ (by omega), cn _ (by omega), mc _ (by omega), show 2653 + 2 * j + 1 = 2636 + (17 + 2 * j + 1) by omega, mm _ (by omega) (by omega)]
      exact w
  · exact h5.of (fun x y q => by unfold csz; rw [f1 _ _ (by omega), x3 _ _ (by omega)]) (fun y q1 q2 => by unfold msz; rw [f2 _ _ (by omega), lz _ _ (by omega), x4 _ _ (by omega) (by omega)])
/-- a text with a FAULT -/
theorem adopt_no {a1 a2 a3 v : Int} (S : SSz hc hm) (X : RTz hc hm hc1 hm1) (FT : FTz hc1 hm1) : wpz (fX9_text_107 pv_NN a1 a2 a3 v hc1) fun c => wpz (fX10_text_225 pv_NN a1 a2 a3 hm1) fun m => c.2 = m.2 ∧ SSz c.1 m.1 := by
  obtain ⟨x1, x2, x3, x4, x5⟩ := X
  obtain ⟨t1, t2, t3, t4⟩ := id FT
  unfold fX9_text_107
  rw [if_neg (by omega), bbs, t225_F FT.ne, pv_up_ne (show (1 : Nat) ≠ 77 ∨ _ by omega), t3]
  refine wend rfl ?_
  have r77 : hc1 77 1 = hm1 1 1 := by rw [x3 _ _ (by omega), x4 _ _ (by omega) (by omega)]; exact S.2.2.2.2.2.1 1 (by omega)
  refine text_SS S (fun x y q1 q2 => by rw [pv_up_ne (by omega), x3 x y (by omega)]) (fun x y q1 q2 q3 q4 => by rw [pv_up_ne (by omega), pv_up_ne (by omega), pv_up_ne (by omega), x4 x y q1 q3]) (by rw [pv_up_ne (by omega)]; exact x1) (by rw [pv_up_ne (by omega), pv_up_ne (by omega), pv_up_ne (by omega)]; exact x2) ?_ ?_ (by rw [pv_up_ne (by omega), pv_up_ne (by omega), pv_up_ne (by omega)]; exact x5) (fun j hj => ?_) ?_
  · rw [pv_up_ne (by omega), pv_up_ne (by omega), pv_up_ne (by omega), pv_up_self, t3]
  · rw [pv_up_ne (by omega), pv_up_ne (by omega), pv_up_self, t4]
  · by_cases z : j = 1
    · subst z
      rw [pv_up_self, pv_up_self, r77]
    · rw [pv_up_ne (by omega), pv_up_ne (by omega), pv_up_ne (by omega), pv_up_ne (by omega), x3 _ _ (by omega), x4 _ _ (by omega) (by omega)]
      exact S.2.2.2.2.2.1 j hj
  · refine S.2.2.1.congr (fun d k hr => ?_) (fun k hk => ?_)
    · have := rel_lt hr
      unfold csz
      rw [pv_up_ne (by omega), x3 _ _ (by omega)]
    · unfold msz
      rw [pv_up_ne (by omega), pv_up_ne (by omega), pv_up_ne (by omega), x4 _ _ (by omega) (by omega)]
end ADOPT
theorem s_text : sm_text SSz := by
  intro hc hm S a1 a2 a3 _ _ _
  refine two_th S fun hm S => ?_
  have hN : 1000 ≤ pv_NN := by decide
  have e38 : ∀ x : Int, fX10_text_38 pv_NN a1 a2 a3 hm = pv_c2b (fX10_no pv_NN (-2) hm) fun h r => some (h, r) := fun _ => rfl
  unfold fX9_text fX9_text_30
  by_cases P : (a1 = 0 ∨ a1 = 1) ∧ 0 ≤ a2 ∧ a2 < 4 ∨ (a1 = 2 ∨ a1 = 3) ∧ a2 = 0
  · obtain ⟨s0, w2, e32⟩ : ∃ s0 : Int, (0 ≤ a2 ∧ a2 ≤ s0) ∧ (if a1 ≤ 1 then fX10_text_32 pv_NN a1 a2 a3 3 0 a2 hm else fX10_text_32 pv_NN a1 a2 a3 0 0 a2 hm) = fX10_text_32 pv_NN a1 a2 a3 s0 0 a2 hm := by
      by_cases z : a1 ≤ 1
      · rw [if_pos z]; exact ⟨3, by omega, rfl⟩
      · rw [if_neg z]; exact ⟨0, by omega, rfl⟩
    rw [place_1 P, c1s, if_neg n10, wn_1 (show 0 ≤ a1 ∧ a1 ≤ 3 by omega), c1s, if_neg n10, e32]
    have tp := S.1
    by_cases h3 : 0 ≤ a3 ∧ a3 ≤ hm 0 6
    · obtain ⟨n, rfl⟩ := Int.eq_ofNat_of_zero_le h3.1
      obtain ⟨hcT, hmT, s, p, b1, b2, T, e14, e17, e18, zr, pl, c10, m6, F, G⟩ := start_2 (N := pv_NN) (a1 := a1) (a2 := a2) (s0 := s0) (s1 := 0) (s2 := a2) hN S h3.2 w2
      rw [if_neg (show ¬ (n : Int) < 0 by omega), tp.1, if_pos h3.2, b1, c1s, b2]
      have RT : ∀ {hc1 hm1 : pv_H}, TFc hcT hc1 → TFg hmT hm1 → RTz hc hm hc1 hm1 := by
        intro hc1 hm1 F1 G1
        refine ⟨by rw [F1 _ _ (by unfold TCf RCf; omega)]; exact c10, by rw [G1 _ _ (by unfold TMg TMf RMf; omega)]; exact m6, fun x y q => by rw [F1 _ _ (by unfold TCf RCf; omega), F _ _ (by omega)], fun x y q1 q2 => by rw [G1 _ _ (by unfold TMg TMf RMf; omega), G _ _ q2 (by omega)], ?_⟩
        rw [G1 _ _ (by unfold TMg TMf RMf; omega), G _ _ (by omega) (by omega)]
        exact S.2.2.2.2.2.2
      rcases (show a1 = 0 ∨ a1 = 1 ∨ a1 = 2 ∨ a1 = 3 by omega) with z | z | z | z
      · subst z
        obtain ⟨k, rfl⟩ := Int.eq_ofNat_of_zero_le (show 0 ≤ a2 by omega)
        rw [if_pos rfl]
        rcases rod_2 (N := pv_NN) (a2 := (k : Int)) (a3 := (n : Int)) hN T e14 (zr (by omega)) with ⟨hc1, hm1, u, n', y1, y2, R, y12, y14, y11, y112, F1, G1⟩ | ⟨hc1, hm1, y1, y2, FT, F1, G1⟩
        · obtain ⟨hc', hm', z1, z2, z3⟩ := adopt_rod (a3 := (n : Int)) S (RT F1 G1) (show k < 4 by omega) R y12 y14 y11 y112
          rw [y1, y2, c2s, z2]
          unfold fX9_text_107
          rw [if_pos y11, z1, c1s]
          exact wend rfl z3
        · rw [y1, y2, c2s]
          exact adopt_no S (RT F1 G1) FT
      · subst z
        obtain ⟨k, rfl⟩ := Int.eq_ofNat_of_zero_le (show 0 ≤ a2 by omega)
        rw [if_neg (by omega), if_pos rfl]
        rcases doings_2 (N := pv_NN) (a2 := (k : Int)) (a3 := (n : Int)) hN T e14 with ⟨hc1, hm1, u, y1, y2, R, y12, y14, y11, y112, F1, G1⟩ | ⟨hc1, hm1, y1, y2, FT, F1, G1⟩
        · obtain ⟨hc', hm', z1, z2, z3⟩ := adopt_do (a3 := (n : Int)) S (RT F1 G1) (show k < 4 by omega) R y12 y14 y11 y112
          rw [y1, y2, c2s, z2]
          unfold fX9_text_107
          rw [if_pos y11, z1, c1s]
          exact wend rfl z3
        · rw [y1, y2, c2s]
          exact adopt_no S (RT F1 G1) FT
      · subst z
        have a20 : a2 = 0 := by omega
        subst a20
        rw [if_neg (by omega), if_neg (by omega), if_pos rfl]
        rcases law_2 (N := pv_NN) (a2 := 0) (a3 := (n : Int)) hN T e14 (pl rfl) with ⟨hc1, hm1, u, y1, y2, R, u0, y12, y14, y11, y112, F1, G1⟩ | ⟨hc1, hm1, y1, y2, FT, F1, G1⟩
        · obtain ⟨hc', hm', z1, z2, z3⟩ := adopt_law (a3 := (n : Int)) S (RT F1 G1) R u0 y12 y14 y11 y112
          rw [y1, y2, c2s, z2]
          unfold fX9_text_107
          rw [if_pos y11, z1, c1s]
          exact wend rfl z3
        · rw [y1, y2, c2s]
          exact adopt_no S (RT F1 G1) FT
      · subst z
        have a20 : a2 = 0 := by omega
        subst a20
        rw [if_neg (by omega), if_neg (by omega), if_neg (by omega)]
        rcases looks_2 (N := pv_NN) (a2 := 0) (a3 := (n : Int)) hN T e14 e17 e18 with ⟨hc1, hm1, u, c', y1, y2, R, c200, y12, y14, y11, y112, F1, G1⟩ | ⟨hc1, hm1, y1, y2, FT, F1, G1⟩
        · obtain ⟨hc', hm', z1, z2, z3⟩ := adopt_look (a3 := (n : Int)) S (RT F1 G1) R c200 y12 y14 y11 y112
          rw [y1, y2, c2s, z2]
          unfold fX9_text_107
          rw [if_pos y11, z1, c1s]
          exact wend rfl z3
        · rw [y1, y2, c2s]
          exact adopt_no S (RT F1 G1) FT
    · have eM : fX10_text_32 pv_NN a1 a2 a3 s0 0 a2 hm = pv_c2b (fX10_no pv_NN (-3) hm) fun h r => some (h, r) := by
        unfold fX10_text_32
        rw [wn_1 w2, c1s, if_neg n10, wn_0 h3, c1s, if_pos rfl]
      rw [eM]
      by_cases z : a3 < 0
      · rw [if_pos z]; exact no3 S
      · rw [if_neg z, if_neg (show ¬ a3 ≤ hc 1 0 by rw [tp.1]; omega)]; exact no3 S
  · have eM : (pv_c1 (fX10_within pv_NN a1 0 3 hm) fun r3 => if r3 = 0 then (fX10_text_38 pv_NN a1 a2 a3 hm) else (if a1 ≤ 1 then (fX10_text_32 pv_NN a1 a2 a3 (3) (0) (a2) hm) else (fX10_text_32 pv_NN a1 a2 a3 (0) (0) (a2) hm))) = pv_c2b (fX10_no pv_NN (-2) hm) fun h r => some (h, r) := by
      by_cases w : 0 ≤ a1 ∧ a1 ≤ 3
      · rw [wn_1 w, c1s, if_neg n10]
        unfold fX10_text_32
        by_cases z : a1 ≤ 1
        · rw [if_pos z, wn_0 (by omega), c1s, if_pos rfl]
          rfl
        · rw [if_neg z, wn_0 (by omega), c1s, if_pos rfl]
          rfl
      · rw [wn_0 w, c1s, if_pos rfl]
        rfl
    rw [place_0 P, c1s, if_pos rfl, eM]
    exact no2 S
