/-! WAVES that begin, cells that BREAK, in both -/
def WRz (nw ng : Nat) (hc hm : pv_H) : Prop :=
  hc 80 2 = (nw : Int) ∧ hm 0 39 = (nw : Int) ∧ nw ≤ 200 ∧ hc 78 10 = (ng : Int) ∧ ng ≤ nw ∧ ∀ w, w < nw → hc 82 w = hm 25 w ∧ hc 82 (200 + w) = hm 26 w ∧ hc 82 (400 + w) = hm 27 w ∧ hc 82 (600 + w) = hm 28 w ∧ hc 82 (800 + w) = hm 29 w ∧ hc 82 (1000 + w) = hm 30 w ∧ (hm 26 w = 0 ∨ hm 26 w = 1) ∧ (hm 29 w = 0 ∨ hm 29 w = 1) ∧ 0 ≤ hm 27 w ∧ hm 27 w ≤ 4000 ∧ -2147483648 ≤ hm 30 w ∧ hm 30 w ≤ 2147483647 ∧ (hm 19 w = 0 ∨ hm 19 w = 1)
/-- WAVES have begun: nw of them before, nw' now -/
def EXz (tk : Int) (n nw ng nw' ng' : Nat) (hc hm hc' hm' : pv_H) : Prop :=
  nw ≤ nw' ∧ ng' + nw = ng + nw' ∧ WRz nw' ng' hc' hm' ∧ (∀ w, nw ≤ w → w < nw' → hc' 96 (ng + (w - nw)) = (w : Int) ∧ hm' 19 w = 1 ∧ hm' 27 w = tk ∧ hc' 97 w = hm' 25 w ∧ hc' 98 w = hm' 31 w ∧ 0 ≤ hm' 31 w ∧ hm' 31 w ≤ 1000000 ∧ (hm' 26 w = 0 → 0 ≤ hm' 25 w ∧ hm' 25 w ≤ n) ∧ (hm' 26 w = 1 → -1 ≤ hm' 25 w ∧ hm' 25 w ≤ (n : Int) - 1)) ∧ (∀ a, a < ng → hc' 96 a = hc 96 a) ∧ (∀ w, w < nw → hc' 97 w = hc 97 w ∧ hc' 98 w = hc 98 w ∧ hm' 19 w = hm 19 w ∧ hm' 25 w = hm 25 w ∧ hm' 26 w = hm 26 w ∧ hm' 27 w = hm 27 w ∧ hm' 28 w = hm 28 w ∧ hm' 29 w = hm 29 w ∧ hm' 30 w = hm 30 w ∧ hm' 31 w = hm 31 w)
def FCz (x y : Nat) : Prop := x = 80 ∧ y = 2 ∨ x = 78 ∧ y = 10 ∨ x = 82 ∨ x = 96 ∨ x = 97 ∨ x = 98
def FMz (x y : Nat) : Prop := x = 0 ∧ y = 39 ∨ x = 19 ∨ 25 ≤ x ∧ x ≤ 31
section WAVES
variable {N n nw ng nw' ng' nw'' ng'' : Nat} {tk : Int} {hc hm hc' hm' hc'' hm'' : pv_H}
theorem EXz.rf (W : WRz nw ng hc hm) : EXz tk n nw ng nw ng hc hm hc hm := ⟨Nat.le_refl _, rfl, W, fun w h1 h2 => by omega, fun a _ => rfl, fun w _ => ⟨rfl, rfl, rfl, rfl, rfl, rfl, rfl, rfl, rfl, rfl⟩⟩
theorem EXz.tr (a : EXz tk n nw ng nw' ng' hc hm hc' hm') (b : EXz tk n nw' ng' nw'' ng'' hc' hm' hc'' hm'') : EXz tk n nw ng nw'' ng'' hc hm hc'' hm'' := by
  obtain ⟨a1, a2, a3, a4, a5, a6⟩ := a
  obtain ⟨b1, b2, b3, b4, b5, b6⟩ := b
  refine ⟨by omega, by omega, b3, fun w h1 h2 => ?_, fun x hx => by rw [b5 x (by omega)]; exact a5 x hx, fun w hw => ?_⟩
  · by_cases q : w < nw'
    · obtain ⟨c1, c2, c3, c4, c5, c6, c7, c8, c9⟩ := a4 w h1 q
      obtain ⟨d1, d2, d3, d4, d5, d6, d7, d8, d9, d10⟩ := b6 w q
      rw [b5 _ (by omega), d1, d2, d3, d4, d5, d6, d10]
      exact ⟨c1, c2, c3, c4, c5, c6, c7, c8, c9⟩
    · have := b4 w (by omega) h2
      have e : ng + (w - nw) = ng' + (w - nw') := by omega
      rw [e]
      exact this
  · obtain ⟨c1, c2, c3, c4, c5, c6, c7, c8, c9, c10⟩ := a6 w hw
    obtain ⟨d1, d2, d3, d4, d5, d6, d7, d8, d9, d10⟩ := b6 w (by omega)
    rw [d1, d2, d3, d4, d5, d6, d7, d8, d9, d10]
    exact ⟨c1, c2, c3, c4, c5, c6, c7, c8, c9, c10⟩
theorem EXz.pre {hc1 hm1 : pv_H} (f : ∀ x y, FCz x y → hc1 x y = hc x y) (g : ∀ x y, FMz x y → hm1 x y = hm x y) (a : EXz tk n nw ng nw' ng' hc1 hm1 hc' hm') : EXz tk n nw ng nw' ng' hc hm hc' hm' := by
  obtain ⟨a1, a2, a3, a4, a5, a6⟩ := a
  refine ⟨a1, a2, a3, a4, fun x hx => ?_, fun w hw => ?_⟩
  · rw [← f _ _ (by unfold FCz; omega)]; exact a5 x hx
  · rw [← f _ _ (by unfold FCz; omega), ← f _ _ (by unfold FCz; omega), ← g _ _ (by unfold FMz; omega), ← g _ _ (by unfold FMz; omega), ← g _ _ (by unfold FMz; omega), ← g _ _ (by unfold FMz; omega), ← g _ _ (by unfold FMz; omega), ← g _ _ (by unfold FMz; omega), ← g _ _ (by unfold FMz; omega), ← g _ _ (by unfold FMz; omega)]
    exact a6 w hw
theorem WRz.frm {hc1 hm1 : pv_H} (W : WRz nw ng hc hm) (f : ∀ x y, FCz x y → hc1 x y = hc x y) (g : ∀ x y, FMz x y → hm1 x y = hm x y) : WRz nw ng hc1 hm1 := by
  obtain ⟨w1, w2, w3, w4, w5, w6⟩ := W
  refine ⟨by rw [f _ _ (by unfold FCz; omega)]; exact w1, by rw [g _ _ (by unfold FMz; omega)]; exact w2, w3, by rw [f _ _ (by unfold FCz; omega)]; exact w4, w5, fun w hw => ?_⟩
  rw [f _ _ (by unfold FCz; omega), f _ _ (by unfold FCz; omega), f _ _ (by unfold FCz; omega), f _ _ (by unfold FCz; omega), f _ _ (by unfold FCz; omega), f _ _ (by unfold FCz; omega), g _ _ (by unfold FMz; omega), g _ _ (by unfold FMz; omega), g _ _ (by unfold FMz; omega), g _ _ (by unfold FMz; omega), g _ _ (by unfold FMz; omega), g _ _ (by unfold FMz; omega), g _ _ (by unfold FMz; omega)]
  exact w6 w hw
/-- a WAVE begins -/
theorem beg_2 (W : WRz nw ng hc hm) {fr' wy am ec : Int} (y1 : wy = 0 → 0 ≤ fr' ∧ fr' ≤ n) (y2 : wy = 1 → -1 ≤ fr' ∧ fr' ≤ (n : Int) - 1) (y3 : wy = 0 ∨ wy = 1) (t1 : 0 ≤ tk) (t2 : tk ≤ 4000) (a1 : 0 ≤ am) (a2 : am ≤ 1000000) (e1 : ec = 0 ∨ ec = 1) : ∃ (hc' hm' : pv_H) (nw' ng' : Nat), fX1_beginWave N fr' wy tk am ec hc = some hc' ∧ fX10_begins N fr' wy tk am ec hm = some hm' ∧ EXz tk n nw ng nw' ng' hc hm hc' hm' ∧ (∀ x y, ¬ FCz x y → hc' x y = hc x y) ∧ (∀ x y, ¬ FMz x y → hm' x y = hm x y) := by
  obtain ⟨w1, w2, w3, w4, w5, w6⟩ := id W
  unfold fX1_beginWave fX10_begins
  rw [w1, w2, bbs]
  by_cases q : nw = 200
  · rw [if_neg (by omega), if_pos (by omega)]
    exact ⟨hc, hm, nw, ng, rfl, rfl, EXz.rf W, fun _ _ _ => rfl, fun _ _ _ => rfl⟩
  · rw [if_pos (show (nw : Int) < 200 by omega), if_neg (show ¬ (nw : Int) = 200 by omega)]
    have x0 : pv_w (0 + (nw : Int)) = ((nw : Nat) : Int) := by rw [pv_w_id (by omega) (by omega)]; omega
    have x1 : pv_w (200 + (nw : Int)) = ((200 + nw : Nat) : Int) := by rw [pv_w_id (by omega) (by omega)]; omega
    have x2 : pv_w (400 + (nw : Int)) = ((400 + nw : Nat) : Int) := by rw [pv_w_id (by omega) (by omega)]; omega
    have x3 : pv_w (600 + (nw : Int)) = ((600 + nw : Nat) : Int) := by rw [pv_w_id (by omega) (by omega)]; omega
    have x4 : pv_w (800 + (nw : Int)) = ((800 + nw : Nat) : Int) := by rw [pv_w_id (by omega) (by omega)]; omega
    have x5 : pv_w (1000 + (nw : Int)) = ((1000 + nw : Nat) : Int) := by rw [pv_w_id (by omega) (by omega)]; omega
    have hC : fX10_begins_70 N fr' wy tk am ec (if ec = 0 then 0 else 1) (nw : Int) (pv_up (pv_up (pv_up (pv_up hm 25 nw fr') 26 nw wy) 27 nw tk) 28 nw am) = some (pv_up (pv_up (pv_up (pv_up (pv_up (pv_up (pv_up (pv_up (pv_up hm 25 nw fr') 26 nw wy) 27 nw tk) 28 nw am) 29 nw ec) 30 nw 0) 31 nw am) 19 nw 1) 0 39 ((nw + 1 : Nat) : Int)) := by
      unfold fX10_begins_70
      have ee : (if ec = 0 then (0 : Int) else 1) = ec := by
        rcases e1 with e1 | e1
        · rw [if_pos e1, e1]
        · rw [if_neg (by omega), e1]
      simp (disch := omega) only [if_pos, bbs, tnc, pu_ne, w2, pws, ee]
    have hM : (if ec = 0 then fX10_begins_70 N fr' wy tk am ec 0 (nw : Int) (pv_up (pv_up (pv_up (pv_up hm 25 nw fr') 26 nw wy) 27 nw tk) 28 nw am) else fX10_begins_70 N fr' wy tk am ec 1 (nw : Int) (pv_up (pv_up (pv_up (pv_up hm 25 nw fr') 26 nw wy) 27 nw tk) 28 nw am)) = some (pv_up (pv_up (pv_up (pv_up (pv_up (pv_up (pv_up (pv_up (pv_up hm 25 nw fr') 26 nw wy) 27 nw tk) 28 nw am) 29 nw ec) 30 nw 0) 31 nw am) 19 nw 1) 0 39 ((nw + 1 : Nat) : Int)) := by
      rw [← hC]
      by_cases z : ec = 0
      · rw [if_pos z, if_pos z]
      · rw [if_neg z, if_neg z]
    simp (disch := omega) only [if_pos, bbs, tnc, pu_ne, w1, w2, w4, pws, x0, x1, x2, x3, x4, x5, hM]
    refine ⟨_, _, nw + 1, ng + 1, rfl, rfl, ⟨by omega, by omega, ⟨?_, pv_up_self _ _ _ _, by omega, pv_up_self _ _ _ _, by omega, fun w hw => ?_⟩, fun w h1 h2 => ?_, fun a ha => ?_, fun w hw => ?_⟩, fun x y np => ?_, fun x y np => ?_⟩
    · simp (disch := omega) only [pu_ne, pu_eq]
    · by_cases e : w = nw
      · subst e
        simp (disch := omega) only [pu_ne, pu_eq]
        exact ⟨trivial, trivial, trivial, trivial, trivial, trivial, y3, e1, t1, t2, by omega, by omega, Or.inr trivial⟩
      · simp (disch := omega) only [pu_ne]
        exact w6 w (by omega)
    · have : w = nw := by omega
      subst this
      rw [Nat.sub_self, Nat.add_zero]
      simp (disch := omega) only [pu_ne, pu_eq]
      exact ⟨trivial, trivial, trivial, trivial, trivial, a1, a2, y1, y2⟩
    · simp (disch := omega) only [pu_ne]
    · simp (disch := omega) only [pu_ne]
      exact ⟨trivial, trivial, trivial, trivial, trivial, trivial, trivial, trivial, trivial, trivial⟩
    · unfold FCz at np
      simp (disch := omega) only [pu_ne]
    · unfold FMz at np
      simp (disch := omega) only [pu_ne]
end WAVES
section BEGM
variable {N : Nat} {hm : pv_H}
/-- the reference begins a WAVE -/
theorem begM {nw : Nat} {fr' wy tk am ec : Int} (w2 : hm 0 39 = (nw : Int)) (hn : nw < 200) (e1 : ec = 0 ∨ ec = 1) {hm' : pv_H} (h : fX10_begins N fr' wy tk am ec hm = some hm') : hm' 0 39 = ((nw + 1 : Nat) : Int) ∧ hm' 25 nw = fr' ∧ hm' 26 nw = wy ∧ hm' 29 nw = ec ∧ hm' 19 nw = 1 ∧ ∀ x y, ¬ (x = 0 ∧ y = 39) → ¬ ((x = 19 ∨ 25 ≤ x ∧ x ≤ 31) ∧ y = nw) → hm' x y = hm x y := by
  have hC : fX10_begins_70 N fr' wy tk am ec (if ec = 0 then 0 else 1) (nw : Int) (pv_up (pv_up (pv_up (pv_up hm 25 nw fr') 26 nw wy) 27 nw tk) 28 nw am) = some (pv_up (pv_up (pv_up (pv_up (pv_up (pv_up (pv_up (pv_up (pv_up hm 25 nw fr') 26 nw wy) 27 nw tk) 28 nw am) 29 nw ec) 30 nw 0) 31 nw am) 19 nw 1) 0 39 ((nw + 1 : Nat) : Int)) := by
    unfold fX10_begins_70
    have ee : (if ec = 0 then (0 : Int) else 1) = ec := by
      rcases e1 with e1 | e1
      · rw [if_pos e1, e1]
      · rw [if_neg (by omega), e1]
    simp (disch := omega) only [if_pos, bbs, tnc, pu_ne, w2, pws, ee]
  have hM : (if ec = 0 then fX10_begins_70 N fr' wy tk am ec 0 (nw : Int) (pv_up (pv_up (pv_up (pv_up hm 25 nw fr') 26 nw wy) 27 nw tk) 28 nw am) else fX10_begins_70 N fr' wy tk am ec 1 (nw : Int) (pv_up (pv_up (pv_up (pv_up hm 25 nw fr') 26 nw wy) 27 nw tk) 28 nw am)) = some (pv_up (pv_up (pv_up (pv_up (pv_up (pv_up (pv_up (pv_up (pv_up hm 25 nw fr') 26 nw wy) 27 nw tk) 28 nw am) 29 nw ec) 30 nw 0) 31 nw am) 19 nw 1) 0 39 ((nw + 1 : Nat) : Int)) := by
    rw [← hC]
    by_cases z : ec = 0
    · rw [if_pos z, if_pos z]
    · rw [if_neg z, if_neg z]
  unfold fX10_begins at h
  rw [w2, if_neg (show ¬ (nw : Int) = 200 by omega)] at h
  simp (disch := omega) only [if_pos, bbs, tnc, pu_ne, w2, hM] at h
  cases h
  refine ⟨pv_up_self _ _ _ _, ?_, ?_, ?_, ?_, fun x y n1 n2 => ?_⟩
  · simp (disch := omega) only [pu_ne, pu_eq]
  · simp (disch := omega) only [pu_ne, pu_eq]
  · simp (disch := omega) only [pu_ne, pu_eq]
  · simp (disch := omega) only [pu_ne, pu_eq]
  · simp (disch := omega) only [pu_ne]
end BEGM
/-- sums -/
def sumz (f : Nat → Int) : Nat → Int
  | 0 => 0
  | k + 1 => sumz f k + f k
theorem sumz_congr {f g : Nat → Int} : ∀ n, (∀ i, i < n → f i = g i) → sumz f n = sumz g n := by
  intro n
  induction n with
  | zero => intro _; rfl
  | succ n ih => intro h; simp only [sumz, ih (fun i hi => h i (by omega)), h n (by omega)]
theorem sumz_up {f g : Nat → Int} {c : Nat} (h1 : f c = 0) (h2 : g c = 1) : ∀ n, (∀ i, i < n → i ≠ c → g i = f i) → sumz g n = sumz f n + (if c < n then 1 else 0) := by
  intro n
  induction n with
  | zero => intro _; rfl
  | succ n ih =>
    intro h
    have := ih (fun i hi => h i (by omega))
    simp only [sumz]
    rw [this]
    by_cases e : n = c
    · subst e
      rw [if_neg (by omega), if_pos (by omega), h1, h2]
    · rw [h n (by omega) e]
      by_cases z : c < n
      · rw [if_pos z, if_pos (by omega)]; omega
      · rw [if_neg z, if_neg (by omega)]; omega
theorem sumz_b {f : Nat → Int} : ∀ n : Nat, (∀ i, i < n → f i = 0 ∨ f i = 1) → 0 ≤ sumz f n ∧ sumz f n ≤ n := by
  intro n
  induction n with
  | zero => intro _; exact ⟨Int.le_refl _, Int.le_refl _⟩
  | succ n ih =>
    intro h
    have := ih (fun i hi => h i (by omega))
    have := h n (by omega)
    simp only [sumz]
    omega
theorem sumz_lt {f : Nat → Int} {n c : Nat} (hc : c < n) (h0 : f c = 0) (h : ∀ i, i < n → f i = 0 ∨ f i = 1) : sumz f n < n := by
  have h1 := sumz_up (f := f) (g := fun i => if i = c then 1 else f i) h0 (by simp) n (fun i _ e => by simp [e])
  have h2 := sumz_b (f := fun i => if i = c then 1 else f i) n (fun i hi => by
    by_cases e : i = c
    · simp [e]
    · simp only [if_neg e]; exact h i hi)
  rw [if_pos hc] at h1
  omega
def BRz (n nb : Nat) (hc hm : pv_H) : Prop :=
  hc 80 0 = (nb : Int) ∧ hm 0 38 = (nb : Int) ∧ sumz (hm 17) n = (nb : Int) ∧ (∀ i, i < n → hc 94 i = hm 17 i ∧ (hm 17 i = 0 ∨ hm 17 i = 1)) ∧ (∀ k, k < nb → hc 81 k = hm 20 k ∧ hc 81 (60 + k) = hm 21 k ∧ hc 81 (120 + k) = hm 22 k ∧ hc 81 (180 + k) = hm 23 k ∧ ∃ c : Nat, c < n ∧ hm 20 k = (c : Int) ∧ hm 17 c = 1) ∧ ∀ i, i < n → hm 17 i = 1 → ∃ k, k < nb ∧ hm 20 k = (i : Int)
def BCz (x y : Nat) : Prop := x = 80 ∧ y = 0 ∨ x = 81 ∨ x = 94
def BMz (x y : Nat) : Prop := x = 0 ∧ y = 38 ∨ x = 17 ∨ 20 ≤ x ∧ x ≤ 23
theorem BRz.frm {n nb : Nat} {hc hm hc1 hm1 : pv_H} (B : BRz n nb hc hm) (f : ∀ x y, BCz x y → hc1 x y = hc x y) (g : ∀ x y, BMz x y → hm1 x y = hm x y) : BRz n nb hc1 hm1 := by
  obtain ⟨b1, b2, b3, b4, b5, b6⟩ := B
  have e17 : ∀ i, hm1 17 i = hm 17 i := fun i => g _ _ (by unfold BMz; omega)
  have e20 : ∀ i, hm1 20 i = hm 20 i := fun i => g _ _ (by unfold BMz; omega)
  refine ⟨by rw [f _ _ (by unfold BCz; omega)]; exact b1, by rw [g _ _ (by unfold BMz; omega)]; exact b2, ?_, fun i hi => ?_, fun k hk => ?_, fun i hi q => ?_⟩
  · rw [sumz_congr n (fun i _ => e17 i)]; exact b3
  · rw [f _ _ (by unfold BCz; omega), e17]; exact b4 i hi
  · obtain ⟨c1, c2, c3, c4, c, c5, c6, c7⟩ := b5 k hk
    rw [f _ _ (by unfold BCz; omega), f _ _ (by unfold BCz; omega), f _ _ (by unfold BCz; omega), f _ _ (by unfold BCz; omega), e20, g 21 _ (by unfold BMz; omega), g 22 _ (by unfold BMz; omega), g 23 _ (by unfold BMz; omega)]
    exact ⟨c1, c2, c3, c4, c, c5, c6, by rw [e17]; exact c7⟩
  · rw [e17] at q
    obtain ⟨k, k1, k2⟩ := b6 i hi q
    exact ⟨k, k1, by rw [e20]; exact k2⟩
section BREAK
variable {N n nw ng nb : Nat} {tk : Int} {hc hm : pv_H} {lw sg str : Nat → Int}
/-- the KIND of a first BREAK -/
def kdz (n : Nat) (sg str : Nat → Int) (c : Nat) : Int := if c = 0 ∨ c = n - 1 then 3 else if str c < sg c then 4 else 0
theorem brk_2 (W : WRz nw ng hc hm) (B : BRz n nb hc hm) (l : lwB lw) (h3 : 3 ≤ n) (h60 : n ≤ 60) (c4 : hc 78 4 = 23) (c24 : hc 24 0 = lw 0) (m0 : hm 2 1116 = lw 0) (m19 : hm 0 19 = (n : Int)) {c : Nat} (hcn : c < n) (nbr : hm 17 c = 0) (m7 : hm 7 c = sg c) (m11 : hm 11 c = str c) {kd how by' : Int} (hk : 0 < how ∧ kd = how ∨ how = 0 ∧ kd = kdz n sg str c) (t1 : 0 ≤ tk) (t2 : tk ≤ 4000) (b1 : 0 ≤ by') (b2 : by' ≤ 4000000) : ∃ (hc' hm' : pv_H) (nw' ng' : Nat), fX1_breakCell N (c : Int) tk kd by' hc = some hc' ∧ fX10_breaks N (c : Int) tk how by' hm = some hm' ∧ EXz tk n nw ng nw' ng' hc hm hc' hm' ∧ BRz n (nb + 1) hc' hm' ∧ hm' 17 c = 1 ∧ (∀ i, i ≠ c → hm' 17 i = hm 17 i) ∧ (∀ x y, ¬ FCz x y → ¬ BCz x y → hc' x y = hc x y) ∧ (∀ x y, ¬ FMz x y → ¬ BMz x y → hm' x y = hm x y) := by
  obtain ⟨q1, q2, q3, q4, q5, q6⟩ := id B
  have nlt := sumz_lt hcn nbr (fun i hi => (q4 i hi).2)
  have nb60 : nb < 60 := by omega
  obtain ⟨l1, l2, _⟩ := l
  have p1 : 0 ≤ by' * lw 0 := Int.mul_nonneg b1 l1
  have p2 : by' * lw 0 ≤ by' * 200 := Int.mul_le_mul_of_nonneg_left l2 b1
  have x0 : pv_w (0 + (nb : Int)) = ((nb : Nat) : Int) := by rw [pv_w_id (by omega) (by omega)]; omega
  have x1 : pv_w (60 + (nb : Int)) = ((60 + nb : Nat) : Int) := by rw [pv_w_id (by omega) (by omega)]; omega
  have x2 : pv_w (120 + (nb : Int)) = ((120 + nb : Nat) : Int) := by rw [pv_w_id (by omega) (by omega)]; omega
  have x3 : pv_w (180 + (nb : Int)) = ((180 + nb : Nat) : Int) := by rw [pv_w_id (by omega) (by omega)]; omega
  have pC : pv_w (Int.tdiv (pv_w (by' * lw 0)) 100) = by' * lw 0 / 100 := by rw [pv_w_id (x := by' * lw 0) (by omega) (by omega), tdn p1, pv_w_id (by omega) (by omega)]
  have pM : pv_w (pv_wl (Int.tdiv (pv_wl (by' * lw 0)) 100)) = by' * lw 0 / 100 := by rw [pv_wl_id (x := by' * lw 0) (by omega) (by omega), tdn p1, pv_wl_id (by omega) (by omega), pv_w_id (by omega) (by omega)]
  -- the states after the writes
  generalize hC1 : pv_up (pv_up (pv_up (pv_up (pv_up (pv_up hc 81 nb (c : Int)) 81 (60 + nb) tk) 81 (120 + nb) kd) 81 (180 + nb) by') 80 0 ((nb + 1 : Nat) : Int)) 94 c 1 = C1
  generalize hM1 : pv_up (pv_up (pv_up (pv_up (pv_up (pv_up hm 17 c 1) 20 nb (c : Int)) 21 nb tk) 22 nb kd) 23 nb by') 0 38 ((nb + 1 : Nat) : Int) = M1
  have fC : ∀ x y, ¬ BCz x y → C1 x y = hc x y := fun x y np => by
    unfold BCz at np
    rw [← hC1]
    simp (disch := omega) only [pu_ne]
  have fM : ∀ x y, ¬ BMz x y → M1 x y = hm x y := fun x y np => by
    unfold BMz at np
    rw [← hM1]
    simp (disch := omega) only [pu_ne]
  have fC' : ∀ x y, FCz x y → C1 x y = hc x y := fun x y np => fC x y (by unfold FCz at np; unfold BCz; omega)
  have fM' : ∀ x y, FMz x y → M1 x y = hm x y := fun x y np => fM x y (by unfold FMz at np; unfold BMz; omega)
  have e17 : ∀ i, i ≠ c → M1 17 i = hm 17 i := fun i hi => by rw [← hM1]; simp (disch := omega) only [pu_ne]
  have e17c : M1 17 c = 1 := by rw [← hM1]; simp (disch := omega) only [pu_ne, pu_eq]
  have e20n : M1 20 nb = (c : Int) := by rw [← hM1]; simp (disch := omega) only [pu_ne, pu_eq]
  have B1 : BRz n (nb + 1) C1 M1 := by
    refine ⟨?_, ?_, ?_, fun i hi => ?_, fun k hk => ?_, fun i hi q => ?_⟩
    · rw [← hC1]; simp (disch := omega) only [pu_ne, pu_eq]
    · rw [← hM1]; simp (disch := omega) only [pu_eq]
    · rw [sumz_up (f := hm 17) nbr e17c n (fun i _ e => e17 i e), if_pos hcn, q3]; omega
    · by_cases e : i = c
      · subst e
        rw [e17c]
        exact ⟨by rw [← hC1]; simp (disch := omega) only [pu_eq], Or.inr rfl⟩
      · rw [e17 i e]
        have : C1 94 i = hc 94 i := by rw [← hC1]; simp (disch := omega) only [pu_ne]
        rw [this]
        exact q4 i hi
    · by_cases e : k = nb
      · subst e
        have z0 : C1 81 k = (c : Int) := by rw [← hC1]; simp (disch := omega) only [pu_ne, pu_eq]
        have z1 : C1 81 (60 + k) = tk := by rw [← hC1]; simp (disch := omega) only [pu_ne, pu_eq]
        have z2 : C1 81 (120 + k) = kd := by rw [← hC1]; simp (disch := omega) only [pu_ne, pu_eq]
        have z3 : C1 81 (180 + k) = by' := by rw [← hC1]; simp (disch := omega) only [pu_ne, pu_eq]
        have y1 : M1 21 k = tk := by rw [← hM1]; simp (disch := omega) only [pu_ne, pu_eq]
        have y2 : M1 22 k = kd := by rw [← hM1]; simp (disch := omega) only [pu_ne, pu_eq]
        have y3 : M1 23 k = by' := by rw [← hM1]; simp (disch := omega) only [pu_ne, pu_eq]
        rw [z0, z1, z2, z3, y1, y2, y3, e20n]
        exact ⟨rfl, rfl, rfl, rfl, c, hcn, rfl, e17c⟩
      · obtain ⟨c1, c2, c3, c4, c', c5, c6, c7⟩ := q5 k (by omega)
        have z0 : C1 81 k = hc 81 k := by rw [← hC1]; simp (disch := omega) only [pu_ne]
        have z1 : C1 81 (60 + k) = hc 81 (60 + k) := by rw [← hC1]; simp (disch := omega) only [pu_ne]
        have z2 : C1 81 (120 + k) = hc 81 (120 + k) := by rw [← hC1]; simp (disch := omega) only [pu_ne]
        have z3 : C1 81 (180 + k) = hc 81 (180 + k) := by rw [← hC1]; simp (disch := omega) only [pu_ne]
        have y0 : M1 20 k = hm 20 k := by rw [← hM1]; simp (disch := omega) only [pu_ne]
        have y1 : M1 21 k = hm 21 k := by rw [← hM1]; simp (disch := omega) only [pu_ne]
        have y2 : M1 22 k = hm 22 k := by rw [← hM1]; simp (disch := omega) only [pu_ne]
        have y3 : M1 23 k = hm 23 k := by rw [← hM1]; simp (disch := omega) only [pu_ne]
        rw [z0, z1, z2, z3, y0, y1, y2, y3]
        refine ⟨c1, c2, c3, c4, c', c5, c6, ?_⟩
        rw [e17 c' (fun e => by subst e; omega)]
        exact c7
    · by_cases e : i = c
      · subst e
        exact ⟨nb, by omega, e20n⟩
      · rw [e17 i e] at q
        obtain ⟨k, k1, k2⟩ := q6 i hi q
        refine ⟨k, by omega, ?_⟩
        have y0 : M1 20 k = hm 20 k := by rw [← hM1]; simp (disch := omega) only [pu_ne]
        rw [y0]; exact k2
  have W1 : WRz nw ng C1 M1 := W.frm fC' fM'
  obtain ⟨C2, M2, nw2, ng2, d1, d2, d3, d4, d5⟩ := beg_2 (N := N) (n := n) W1 (fr' := (c : Int)) (wy := 0) (am := min 1000000 (by' * lw 0 / 100)) (ec := 0) (tk := tk) (fun _ => by omega) (fun z => by omega) (Or.inl rfl) t1 t2 (by omega) (by omega) (Or.inl rfl)
  obtain ⟨C3, M3, nw3, ng3, g1, g2, g3, g4, g5⟩ := beg_2 (N := N) (n := n) d3.2.2.1 (fr' := (c : Int)) (wy := 1) (am := min 1000000 (by' * lw 0 / 100)) (ec := 0) (tk := tk) (fun z => by omega) (fun _ => by omega) (Or.inr rfl) t1 t2 (by omega) (by omega) (Or.inl rfl)
  refine ⟨C3, M3, nw3, ng3, ?_, ?_, (d3.tr g3).pre fC' fM', ?_, ?_, fun i hi => ?_, fun x y n1 n2 => ?_, fun x y n1 n2 => ?_⟩
  · unfold fX1_breakCell
    have C24 : hc (23 + 1) 0 = lw 0 := c24
    have l2 : (23 : Int).toNat ∈ pv_l2 := by decide
    have l3 : Int.toNat 23 = 23 := rfl
    rw [q1, bbs, if_pos (by omega)]
    simp (disch := omega) only [x0, x1, x2, x3, if_pos, bbs, tnc, pu_ne, q1, pws]
    rw [hC1, c4, if_pos ⟨by omega, l2⟩, l3, C24, pC, d1, c1s, g1, c1s]
  · unfold fX10_breaks fX10_breaks_57
    have f81 : ∀ s0 : Int, s0 = kd → fX10_breaks_81 N (c : Int) tk how by' s0 (nb : Int) (pv_up (pv_up (pv_up hm 17 c 1) 20 nb (c : Int)) 21 nb tk) = some M3 := by
      intro s0 hs
      subst hs
      unfold fX10_breaks_81 fX10_part
      simp (disch := omega) only [if_pos, bbs, tnc, pu_ne, q2, pws]
      rw [hM1, m0, pM, c1s]
      unfold fX10_breaks_134
      by_cases z : by' * lw 0 / 100 ≤ 1000000
      · have e : min 1000000 (by' * lw 0 / 100) = by' * lw 0 / 100 := by omega
        rw [e] at d2 g2
        rw [if_pos z, d2, c1s, g2, c1s]
      · have e : min 1000000 (by' * lw 0 / 100) = 1000000 := by omega
        rw [e] at d2 g2
        rw [if_neg z, d2, c1s, g2, c1s]
    simp (disch := omega) only [if_pos, bbs, tnc, pu_ne, q2, m19, m7, m11]
    rcases hk with ⟨k1, k2⟩ | ⟨k1, k2⟩
    · rw [if_neg (by omega)]
      exact f81 _ k2.symm
    · rw [if_pos (by omega), pv_w_id (by omega) (by omega)]
      unfold kdz at k2
      by_cases z : c = 0
      · rw [if_pos (Or.inl z)] at k2
        rw [if_pos (by omega)]
        exact f81 _ k2.symm
      · rw [if_neg (by omega)]
        by_cases z2 : c = n - 1
        · rw [if_pos (Or.inr z2)] at k2
          rw [if_pos (by omega)]
          exact f81 _ k2.symm
        · rw [if_neg (by omega)] at k2
          rw [if_neg (by omega)]
          by_cases z3 : str c < sg c
          · rw [if_pos z3] at k2
            rw [if_neg (by omega)]
            exact f81 _ k2.symm
          · rw [if_neg z3] at k2
            rw [if_pos (by omega)]
            exact f81 _ k2.symm
  · refine (B1.frm (hc1 := C2) (hm1 := M2) (fun x y q => ?_) (fun x y q => ?_)).frm (fun x y q => ?_) (fun x y q => ?_)
    · exact d4 x y (by unfold BCz at q; unfold FCz; omega)
    · exact d5 x y (by unfold BMz at q; unfold FMz; omega)
    · exact g4 x y (by unfold BCz at q; unfold FCz; omega)
    · exact g5 x y (by unfold BMz at q; unfold FMz; omega)
  · rw [g5 _ _ (by unfold FMz; omega), d5 _ _ (by unfold FMz; omega)]; exact e17c
  · rw [g5 _ _ (by unfold FMz; omega), d5 _ _ (by unfold FMz; omega)]; exact e17 i hi
  · rw [g4 _ _ n1, d4 _ _ n1, fC _ _ n2]
  · rw [g5 _ _ n1, d5 _ _ n1, fM _ _ n2]
end BREAK
