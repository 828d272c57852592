/-! the PIECES, both -/
section COUNT
variable {N n r : Nat} {st sg su lw : Nat → Int}
theorem count_l (h60 : n ≤ 60) {hc0 hm0 : pv_H} (hr : hc0 78 3 = (r : Int)) (hm5 : r ∈ pv_l5) (hrd : r < 78 ∨ 98 < r) (cn : hc0 r 0 = (n : Int)) (mn : hm0 0 19 = (n : Int)) (b : ∀ i, i < n → hc0 94 i = hm0 17 i ∧ (hm0 17 i = 0 ∨ hm0 17 i = 1)) (l : ∀ i, i < n → hc0 95 i = 0 ∨ hc0 95 i = 1) : ∀ (d i p bg : Nat) (f f' : Nat) (hc hm : pv_H), i + d = n → d < f → d < f' → p ≤ i → bg ≤ i → (i = n → 1 ≤ n → 1 ≤ p) → (∀ x y, x ≠ 83 → hc x y = hc0 x y) → (∀ x y, x ≠ 24 → ¬ (x = 0 ∧ y = 42) → hm x y = hm0 x y) → hm 0 42 = (p : Int) → (∀ k, k < p → hc 83 k = hm 24 k ∧ 1 ≤ hm 24 k ∧ hm 24 k ≤ 60) → ∃ (hc' hm' : pv_H) (np : Nat), fX1_countCells_9 N f (sumz (hc0 95) i) (p : Int) ((i : Int) - bg) (i : Int) hc = some hc' ∧ fX10_cuts_9 N f' (bg : Int) (i : Int) hm = some hm' ∧ np ≤ n ∧ (1 ≤ n → 1 ≤ np) ∧ hc' 80 1 = (np : Int) ∧ hm' 0 42 = (np : Int) ∧ hc' 80 7 = sumz (hc0 95) n ∧ (∀ k, k < np → hc' 83 k = hm' 24 k ∧ 1 ≤ hm' 24 k ∧ hm' 24 k ≤ 60) ∧ (∀ x y, x ≠ 83 → ¬ (x = 80 ∧ (y = 1 ∨ y = 7)) → hc' x y = hc0 x y) ∧ ∀ x y, x ≠ 24 → ¬ (x = 0 ∧ y = 42) → hm' x y = hm0 x y := by
  intro d
  induction d with
  | zero =>
    intro i p bg f f' hc hm e1 hf hf' p1 p2 p3 F G e42 P
    have : i = n := by omega
    subst this
    obtain ⟨f, rfl⟩ : ∃ g, f = g + 1 := ⟨f - 1, by omega⟩
    obtain ⟨f', rfl⟩ : ∃ g, f' = g + 1 := ⟨f' - 1, by omega⟩
    have e3 : hc 78 3 = (r : Int) := by rw [F _ _ (by omega)]; exact hr
    have e0 : hc r 0 = (i : Int) := by rw [F _ _ (by omega)]; exact cn
    have e19 : hm 0 19 = (i : Int) := by rw [G _ _ (by omega) (by omega)]; exact mn
    refine ⟨pv_up (pv_up hc 80 1 (p : Int)) 80 7 (sumz (hc0 95) i), hm, p, ?_, ?_, p1, p3 rfl, ?_, e42, ?_, fun k hk => ?_, fun x y n1 n2 => ?_, G⟩
    · rw [fX1_countCells_9, e3, tnc, if_pos ⟨by omega, hm5⟩, bbs, e0, if_pos (by omega), bbs, bbs]
    · rw [fX10_cuts_9, e19, if_pos (by omega)]
    · rw [pv_up_ne (by omega), pv_up_self]
    · rw [pv_up_self]
    · rw [pv_up_ne (by omega), pv_up_ne (by omega)]
      exact P k hk
    · rw [pv_up_ne (by omega), pv_up_ne (by omega)]
      exact F x y n1
  | succ d ih =>
    intro i p bg f f' hc hm e1 hf hf' p1 p2 p3 F G e42 P
    obtain ⟨f, rfl⟩ : ∃ g, f = g + 1 := ⟨f - 1, by omega⟩
    obtain ⟨f', rfl⟩ : ∃ g, f' = g + 1 := ⟨f' - 1, by omega⟩
    have e3 : hc 78 3 = (r : Int) := by rw [F _ _ (by omega)]; exact hr
    have e0 : hc r 0 = (n : Int) := by rw [F _ _ (by omega)]; exact cn
    have e19 : hm 0 19 = (n : Int) := by rw [G _ _ (by omega) (by omega)]; exact mn
    have e95 : hc 95 i = hc0 95 i := F _ _ (by omega)
    have e94 : hc 94 i = hm0 17 i := by rw [F _ _ (by omega)]; exact (b i (by omega)).1
    have e17 : hm 17 i = hm0 17 i := G _ _ (by omega) (by omega)
    have sb := sumz_b (f := hc0 95) i (fun k hk => l k (by omega))
    have lb := l i (by omega)
    have br := (b i (by omega)).2
    have es : pv_w (sumz (hc0 95) i + hc 95 i) = sumz (hc0 95) (i + 1) := by
      rw [e95, pv_w_id (by omega) (by omega)]; rfl
    have el : pv_w ((i : Int) - bg + 1) = ((i + 1 : Nat) : Int) - bg := by
      rw [pv_w_id (by omega) (by omega)]; omega
    -- what the class does with the cell
    have eC : fX1_countCells_9 N (f + 1) (sumz (hc0 95) i) (p : Int) ((i : Int) - bg) (i : Int) hc = if hm0 17 i = 1 ∨ i = n - 1 then fX1_countCells_9 N f (sumz (hc0 95) (i + 1)) ((p + 1 : Nat) : Int) (((i + 1 : Nat) : Int) - ((i + 1 : Nat) : Int)) ((i + 1 : Nat) : Int) (pv_up hc 83 p (((i + 1 : Nat) : Int) - bg)) else fX1_countCells_9 N f (sumz (hc0 95) (i + 1)) (p : Int) (((i + 1 : Nat) : Int) - bg) ((i + 1 : Nat) : Int) hc := by
      rw [fX1_countCells_9, e3, tnc, if_pos ⟨by omega, hm5⟩, bbs, e0, if_neg (by omega), if_pos (by omega), tnc, bbs, bbs, es, el, if_pos (by omega), e94]
      unfold fX1_countCells_59 fX1_countCells_74
      by_cases z : hm0 17 i = 1
      · rw [if_pos z, if_pos (Or.inl z), if_pos (by omega), tnc, bbs, bbs, bbs, pws (by omega), pws (by omega), Int.sub_self]
      · rw [if_neg z, if_pos ⟨by omega, hm5⟩, bbs, e0, pv_w_id (x := (n : Int) - 1) (by omega) (by omega)]
        by_cases y : i = n - 1
        · rw [if_pos (by omega), if_pos (Or.inr y), if_pos (by omega), tnc, bbs, bbs, bbs, pws (by omega), pws (by omega), Int.sub_self]
        · rw [if_neg (by omega), if_neg (by omega), bbs, pws (by omega)]
    have eM : fX10_cuts_9 N (f' + 1) (bg : Int) (i : Int) hm = if hm0 17 i = 1 ∨ i = n - 1 then fX10_cuts_9 N f' ((i + 1 : Nat) : Int) ((i + 1 : Nat) : Int) (pv_up (pv_up hm 24 p (((i + 1 : Nat) : Int) - bg)) 0 42 ((p + 1 : Nat) : Int)) else fX10_cuts_9 N f' (bg : Int) ((i + 1 : Nat) : Int) hm := by
      have ew : pv_w (pv_w ((i : Int) + 1) - bg) = ((i + 1 : Nat) : Int) - bg := by
        rw [pws (by omega), pv_w_id (by omega) (by omega)]
      have c39 : fX10_cuts_39 N (fun v1_ v2_ hh => fX10_cuts_9 N f' v1_ v2_ hh) (bg : Int) (i : Int) hm = fX10_cuts_9 N f' ((i + 1 : Nat) : Int) ((i + 1 : Nat) : Int) (pv_up (pv_up hm 24 p (((i + 1 : Nat) : Int) - bg)) 0 42 ((p + 1 : Nat) : Int)) := by
        unfold fX10_cuts_39 fX10_cuts_67
        rw [e42, if_pos (by omega), tnc, ew, bbs, pv_up_ne (by omega), e42, bbs, bbs, bbs, pws (by omega), pws (by omega)]
      rw [fX10_cuts_9, e19, if_neg (by omega), if_pos (by omega), tnc, e17, pv_w_id (x := (n : Int) - 1) (by omega) (by omega)]
      by_cases z : hm0 17 i = 0
      · rw [if_pos z]
        by_cases y : i = n - 1
        · rw [if_pos (by omega), if_pos (Or.inr y), c39]
        · rw [if_neg (by omega), if_neg (by omega)]
          unfold fX10_cuts_67
          rw [bbs, pws (by omega)]
      · rw [if_neg z, if_pos (Or.inl (by omega)), c39]
    rw [eC, eM]
    by_cases z : hm0 17 i = 1 ∨ i = n - 1
    · rw [if_pos z, if_pos z]
      refine ih (i + 1) (p + 1) (i + 1) f f' _ _ (by omega) (by omega) (by omega) (by omega) (by omega) (fun _ _ => by omega) (fun x y n1 => by rw [pv_up_ne (by omega)]; exact F x y n1) (fun x y n1 n2 => by rw [pv_up_ne (by omega), pv_up_ne (by omega)]; exact G x y n1 n2) (by rw [pv_up_self]) (fun k hk => ?_)
      by_cases e : k = p
      · subst e
        rw [pv_up_self, pv_up_ne (by omega), pv_up_self]
        exact ⟨rfl, by omega, by omega⟩
      · rw [pv_up_ne (by omega), pv_up_ne (by omega), pv_up_ne (by omega)]
        exact P k (by omega)
    · rw [if_neg z, if_neg z]
      exact ih (i + 1) p bg f f' _ _ (by omega) (by omega) (by omega) (by omega) (by omega) (fun _ _ => by omega) F G e42 P
theorem count_2 (hN : 1000 ≤ N) (h3 : 3 ≤ n) (h60 : n ≤ 60) {hc hm : pv_H} (hr : hc 78 3 = (r : Int)) (hm5 : r ∈ pv_l5) (hrd : r < 78 ∨ 98 < r) (cn : hc r 0 = (n : Int)) (mn : hm 0 19 = (n : Int)) (b : ∀ i, i < n → hc 94 i = hm 17 i ∧ (hm 17 i = 0 ∨ hm 17 i = 1)) (l : ∀ i, i < n → hc 95 i = 0 ∨ hc 95 i = 1) : ∃ (hc' hm' : pv_H) (np : Nat), fX1_countCells N hc = some hc' ∧ fX10_cuts N hm = some hm' ∧ np ≤ n ∧ 1 ≤ np ∧ hc' 80 1 = (np : Int) ∧ hm' 0 42 = (np : Int) ∧ hc' 80 7 = sumz (hc 95) n ∧ (∀ k, k < np → hc' 83 k = hm' 24 k ∧ 1 ≤ hm' 24 k ∧ hm' 24 k ≤ 60) ∧ (∀ x y, x ≠ 83 → ¬ (x = 80 ∧ (y = 1 ∨ y = 7)) → hc' x y = hc x y) ∧ ∀ x y, x ≠ 24 → ¬ (x = 0 ∧ y = 42) → hm' x y = hm x y := by
  have := count_l (N := N) h60 hr hm5 hrd cn mn b l n 0 0 0 N N hc (pv_up hm 0 42 0) (by omega) (by omega) (by omega) (by omega) (by omega) (by omega) (fun _ _ _ => rfl) (fun x y n1 n2 => pv_up_ne (by omega)) (by rw [pv_up_self]; rfl) (fun k hk => by omega)
  obtain ⟨hc', hm', np, x1, x2, x3, x4, x5⟩ := this
  exact ⟨hc', hm', np, x1, x2, x3, x4 (by omega), x5⟩
end COUNT
