/-! what stands ready is asked for, both -/
def FTz (hc hm : pv_H) : Prop := 1 ≤ hm 0 12 ∧ hm 0 12 ≤ 5 ∧ hc 1 1 = hm 0 12 ∧ hc 1 2 = hm 0 13
theorem tk_inj {a b : Int} : tkz a = tkz b ↔ a = b := by
  unfold tkz
  by_cases x : a ≤ 36
  · by_cases y : b ≤ 36
    · rw [if_pos x, if_pos y]
    · rw [if_pos x, if_neg y]; omega
  · by_cases y : b ≤ 36
    · rw [if_neg x, if_pos y]; omega
    · rw [if_neg x, if_neg y]; omega
section FAILED
variable {N : Nat} {k : Int} {hm : pv_H}
theorem is_F (h : ¬ hm 0 12 = 0) : fX10_is N k hm = some 0 := by
  unfold fX10_is fX10_is_19 fX10_is_20
  rw [if_neg h, if_pos (Or.inl rfl)]
theorem is_1 (h : hm 0 12 = 0) (e : hm 0 10 = k) : fX10_is N k hm = some 1 := by
  unfold fX10_is fX10_is_20
  rw [if_pos h, if_pos e, if_pos (Or.inr rfl)]
theorem is_0 (h : hm 0 12 = 0) (e : ¬ hm 0 10 = k) : fX10_is N k hm = some 0 := by
  unfold fX10_is fX10_is_19 fX10_is_20
  rw [if_pos h, if_neg e, if_pos (Or.inl rfl)]
theorem eats_F (h : ¬ hm 0 12 = 0) : fX10_eats N k hm = some (hm, 0) := by
  unfold fX10_eats
  rw [is_F h, c1s, if_pos rfl]
theorem eats_0 (h : hm 0 12 = 0) (e : ¬ hm 0 10 = k) : fX10_eats N k hm = some (hm, 0) := by
  unfold fX10_eats
  rw [is_0 h e, c1s, if_pos rfl]
theorem fails_F (h : ¬ hm 0 12 = 0) : fX10_fails N k hm = some hm := by
  unfold fX10_fails
  rw [if_neg h]
theorem needs_F (h : ¬ hm 0 12 = 0) : fX10_needs N k hm = some hm := by
  unfold fX10_needs fX10_needs_13
  rw [eats_F h, c2s, if_pos rfl, fails_F h, c1s]
theorem reads_F {lo hi : Int} (h : ¬ hm 0 12 = 0) : fX10_reads N lo hi hm = some (hm, hm 0 11) := by
  unfold fX10_reads fX10_reads_37 fX10_reads_53
  rw [is_F h, c1s, if_pos rfl, fails_F h, c1s, bbs, if_neg h]
end FAILED
section PARSE
variable {N L s p : Nat} {hc hm : pv_H}
theorem TYz.NX (T : TYz L s p hc hm) (h : hm 0 10 ≠ 43) : NXz L p hc hm := by
  obtain ⟨t1, t2, t3, t4, t5, t6, t7, t8, t9, t10, t11, t12, t13, t14, t15, t16⟩ := T
  exact ⟨t1, t3, t4, t5, t14, (t15 h).1, (t15 h).2⟩
theorem TYz.z12 (T : TYz L s p hc hm) : hm 0 12 = 0 := T.2.2.2.2.2.2.2.2.2.2.2.2.2.1
theorem TYz.tok (T : TYz L s p hc hm) : hc 1 11 = tkz (hm 0 10) := T.2.2.2.2.2.2.2.2.2.1
theorem TYz.kb (T : TYz L s p hc hm) : 0 ≤ hm 0 10 ∧ hm 0 10 ≤ 43 := ⟨T.2.2.2.2.2.2.2.1, T.2.2.2.2.2.2.2.2.1⟩
theorem TYz.sp (T : TYz L s p hc hm) : s ≤ p ∧ p ≤ L ∧ L ≤ 400 := ⟨T.2.1, T.2.2.1, T.1.1⟩
theorem TYz.lt (T : TYz L s p hc hm) (h : hm 0 10 ≠ 42) : s < p := T.2.2.2.2.2.2.2.2.2.2.1 h
theorem TYz.wd (T : TYz L s p hc hm) (h : hm 0 10 ≤ 36) : s + 2 ≤ p := T.2.2.2.2.2.2.2.2.2.2.2.1 h
theorem TYz.frm {hc' hm' : pv_H} (T : TYz L s p hc hm) (f : ∀ x y, x = 19 ∨ x = 1 ∧ y ≠ 0 → hc' x y = hc x y) (g : ∀ x y, x = 4 ∨ x = 0 ∧ 7 ≤ y ∧ y ≤ 13 → hm' x y = hm x y) : TYz L s p hc' hm' := by
  obtain ⟨t1, t2, t3, t4, t5, t6, t7, t8, t9, t10, t11, t12, t13, t14, t15, t16⟩ := T
  have e10 : hm' 0 10 = hm 0 10 := g _ _ (by omega)
  have e11 : hm' 0 11 = hm 0 11 := g _ _ (by omega)
  have c1 : hc' 1 1 = hc 1 1 := f _ _ (by omega)
  have c2 : hc' 1 2 = hc 1 2 := f _ _ (by omega)
  refine ⟨t1.frm (fun x y u => f x y (by omega)) (fun x y u => g x y (by omega)), t2, t3, by rw [f _ _ (by omega)]; exact t4, by rw [g _ _ (by omega)]; exact t5, by rw [f _ _ (by omega)]; exact t6, by rw [g _ _ (by omega)]; exact t7, by rw [e10]; exact t8, by rw [e10]; exact t9, by rw [f _ _ (by omega), e10]; exact t10, by rw [e10]; exact t11, by rw [e10]; exact t12, ?_, by rw [g _ _ (by omega)]; exact t14, ?_, ?_⟩
  · rw [e10, e11, f 1 13 (by omega)]; exact t13
  · rw [e10, c1, c2]; exact t15
  · rw [e10, c1, c2]; exact t16
theorem FTz.frm {hc' hm' : pv_H} (F : FTz hc hm) (f : ∀ x y, x = 1 ∧ (y = 1 ∨ y = 2) → hc' x y = hc x y) (g : ∀ x y, x = 0 ∧ (y = 12 ∨ y = 13) → hm' x y = hm x y) : FTz hc' hm' := by
  unfold FTz at F ⊢
  rw [f 1 1 (by omega), f 1 2 (by omega), g 0 12 (by omega), g 0 13 (by omega)]
  exact F
theorem FTz.ne (F : FTz hc hm) : ¬ hm 0 12 = 0 := by
  have := F.1
  omega
/-- both tell a FAULT -/
theorem fail_2 {k : Int} (T : TYz L s p hc hm) (k2 : 2 ≤ k) (k5 : k ≤ 5) : ∃ hc' hm', fX4_fail N k hc = some (hc', 0) ∧ fX10_fails N k hm = some hm' ∧ FTz hc' hm' ∧ (∀ x y, ¬ RCf x y → hc' x y = hc x y) ∧ ∀ x y, ¬ RMf x y → hm' x y = hm x y := by
  obtain ⟨t1, t2, t3, t4, t5, t6, t7, t8, t9, t10, t11, t12, t13, t14, t15, t16⟩ := id T
  unfold fX4_fail fX4_fail_20 fX10_fails fX10_fails_23
  rw [if_pos t14]
  by_cases z : hm 0 10 = 43
  · obtain ⟨u1, u2⟩ := t16 z
    rw [if_neg (show ¬ hc 1 1 = 0 by omega), if_pos z, bbs, bbs]
    refine ⟨hc, _, rfl, rfl, ⟨?_, ?_, ?_, ?_⟩, fun _ _ _ => rfl, fun x y np => ?_⟩
    · rw [pv_up_ne (by omega), pv_up_self]; omega
    · rw [pv_up_ne (by omega), pv_up_self]; omega
    · rw [pv_up_ne (by omega), pv_up_self]; exact u1
    · rw [pv_up_self, pv_up_ne (by omega), u2, t7]
    · unfold RMf at np
      rw [pv_up_ne (by omega), pv_up_ne (by omega)]
  · obtain ⟨u1, u2⟩ := t15 z
    rw [if_pos u1, if_neg z, bbs, bbs, bbs, bbs]
    refine ⟨_, _, rfl, rfl, ⟨?_, ?_, ?_, ?_⟩, fun x y np => ?_, fun x y np => ?_⟩
    · rw [pv_up_ne (by omega), pv_up_self]; omega
    · rw [pv_up_ne (by omega), pv_up_self]; omega
    · rw [pv_up_ne (by omega), pv_up_self, pv_up_ne (by omega), pv_up_self]
    · rw [pv_up_self, pv_up_self, pv_up_ne (by omega), pv_up_ne (by omega), t6, t7]
    · unfold RCf at np
      rw [pv_up_ne (by omega), pv_up_ne (by omega)]
    · unfold RMf at np
      rw [pv_up_ne (by omega), pv_up_ne (by omega)]
/-- what both leave of a TOKEN that was asked for -/
def GOt (L p : Nat) (hc hm hc' hm' : pv_H) : Prop := ∃ s' p' : Nat, TYz L s' p' hc' hm' ∧ p ≤ s' ∧ (∀ x y, ¬ RCf x y → hc' x y = hc x y) ∧ ∀ x y, ¬ RMf x y → hm' x y = hm x y
def NOt (hc hm hc' hm' : pv_H) : Prop := FTz hc' hm' ∧ (∀ x y, ¬ RCf x y → hc' x y = hc x y) ∧ ∀ x y, ¬ RMf x y → hm' x y = hm x y
theorem nx_2 (hN : 1000 ≤ N) (T : TYz L s p hc hm) (h : hm 0 10 ≠ 43) : ∃ hc' hm', fX4_next N hc = some hc' ∧ fX10_next N hm = some hm' ∧ GOt L p hc hm hc' hm' := by
  obtain ⟨s', p', hc', hm', x1, x2, x3, x4, x5, x6⟩ := next_2 hN (T.NX h)
  exact ⟨hc', hm', x1, x2, s', p', x3, x4, x5, x6⟩
theorem expect_2 {k : Int} (hN : 1000 ≤ N) (T : TYz L s p hc hm) (k1 : k ≤ 42) : (hm 0 10 = k ∧ ∃ hc' hm', fX4_expect N (tkz k) hc = some (hc', 1) ∧ fX10_needs N k hm = some hm' ∧ GOt L p hc hm hc' hm') ∨ (¬ hm 0 10 = k ∧ ∃ hc' hm', fX4_expect N (tkz k) hc = some (hc', 0) ∧ fX10_needs N k hm = some hm' ∧ NOt hc hm hc' hm') := by
  unfold fX4_expect fX10_needs fX10_needs_13 fX10_eats
  rw [T.tok]
  by_cases z : hm 0 10 = k
  · obtain ⟨hc', hm', x1, x2, x3⟩ := nx_2 (N := N) hN T (by omega)
    refine Or.inl ⟨z, hc', hm', ?_, ?_, x3⟩
    · rw [if_pos (tk_inj.mpr z), x1, c1s]
    · rw [is_1 T.z12 z, c1s, if_neg n10, x2, c1s, c2s, if_neg n10]
  · obtain ⟨hc', hm', x1, x2, x3⟩ := fail_2 (N := N) (k := 2) T (by omega) (by omega)
    refine Or.inr ⟨z, hc', hm', ?_, ?_, x3⟩
    · rw [if_neg (fun u => z (tk_inj.mp u)), x1, c2s, if_pos (Or.inl rfl)]
    · rw [is_0 T.z12 z, c1s, if_pos rfl, c2s, if_pos rfl, x2, c1s]
theorem number_2 {lo hi : Int} (hN : 1000 ≤ N) (T : TYz L s p hc hm) : (∃ hc' hm' v, fX4_numberWithin N lo hi hc = some (hc', v) ∧ fX10_reads N lo hi hm = some (hm', v) ∧ lo ≤ v ∧ v ≤ hi ∧ 0 ≤ v ∧ v ≤ 999 ∧ s < p ∧ GOt L p hc hm hc' hm') ∨ (∃ hc' hm' r, fX4_numberWithin N lo hi hc = some (hc', -1) ∧ fX10_reads N lo hi hm = some (hm', r) ∧ NOt hc hm hc' hm') := by
  have t41 : tkz 38 = 41 := rfl
  unfold fX4_numberWithin fX4_numberWithin_33 fX10_reads fX10_reads_37 fX10_reads_53
  rw [T.tok, ← t41]
  by_cases z : hm 0 10 = 38
  · obtain ⟨n1, n2, n3⟩ := T.2.2.2.2.2.2.2.2.2.2.2.2.1 z
    rw [if_pos (tk_inj.mpr z), is_1 T.z12 z, c1s, if_neg n10, n1]
    by_cases y : lo ≤ hm 0 11 ∧ hm 0 11 ≤ hi
    · obtain ⟨hc', hm', x1, x2, x3⟩ := nx_2 (N := N) hN T (by omega)
      refine Or.inl ⟨hc', hm', hm 0 11, ?_, ?_, y.1, y.2, n2, n3, T.lt (by omega), x3⟩
      · rw [if_neg (by omega), if_pos y.2, bbs, x1, c1s]
      · rw [wn_1 y, c1s, if_neg n10, bbs, if_pos T.z12, x2, c1s]
    · obtain ⟨hc', hm', x1, x2, x3⟩ := fail_2 (N := N) (k := 3) T (by omega) (by omega)
      refine Or.inr ⟨hc', hm', hm' 0 11, ?_, ?_, x3⟩
      · by_cases w : hm 0 11 < lo
        · rw [if_pos w, x1, c2s]
        · rw [if_neg w, if_neg (by omega), x1, c2s]
      · rw [wn_0 y, c1s, if_pos rfl, x2, c1s, bbs, if_neg x3.1.ne]
  · obtain ⟨hc', hm', x1, x2, x3⟩ := fail_2 (N := N) (k := 2) T (by omega) (by omega)
    refine Or.inr ⟨hc', hm', hm' 0 11, ?_, ?_, x3⟩
    · rw [if_neg (fun u => z (tk_inj.mp u)), x1, c2s]
    · rw [is_0 T.z12 z, c1s, if_pos rfl, x2, c1s, bbs, if_neg x3.1.ne]
end PARSE
