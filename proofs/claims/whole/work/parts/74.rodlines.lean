/-! LINES of a ROD's text, both -/
def TMg (x y : Nat) : Prop := TMf x y ∨ x = 0 ∧ (y = 14 ∨ y = 17 ∨ y = 18)
def TFg (hm hm' : pv_H) : Prop := ∀ x y, ¬ TMg x y → hm' x y = hm x y
theorem TFg.rf {h : pv_H} : TFg h h := fun _ _ _ => rfl
theorem TFg.tr {h h1 h2 : pv_H} (a : TFg h h1) (b : TFg h1 h2) : TFg h h2 := fun x y n => (b x y n).trans (a x y n)
theorem TFm.g {h h1 : pv_H} (a : TFm h h1) : TFg h h1 := fun x y n => a x y (fun u => n (Or.inl u))
section RODL
variable {N L s p n : Nat} {hc hm : pv_H}
theorem spans_F {a v : Int} {h : pv_H} (hN : 1000 ≤ N) (z : ¬ h 0 12 = 0) : fX10_readSpans N a v h = some h := by
  obtain ⟨M, hM⟩ : ∃ M, N = M + 1 := ⟨N - 1, by omega⟩
  have e : fX10_readSpans_11 N a v (M + 1) 0 h = some h := by
    unfold fX10_readSpans_11 fX10_readSpans_43
    by_cases q : h 5 0 ≤ 0
    · rw [if_pos q]
    · rw [if_neg q, if_neg z]
  unfold fX10_readSpans
  rw [is_F z, c1s, if_pos rfl]
  rw [← hM] at e
  exact e
theorem semi_2 {w v a1 : Int} {j : Nat} (hN : 1000 ≤ N) (v0 : rlo j ≤ v) (v1 : v ≤ rhi j) (hw : w = 1 ∧ j = 0 ∨ w = 2 ∧ j = 1 ∨ w = 5 ∧ j = 2 ∨ (w = 3 ∨ w = 4) ∧ j = 3) (hv : 0 ≤ v) (T : TYz L s p hc hm) (R : RLz n hc hm) : (∃ hc' hm1 hm', fX4_readRodLine_74 N a1 w v hc = some (hc', 1) ∧ fX10_readSpans N ((2 + 60 * j : Nat) : Int) v hm = some hm1 ∧ fX10_needs N 39 hm1 = some hm' ∧ OKr L n s hc hm hc' hm') ∨ (∃ hc' hm1 hm', fX4_readRodLine_74 N a1 w v hc = some (hc', 0) ∧ fX10_readSpans N ((2 + 60 * j : Nat) : Int) v hm = some hm1 ∧ fX10_needs N 39 hm1 = some hm' ∧ NOr hc hm hc' hm') := by
  have t39 : tkz 39 = 42 := rfl
  unfold fX4_readRodLine_74 fX4_readRodLine_109
  rw [if_neg (show ¬ v = -1 by omega), if_neg (show ¬ w = 6 by omega)]
  rcases spans_2 (N := N) hN v0 v1 hw T R with ⟨hc1, hm1, x1, x2, s1, p1, T1, q1, R1, F1, G1⟩ | ⟨hc1, hm1, x1, x2, FT, F1, G1⟩
  · rw [x1, x2, c2s, if_neg n10, ← t39]
    rcases expect_2 (N := N) (k := 39) hN T1 (by omega) with ⟨_, hc2, hm2, y1, y2, s2, p2, T2, q2, F2, G2⟩ | ⟨_, hc2, hm2, y1, y2, FT, F2, G2⟩
    · refine Or.inl ⟨hc2, hm1, hm2, by rw [y1, c2s, if_pos (Or.inr rfl)], rfl, y2, s2, p2, T2, by have := T1.sp; omega, R1.rf F2 G2, F1.tr (TFc.of F2), G1.tr (TFm.of G2)⟩
    · refine Or.inr ⟨hc2, hm1, hm2, by rw [y1, c2s, if_pos (Or.inl rfl)], rfl, y2, FT, F1.tr (TFc.of F2), G1.tr (TFm.of G2)⟩
  · rw [x1, x2, c2s, if_pos rfl]
    exact Or.inr ⟨hc1, hm1, hm1, rfl, rfl, needs_F FT.ne, FT, F1, G1⟩
theorem numl_2 {w lo hi a1 : Int} {j : Nat} (hN : 1000 ≤ N) (v0 : rlo j ≤ lo) (v1 : hi ≤ rhi j) (lo0 : 0 ≤ lo) (hw : w = 1 ∧ j = 0 ∨ w = 2 ∧ j = 1 ∨ w = 5 ∧ j = 2 ∨ (w = 3 ∨ w = 4) ∧ j = 3) (T : TYz L s p hc hm) (R : RLz n hc hm) (h48 : fX4_readRodLine_48 N a1 w 2 hc = pv_c2b (fX4_numberWithin N lo hi hc) fun h r => fX4_readRodLine_74 N a1 w r h) (h165 : ∀ r h, fX10_readRodLine_165 N w r h = pv_c1 (fX10_readSpans N ((2 + 60 * j : Nat) : Int) r h) fun h' => some h') : (∃ hc' hm1 hm', fX4_readRodLine_48 N a1 w 2 hc = some (hc', 1) ∧ (pv_c2b (fX10_reads N lo hi hm) fun h r => fX10_readRodLine_165 N w r h) = some hm1 ∧ fX10_needs N 39 hm1 = some hm' ∧ OKr L n s hc hm hc' hm') ∨ (∃ hc' hm1 hm', fX4_readRodLine_48 N a1 w 2 hc = some (hc', 0) ∧ (pv_c2b (fX10_reads N lo hi hm) fun h r => fX10_readRodLine_165 N w r h) = some hm1 ∧ fX10_needs N 39 hm1 = some hm' ∧ NOr hc hm hc' hm') := by
  rw [h48]
  rcases number_2 (N := N) (lo := lo) (hi := hi) hN T with ⟨hc1, hm1, v, y1, y2, a0, a1', b0, _, lt1, s1, p1, T1, q1, F1, G1⟩ | ⟨hc1, hm1, r, y1, y2, FT, F1, G1⟩
  · rw [y1, y2, c2s, c2s, h165]
    rcases semi_2 (N := N) (a1 := a1) (v := v) (w := w) (j := j) hN (by omega) (by omega) hw b0 T1 (R.rf F1 G1) with ⟨hc2, hm2, hm3, z1, z2, z3, s2, p2, T2, q2, R2, F2, G2⟩ | ⟨hc2, hm2, hm3, z1, z2, z3, FT, F2, G2⟩
    · exact Or.inl ⟨hc2, hm2, hm3, z1, by rw [z2, c1s], z3, s2, p2, T2, by omega, R2, (TFc.of F1).tr F2, (TFm.of G1).tr G2⟩
    · exact Or.inr ⟨hc2, hm2, hm3, z1, by rw [z2, c1s], z3, FT, (TFc.of F1).tr F2, (TFm.of G1).tr G2⟩
  · rw [y1, y2, c2s, c2s, h165, spans_F hN FT.ne, c1s]
    refine Or.inr ⟨hc1, hm1, hm1, ?_, rfl, needs_F FT.ne, FT, TFc.of F1, TFm.of G1⟩
    unfold fX4_readRodLine_74
    rw [if_pos rfl]
theorem rline_2 {v : Nat} (hN : 1000 ≤ N) (T : TYz L s p hc hm) (R : RLz n hc hm) (e14 : hm 0 14 = (v : Int)) (v1 : 1 ≤ v) (v24 : v ≤ 24) : (∃ hc' hm1 hm', fX4_readRodLine N (v : Int) hc = some (hc', 1) ∧ fX10_readRodLine N hm = some hm1 ∧ fX10_needs N 39 hm1 = some hm' ∧ v < 24 ∧ OKr L n s hc hm hc' hm') ∨ (∃ hc' hm1 hm', fX4_readRodLine N (v : Int) hc = some (hc', 0) ∧ fX10_readRodLine N hm = some hm1 ∧ fX10_needs N 39 hm1 = some hm' ∧ NOr hc hm hc' hm') := by
  have kb := T.kb
  have tk := tk_c (hm 0 10)
  unfold fX4_readRodLine fX10_readRodLine
  rw [bbs, T.tok, e14, if_neg (show ¬ (v : Int) = 0 by omega), if_pos T.z12]
  unfold fX10_readRodLine_28
  by_cases wk : 1 ≤ hm 0 10 ∧ hm 0 10 ≤ 6
  · rw [if_neg (show ¬ tkz (hm 0 10) < 1 by omega), if_pos (show tkz (hm 0 10) ≤ 6 by omega), wn_1 wk, c1s, if_neg n10, e14]
    by_cases e24 : (v : Int) = 24
    · obtain ⟨hc1, hm1, x1, x2, FT, F1, G1⟩ := fail_2 (N := N) (k := 4) T (by omega) (by omega)
      rw [if_pos e24, if_pos e24, x1, c2s, if_pos (Or.inl rfl), x2, c1s]
      unfold fX10_readRodLine_63
      rw [if_neg FT.ne]
      exact Or.inr ⟨hc1, hm1, hm1, rfl, rfl, needs_F FT.ne, FT, TFc.of F1, TFm.of G1⟩
    · rw [if_neg e24, if_neg e24]
      unfold fX10_readRodLine_63
      obtain ⟨hc1, hm1, x1, x2, s1, p1, T1, q1, F1, G1⟩ := nx_2 (N := N) hN T (by omega)
      have R1 : RLz n hc1 hm1 := R.rf F1 G1
      have ek : tkz (hm 0 10) = hm 0 10 := by omega
      have sp := T.sp
      rw [if_pos T.z12, x1, x2, c1s, c1s, ek]
      -- what is told of the cells
      have fin : ∀ (A : Option (pv_H × Int)) (B : Option pv_H), ((∃ hc' hm2 hm', A = some (hc', 1) ∧ B = some hm2 ∧ fX10_needs N 39 hm2 = some hm' ∧ OKr L n s1 hc1 hm1 hc' hm') ∨ (∃ hc' hm2 hm', A = some (hc', 0) ∧ B = some hm2 ∧ fX10_needs N 39 hm2 = some hm' ∧ NOr hc1 hm1 hc' hm')) → ((∃ hc' hm2 hm', A = some (hc', 1) ∧ B = some hm2 ∧ fX10_needs N 39 hm2 = some hm' ∧ v < 24 ∧ OKr L n s hc hm hc' hm') ∨ (∃ hc' hm2 hm', A = some (hc', 0) ∧ B = some hm2 ∧ fX10_needs N 39 hm2 = some hm' ∧ NOr hc hm hc' hm')) := by
        intro A B h
        rcases h with ⟨hc2, hm2, hm3, z1, z2, z3, s2, p2, T2, q2, R2, F2, G2⟩ | ⟨hc2, hm2, hm3, z1, z2, z3, FT, F2, G2⟩
        · exact Or.inl ⟨hc2, hm2, hm3, z1, z2, z3, by omega, s2, p2, T2, by omega, R2, (TFc.of F1).tr F2, (TFm.of G1).tr G2⟩
        · exact Or.inr ⟨hc2, hm2, hm3, z1, z2, z3, FT, (TFc.of F1).tr F2, (TFm.of G1).tr G2⟩
      rcases (show hm 0 10 = 1 ∨ hm 0 10 = 2 ∨ hm 0 10 = 3 ∨ hm 0 10 = 4 ∨ hm 0 10 = 5 ∨ hm 0 10 = 6 by omega) with z | z | z | z | z | z
      · rw [z, if_neg (by omega), if_neg (by omega), if_neg (by omega), if_neg (by omega), if_pos rfl]
        refine fin _ _ (numl_2 (lo := 1) (hi := 99) (w := 1) (j := 0) hN (by decide) (by decide) (by omega) (Or.inl ⟨rfl, rfl⟩) T1 R1 ?_ ?_)
        · unfold fX4_readRodLine_48
          rw [if_neg (by omega), if_neg (by omega), if_pos (by omega), if_pos (by omega)]
          rfl
        · intro r h
          unfold fX10_readRodLine_165 fX10_readRodLine_188 fX10_readRodLine_192
          rw [if_pos rfl]
          rfl
      · rw [z, if_neg (by omega), if_neg (by omega), if_neg (by omega), if_neg (by omega), if_neg (by omega), if_pos rfl]
        refine fin _ _ (numl_2 (lo := 1) (hi := 999) (w := 2) (j := 1) hN (by decide) (by decide) (by omega) (Or.inr (Or.inl ⟨rfl, rfl⟩)) T1 R1 ?_ ?_)
        · unfold fX4_readRodLine_48
          rw [if_neg (by omega), if_neg (by omega), if_pos (by omega), if_pos (by omega)]
          rfl
        · intro r h
          unfold fX10_readRodLine_165 fX10_readRodLine_188 fX10_readRodLine_192
          rw [if_neg (by omega), if_pos rfl]
          rfl
      · rw [z, if_pos rfl, if_pos rfl]
        unfold fX4_readRodLine_48 fX10_readRodLine_85 fX10_readRodLine_99 fX10_readRodLine_192
        rw [if_pos rfl, if_pos rfl]
        have h := semi_2 (N := N) (a1 := (v : Int)) (v := 1) (w := 3) (j := 3) hN (by decide) (by decide) (Or.inr (Or.inr (Or.inr ⟨Or.inl rfl, rfl⟩))) (by omega) T1 R1
        refine fin _ _ ?_
        rcases h with ⟨hc2, hm2, hm3, z1, z2, z3, z4⟩ | ⟨hc2, hm2, hm3, z1, z2, z3, z4⟩
        · have z2 : fX10_readSpans N 182 1 hm1 = some hm2 := z2
          exact Or.inl ⟨hc2, hm2, hm3, z1, by rw [z2, c1s], z3, z4⟩
        · have z2 : fX10_readSpans N 182 1 hm1 = some hm2 := z2
          exact Or.inr ⟨hc2, hm2, hm3, z1, by rw [z2, c1s], z3, z4⟩
      · rw [z, if_neg (by omega), if_neg (by omega), if_pos rfl]
        unfold fX4_readRodLine_48 fX10_readRodLine_85 fX10_readRodLine_99 fX10_readRodLine_192
        rw [if_neg (by omega), if_pos rfl, if_neg (by omega)]
        have h := semi_2 (N := N) (a1 := (v : Int)) (v := 2) (w := 4) (j := 3) hN (by decide) (by decide) (Or.inr (Or.inr (Or.inr ⟨Or.inr rfl, rfl⟩))) (by omega) T1 R1
        refine fin _ _ ?_
        rcases h with ⟨hc2, hm2, hm3, z1, z2, z3, z4⟩ | ⟨hc2, hm2, hm3, z1, z2, z3, z4⟩
        · have z2 : fX10_readSpans N 182 2 hm1 = some hm2 := z2
          exact Or.inl ⟨hc2, hm2, hm3, z1, by rw [z2, c1s], z3, z4⟩
        · have z2 : fX10_readSpans N 182 2 hm1 = some hm2 := z2
          exact Or.inr ⟨hc2, hm2, hm3, z1, by rw [z2, c1s], z3, z4⟩
      · rw [z, if_neg (by omega), if_neg (by omega), if_neg (by omega), if_neg (by omega), if_neg (by omega), if_neg (by omega)]
        refine fin _ _ (numl_2 (lo := 0) (hi := 99) (w := 5) (j := 2) hN (by decide) (by decide) (by omega) (Or.inr (Or.inr (Or.inl ⟨rfl, rfl⟩))) T1 R1 ?_ ?_)
        · unfold fX4_readRodLine_48
          rw [if_neg (by omega), if_neg (by omega), if_pos (by omega), if_pos (by omega)]
          rfl
        · intro r h
          unfold fX10_readRodLine_165 fX10_readRodLine_188 fX10_readRodLine_192
          rw [if_neg (by omega), if_neg (by omega)]
          rfl
      · have t39 : tkz 39 = 42 := rfl
        rw [z, if_neg (by omega), if_neg (by omega), if_neg (by omega), if_pos rfl]
        have h48 : fX4_readRodLine_48 N (v : Int) 6 2 hc1 = pv_c2b (fX4_numberWithin N 0 99 hc1) fun h r => fX4_readRodLine_74 N (v : Int) 6 r h := by
          unfold fX4_readRodLine_48
          rw [if_neg (by omega), if_neg (by omega), if_pos (by omega), if_pos (by omega)]
          rfl
        rw [h48]
        refine fin _ _ ?_
        rcases number_2 (N := N) (lo := 0) (hi := 99) hN T1 with ⟨hc2, hm2, a, y1, y2, a0, a1, _, _, lt1, s2, p2, T2, q2, F2, G2⟩ | ⟨hc2, hm2, r, y1, y2, FT, F2, G2⟩
        · have R2 : RLz n hc2 hm2 := R1.rf F2 G2
          have sp1 := T1.sp
          rw [y1, y2, c2s, c2s]
          unfold fX4_readRodLine_74 fX4_readRodLine_109 fX10_readRodLine_192
          rw [if_neg (by omega), if_pos rfl, bbs, bbs, ← t39]
          have T3 : TYz L s2 p2 (pv_up hc2 2 1 a) (pv_up hm2 5 1 a) := T2.frm (fun x y u => pv_up_ne (by omega)) (fun x y u => pv_up_ne (by omega))
          have R3 : RLz n (pv_up hc2 2 1 a) (pv_up hm2 5 1 a) := by
            obtain ⟨r1, r2, r3, r4, r5, r6, r7, r8, r9⟩ := R2
            refine ⟨r1, r2, by rw [pv_up_ne (by omega)]; exact r3, by rw [pv_up_ne (by omega)]; exact r4, by rw [pv_up_self, pv_up_self], by rw [pv_up_self]; exact a0, by rw [pv_up_self]; exact a1, fun j i hj hi => ?_, fun i hi => by rw [pv_up_ne (by omega)]; exact r9 i hi⟩
            rw [pv_up_ne (by omega), pv_up_ne (by omega)]
            exact r8 j i hj hi
          have F3 : TFc hc1 (pv_up hc2 2 1 a) := (TFc.of F2).tr (fun x y np => pv_up_ne (by unfold TCf at np; omega))
          have G3 : TFm hm1 (pv_up hm2 5 1 a) := (TFm.of G2).tr (fun x y np => pv_up_ne (by unfold TMf at np; omega))
          rcases expect_2 (N := N) (k := 39) hN T3 (by omega) with ⟨_, hc4, hm4, y1, y2, s4, p4, T4, q4, F4, G4⟩ | ⟨_, hc4, hm4, y1, y2, FT, F4, G4⟩
          · have sp3 := T3.sp
            exact Or.inl ⟨hc4, _, hm4, by rw [y1, c2s, if_pos (Or.inr rfl)], rfl, y2, s4, p4, T4, by omega, R3.rf F4 G4, F3.tr (TFc.of F4), G3.tr (TFm.of G4)⟩
          · exact Or.inr ⟨hc4, _, hm4, by rw [y1, c2s, if_pos (Or.inl rfl)], rfl, y2, FT, F3.tr (TFc.of F4), G3.tr (TFm.of G4)⟩
        · rw [y1, y2, c2s, c2s]
          unfold fX4_readRodLine_74 fX10_readRodLine_192
          rw [if_pos rfl, bbs]
          have FT' : FTz hc2 (pv_up hm2 5 1 r) := FT.frm (fun _ _ _ => rfl) (fun x y u => pv_up_ne (by omega))
          exact Or.inr ⟨hc2, _, _, rfl, rfl, needs_F FT'.ne, FT', TFc.of F2, (TFm.of G2).tr (fun x y np => pv_up_ne (by unfold TMf at np; omega))⟩
  · obtain ⟨hc1, hm1, x1, x2, FT, F1, G1⟩ := fail_2 (N := N) (k := 2) T (by omega) (by omega)
    have eC : (if tkz (hm 0 10) < 1 then fX4_readRodLine_16 N (v : Int) hc else if tkz (hm 0 10) ≤ 6 then (if (v : Int) = 24 then (pv_c2b (fX4_fail N 4 hc) fun h9 r10 => if r10 = 0 ∨ r10 = 1 then (some (h9, r10)) else none) else (pv_c1 (fX4_next N hc) fun h6 => if tkz (hm 0 10) = 3 then (fX4_readRodLine_48 N (v : Int) (tkz (hm 0 10)) (1) h6) else (fX4_readRodLine_48 N (v : Int) (tkz (hm 0 10)) (2) h6))) else fX4_readRodLine_16 N (v : Int) hc) = some (hc1, 0) := by
      have e16 : fX4_readRodLine_16 N (v : Int) hc = some (hc1, 0) := by
        unfold fX4_readRodLine_16
        rw [x1, c2s, if_pos (Or.inl rfl)]
      by_cases q : tkz (hm 0 10) < 1
      · rw [if_pos q, e16]
      · rw [if_neg q, if_neg (by omega), e16]
    rw [eC, wn_0 wk, c1s, if_pos rfl, x2, c1s]
    unfold fX10_readRodLine_63
    rw [if_neg FT.ne]
    exact Or.inr ⟨hc1, hm1, hm1, rfl, rfl, needs_F FT.ne, FT, TFc.of F1, TFm.of G1⟩
/-- how a text ends, both -/
def OKe (hc hm hc' hm' : pv_H) (u : Nat) : Prop := hm' 0 12 = 0 ∧ hm' 0 14 = (u : Int) ∧ hc' 1 1 = 0 ∧ hc' 1 2 = -1 ∧ TFc hc hc' ∧ TFg hm hm'
def NOe (hc hm hc' hm' : pv_H) : Prop := FTz hc' hm' ∧ TFc hc hc' ∧ TFg hm hm'
theorem t140_F {a1 a2 a3 : Int} {f : Nat} {h : pv_H} (z : ¬ h 0 12 = 0) (hf : 0 < f) : fX10_text_140 N a1 a2 a3 f h = fX10_text_225 N a1 a2 a3 h := by
  obtain ⟨f, rfl⟩ : ∃ g, f = g + 1 := ⟨f - 1, by omega⟩
  rw [fX10_text_140, if_neg z]
theorem rlines_l {a2 a3 : Int} (hN : 1000 ≤ N) : ∀ (d v f f' s p : Nat) (hc hm : pv_H), v + d = 24 → d < f → d + 1 < f' → 1 ≤ v → TYz L s p hc hm → RLz n hc hm → hm 0 14 = (v : Int) → (∃ (hc' hm' : pv_H) (u : Nat), fX4_readRod_51 N f (v : Int) hc = some (hc', (u : Int)) ∧ fX10_text_140 N 0 a2 a3 f' hm = fX10_text_225 N 0 a2 a3 hm' ∧ 1 ≤ u ∧ u ≤ 24 ∧ RLz n hc' hm' ∧ OKe hc hm hc' hm' u) ∨ (∃ hc' hm', fX4_readRod_51 N f (v : Int) hc = some (hc', 0) ∧ fX10_text_140 N 0 a2 a3 f' hm = fX10_text_225 N 0 a2 a3 hm' ∧ NOe hc hm hc' hm') := by
  have t45 : tkz 42 = 45 := rfl
  intro d
  induction d with
  | zero =>
    intro v f f' s p hc hm h1 h2 h3 h4 T R e14
    obtain ⟨f, rfl⟩ : ∃ g, f = g + 1 := ⟨f - 1, by omega⟩
    obtain ⟨f', rfl⟩ : ∃ g, f' = g + 1 := ⟨f' - 1, by omega⟩
    rw [fX4_readRod_51, fX10_text_140, if_neg (by omega), T.tok, ← t45, if_pos T.z12]
    by_cases z : hm 0 10 = 42
    · rw [if_pos (tk_inj.mpr z), if_pos z, if_pos rfl, e14, if_neg (by omega)]
      have u := T.2.2.2.2.2.2.2.2.2.2.2.2.2.2.1 (by omega)
      exact Or.inl ⟨hc, hm, v, rfl, rfl, h4, by omega, R, T.z12, e14, u.1, u.2, TFc.rf, TFg.rf⟩
    · rw [if_neg (fun u => z (tk_inj.mp u)), if_neg z]
      unfold fX10_text_167 fX10_text_206
      rw [if_pos rfl]
      rcases rline_2 (N := N) hN T R e14 h4 (by omega) with ⟨hc1, hm1, hm2, x1, x2, x3, lt, _⟩ | ⟨hc1, hm1, hm2, x1, x2, x3, FT, F1, G1⟩
      · omega
      · rw [x1, x2, c2s, c1s, if_pos rfl, x3, c1s, bbs]
        have FT' : FTz hc1 (pv_up hm2 0 14 (pv_w (hm2 0 14 + 1))) := FT.frm (fun _ _ _ => rfl) (fun x y u => pv_up_ne (by omega))
        exact Or.inr ⟨hc1, _, rfl, t140_F FT'.ne (by omega), FT', F1, G1.g.tr (fun x y np => pv_up_ne (by unfold TMg at np; omega))⟩
  | succ d ih =>
    intro v f f' s p hc hm h1 h2 h3 h4 T R e14
    obtain ⟨f, rfl⟩ : ∃ g, f = g + 1 := ⟨f - 1, by omega⟩
    obtain ⟨f', rfl⟩ : ∃ g, f' = g + 1 := ⟨f' - 1, by omega⟩
    rw [fX4_readRod_51, fX10_text_140, if_neg (by omega), T.tok, ← t45, if_pos T.z12]
    by_cases z : hm 0 10 = 42
    · rw [if_pos (tk_inj.mpr z), if_pos z, if_pos rfl, e14, if_neg (by omega)]
      have u := T.2.2.2.2.2.2.2.2.2.2.2.2.2.2.1 (by omega)
      exact Or.inl ⟨hc, hm, v, rfl, rfl, h4, by omega, R, T.z12, e14, u.1, u.2, TFc.rf, TFg.rf⟩
    · rw [if_neg (fun u => z (tk_inj.mp u)), if_neg z]
      unfold fX10_text_167 fX10_text_206
      rw [if_pos rfl]
      rcases rline_2 (N := N) hN T R e14 h4 (by omega) with ⟨hc1, hm1, hm2, x1, x2, x3, lt, s2, p2, T2, q2, R2, F2, G2⟩ | ⟨hc1, hm1, hm2, x1, x2, x3, FT, F1, G1⟩
      · have e14' : hm2 0 14 = (v : Int) := by rw [G2 _ _ (by unfold TMf RMf; omega)]; exact e14
        rw [x1, x2, c2s, c1s, if_neg n10, x3, c1s, bbs, bbs, e14', pws (by omega)]
        have T3 : TYz L s2 p2 hc1 (pv_up hm2 0 14 ((v + 1 : Nat) : Int)) := T2.frm (fun _ _ _ => rfl) (fun x y u => pv_up_ne (by omega))
        have R3 : RLz n hc1 (pv_up hm2 0 14 ((v + 1 : Nat) : Int)) := R2.frm (fun _ _ _ => rfl) (fun y => pv_up_ne (by omega))
        have G3 : TFg hm (pv_up hm2 0 14 ((v + 1 : Nat) : Int)) := G2.g.tr (fun x y np => pv_up_ne (by unfold TMg at np; omega))
        rcases ih (v + 1) f f' s2 p2 hc1 _ (by omega) (by omega) (by omega) (by omega) T3 R3 (pv_up_self _ _ _ _) with ⟨hc', hm', u, y1, y2, y3, y4, y5, y6, y7, y8, y9, y10, y11⟩ | ⟨hc', hm', y1, y2, y3, y4, y5⟩
        · exact Or.inl ⟨hc', hm', u, y1, y2, y3, y4, y5, y6, y7, y8, y9, F2.tr y10, G3.tr y11⟩
        · exact Or.inr ⟨hc', hm', y1, y2, y3, F2.tr y4, G3.tr y5⟩
      · rw [x1, x2, c2s, c1s, if_pos rfl, x3, c1s, bbs]
        have FT' : FTz hc1 (pv_up hm2 0 14 (pv_w (hm2 0 14 + 1))) := FT.frm (fun _ _ _ => rfl) (fun x y u => pv_up_ne (by omega))
        exact Or.inr ⟨hc1, _, rfl, t140_F FT'.ne (by omega), FT', F1, G1.g.tr (fun x y np => pv_up_ne (by unfold TMg at np; omega))⟩
theorem rf20_l : ∀ (d i f : Nat) (h0 h : pv_H), i + d = 60 → d < f → (∀ x y, ¬ (x = 5 ∧ 2 ≤ y ∧ y < 122) → h x y = h0 x y) → (∀ k, k < i → h 5 (2 + k) = 10 ∧ h 5 (62 + k) = 100) → ∃ h', fX10_readFirst_20 N f (i : Int) h = some h' ∧ (∀ x y, ¬ (x = 5 ∧ 2 ≤ y ∧ y < 122) → h' x y = h0 x y) ∧ ∀ k, k < 60 → h' 5 (2 + k) = 10 ∧ h' 5 (62 + k) = 100 := by
  intro d
  induction d with
  | zero =>
    intro i f h0 h h1 h2 F V
    obtain ⟨f, rfl⟩ : ∃ g, f = g + 1 := ⟨f - 1, by omega⟩
    rw [fX10_readFirst_20, if_pos (by omega)]
    exact ⟨h, rfl, F, fun k hk => V k (by omega)⟩
  | succ d ih =>
    intro i f h0 h h1 h2 F V
    obtain ⟨f, rfl⟩ : ∃ g, f = g + 1 := ⟨f - 1, by omega⟩
    have x1 : pv_w (2 + (i : Int)) = ((2 + i : Nat) : Int) := by rw [pv_w_id (by omega) (by omega)]; omega
    have x2 : pv_w (62 + (i : Int)) = ((62 + i : Nat) : Int) := by rw [pv_w_id (by omega) (by omega)]; omega
    rw [fX10_readFirst_20, if_neg (by omega), x1, x2, if_pos (by omega), tnc, bbs, if_pos (by omega), tnc, bbs, bbs, pws (by omega)]
    refine ih (i + 1) f h0 _ (by omega) (by omega) (fun x y np => by rw [pv_up_ne (by omega), pv_up_ne (by omega)]; exact F x y np) (fun k hk => ?_)
    by_cases z : k = i
    · subst z
      rw [pv_up_self, pv_up_ne (by omega), pv_up_self]
      exact ⟨rfl, rfl⟩
    · rw [pv_up_ne (by omega), pv_up_ne (by omega), pv_up_ne (by omega), pv_up_ne (by omega)]
      exact V k (by omega)
theorem rod_2 {a2 a3 : Int} (hN : 1000 ≤ N) (T : TYz L s p hc hm) (e14 : hm 0 14 = 0) (zr : ∀ i, i < 417 → hm 5 i = 0) : (∃ (hc' hm' : pv_H) (u n : Nat), fX4_readRod N hc = some (hc', (u : Int)) ∧ fX10_text_140 N 0 a2 a3 N hm = fX10_text_225 N 0 a2 a3 hm' ∧ RLz n hc' hm' ∧ OKe hc hm hc' hm' u) ∨ (∃ hc' hm', fX4_readRod N hc = some (hc', 0) ∧ fX10_text_140 N 0 a2 a3 N hm = fX10_text_225 N 0 a2 a3 hm' ∧ NOe hc hm hc' hm') := by
  have t0 : tkz 0 = 0 := rfl
  have t39 : tkz 39 = 42 := rfl
  obtain ⟨M, hM⟩ : ∃ M, N = M + 2 := ⟨N - 2, by omega⟩
  have eM : fX10_text_140 N 0 a2 a3 N hm = pv_c1 (fX10_readFirst N hm) fun h4 => fX10_text_206 N (fun hh => fX10_text_140 N 0 a2 a3 (M + 1) hh) 0 a2 a3 h4 := by
    have e : fX10_text_140 N 0 a2 a3 (M + 1 + 1) hm = fX10_text_167 N (fun hh => fX10_text_140 N 0 a2 a3 (M + 1) hh) 0 a2 a3 hm := by
      rw [fX10_text_140, if_pos T.z12, if_pos rfl, if_pos e14]
      by_cases z : hm 0 10 = 42
      · rw [if_pos z]
      · rw [if_neg z]
    have e2 : fX10_text_140 N 0 a2 a3 N hm = fX10_text_140 N 0 a2 a3 (M + 1 + 1) hm := by rw [← hM]
    rw [e2, e]
    unfold fX10_text_167 fX10_readRodLine
    rw [if_pos rfl, if_pos e14]
    cases fX10_readFirst N hm with
    | none => rfl
    | some h => rfl
  -- how a text with a FAULT in its first LINE goes on
  have bad : ∀ (hc1 hm1 : pv_H), FTz hc1 hm1 → TFc hc hc1 → TFg hm hm1 → fX4_readRod N hc = some (hc1, 0) → fX10_readFirst N hm = some hm1 → (∃ hc' hm', fX4_readRod N hc = some (hc', 0) ∧ fX10_text_140 N 0 a2 a3 N hm = fX10_text_225 N 0 a2 a3 hm' ∧ NOe hc hm hc' hm') := by
    intro hc1 hm1 FT F G e1 e2
    have FT' : FTz hc1 (pv_up hm1 0 14 (pv_w (hm1 0 14 + 1))) := FT.frm (fun _ _ _ => rfl) (fun x y u => pv_up_ne (by omega))
    refine ⟨hc1, _, e1, ?_, FT', F, G.tr (fun x y np => pv_up_ne (by unfold TMg at np; omega))⟩
    rw [eM, e2, c1s]
    unfold fX10_text_206
    rw [needs_F FT.ne, c1s, bbs]
    exact t140_F FT'.ne (by omega)
  have loop : ∀ (h : pv_H) (r : Int), ∃ h', fX10_readFirst_20 N N 0 (pv_up h 5 0 r) = some h' ∧ (∀ x y, ¬ (x = 5 ∧ 2 ≤ y ∧ y < 122) → h' x y = pv_up h 5 0 r x y) ∧ ∀ k, k < 60 → h' 5 (2 + k) = 10 ∧ h' 5 (62 + k) = 100 := fun h r => rf20_l (N := N) 60 0 N (pv_up h 5 0 r) (pv_up h 5 0 r) (by omega) (by omega) (fun _ _ _ => rfl) (fun k hk => by omega)
  rcases expect_2 (N := N) (k := 0) hN T (by omega) with ⟨_, hc1, hm1, x1, x2, s1, p1, T1, q1, F1, G1⟩ | ⟨_, hc1, hm1, x1, x2, FT, F1, G1⟩
  · rcases number_2 (N := N) (lo := 3) (hi := 60) hN T1 with ⟨hc2, hm2, a, y1, y2, a0, a1, a00, _, lt1, s2, p2, T2, q2, F2, G2⟩ | ⟨hc2, hm2, r, y1, y2, FT, F2, G2⟩
    · obtain ⟨n, rfl⟩ := Int.eq_ofNat_of_zero_le a00
      obtain ⟨hm3, z1, z2, z3⟩ := loop hm2 (n : Int)
      have z4 : ∀ x y, ¬ (x = 5 ∧ (y = 0 ∨ 2 ≤ y ∧ y < 122)) → hm3 x y = hm2 x y := fun x y np => by rw [z2 x y (by omega), pv_up_ne (by omega)]
      have T3 : TYz L s2 p2 hc2 hm3 := T2.frm (fun _ _ _ => rfl) (fun x y u => z4 x y (by omega))
      have G23 : TFm hm hm3 := ((TFm.of G1).tr (TFm.of G2)).tr (fun x y np => z4 x y (by unfold TMf at np; omega))
      have F23 : TFc hc hc2 := (TFc.of F1).tr (TFc.of F2)
      have e1 : fX10_readFirst N hm = some hm3 := by
        unfold fX10_readFirst
        rw [x2, c1s, y2, c2s, bbs, z1]
      have e2 : fX4_readRod N hc = pv_c2b (fX4_expect N 42 hc2) fun h10 r11 => if r11 = 0 then (fX4_readRod_39 N h10) else (pv_c1 (fX5_begin N 2 (n : Int) h10) fun h14 => fX4_readRod_51 N N (1) h14) := by
        unfold fX4_readRod
        have x1' : fX4_expect N 0 hc = some (hc1, 1) := x1
        have y1' : fX4_numberWithin N (pv_t1.getD (Int.toNat 0) 0) (pv_t2.getD (Int.toNat 0) 0) hc1 = some (hc2, (n : Int)) := y1
        rw [x1', c2s, if_neg n10, y1', c2s, if_neg (by omega)]
      rw [← t39] at e2
      rcases expect_2 (N := N) (k := 39) hN T3 (by omega) with ⟨_, hc4, hm4, w1, w2, s4, p4, T4, q4, F4, G4⟩ | ⟨_, hc4, hm4, w1, w2, FT, F4, G4⟩
      · obtain ⟨hc5, v1, v2, v3⟩ := begin_C (N := N) (n := n) (r := 2) (h := hc4) (by omega) (by omega) (by omega)
        rw [w1, c2s, if_neg n10, v1, c1s] at e2
        have T5 : TYz L s4 p4 hc5 (pv_up hm4 0 14 ((0 + 1 : Nat) : Int)) := T4.frm (fun x y u => v2 x y (by omega)) (fun x y u => pv_up_ne (by omega))
        have zz : ∀ i, i < 417 → ¬ (i = 0 ∨ 2 ≤ i ∧ i < 122) → hm4 5 i = 0 := fun i hi np => by
          rw [G4 _ _ (by unfold RMf; omega), z4 _ _ (by omega), G2 _ _ (by unfold RMf; omega), G1 _ _ (by unfold RMf; omega)]
          exact zr i hi
        have z50 : hm4 5 0 = (n : Int) := by rw [G4 _ _ (by unfold RMf; omega), z2 _ _ (by omega), pv_up_self]
        have R5 : RLz n hc5 (pv_up hm4 0 14 ((0 + 1 : Nat) : Int)) := by
          obtain ⟨c1, c2, c3⟩ := v3
          refine ⟨by omega, by omega, c1, by rw [pv_up_ne (by omega)]; exact z50, by rw [pv_up_ne (by omega), zz 1 (by omega) (by omega)]; exact c2, by rw [pv_up_ne (by omega), zz 1 (by omega) (by omega)]; omega, by rw [pv_up_ne (by omega), zz 1 (by omega) (by omega)]; omega, fun j i hj hi => ?_, fun i hi => (c3 i hi).2.2.2.2⟩
          obtain ⟨d1, d2, d3, d4, _⟩ := c3 i hi
          rw [pv_up_ne (by omega)]
          rcases (show j = 0 ∨ j = 1 ∨ j = 2 ∨ j = 3 by omega) with rfl | rfl | rfl | rfl
          · have e : hm4 5 (2 + 60 * 0 + i) = 10 := by
              rw [show 2 + 60 * 0 + i = 2 + i by omega, G4 _ _ (by unfold RMf; omega)]
              exact (z3 i (by omega)).1
            rw [e]
            exact ⟨d1, by decide, by decide⟩
          · have e : hm4 5 (2 + 60 * 1 + i) = 100 := by
              rw [show 2 + 60 * 1 + i = 62 + i by omega, G4 _ _ (by unfold RMf; omega)]
              exact (z3 i (by omega)).2
            rw [e]
            exact ⟨d2, by decide, by decide⟩
          · have e : hm4 5 (2 + 60 * 2 + i) = 0 := zz _ (by omega) (by omega)
            rw [e]
            exact ⟨d3, by decide, by decide⟩
          · have e : hm4 5 (2 + 60 * 3 + i) = 0 := zz _ (by omega) (by omega)
            rw [e]
            exact ⟨d4, by decide, by decide⟩
        have e14' : hm4 0 14 = 0 := by rw [G4 _ _ (by unfold RMf; omega), G23 _ _ (by unfold TMf RMf; omega)]; exact e14
        have F5 : TFc hc hc5 := (F23.tr (TFc.of F4)).tr (fun x y np => v2 x y (by unfold TCf at np; omega))
        have G5 : TFg hm (pv_up hm4 0 14 ((0 + 1 : Nat) : Int)) := (G23.tr (TFm.of G4)).g.tr (fun x y np => pv_up_ne (by unfold TMg at np; omega))
        have e3 : fX10_text_140 N 0 a2 a3 N hm = fX10_text_140 N 0 a2 a3 (M + 1) (pv_up hm4 0 14 ((0 + 1 : Nat) : Int)) := by
          rw [eM, e1, c1s]
          unfold fX10_text_206
          have e01 : pv_w ((0 : Int) + 1) = ((0 + 1 : Nat) : Int) := pws (i := 0) (by omega)
          rw [w2, c1s, bbs, e14', e01]
        rw [e2, e3]
        have e4 : fX4_readRod_51 N N 1 hc5 = fX4_readRod_51 N N ((1 : Nat) : Int) hc5 := rfl
        rw [e4]
        rcases rlines_l (N := N) (a2 := a2) (a3 := a3) hN 23 1 N (M + 1) s4 p4 hc5 _ (by omega) (by omega) (by omega) (by omega) T5 R5 (pv_up_self _ _ _ _) with ⟨hc', hm', u, y1, y2, y3, y4, y5, y6, y7, y8, y9, y10, y11⟩ | ⟨hc', hm', y1, y2, y3, y4, y5⟩
        · exact Or.inl ⟨hc', hm', u, n, y1, y2, y5, y6, y7, y8, y9, F5.tr y10, G5.tr y11⟩
        · exact Or.inr ⟨hc', hm', y1, y2, y3, F5.tr y4, G5.tr y5⟩
      · rw [w1, c2s, if_pos rfl] at e2
        have FT' : FTz hc4 (pv_up hm4 0 14 (pv_w (hm4 0 14 + 1))) := FT.frm (fun _ _ _ => rfl) (fun x y u => pv_up_ne (by omega))
        refine Or.inr ⟨hc4, _, e2, ?_, FT', F23.tr (TFc.of F4), (G23.tr (TFm.of G4)).g.tr (fun x y np => pv_up_ne (by unfold TMg at np; omega))⟩
        rw [eM, e1, c1s]
        unfold fX10_text_206
        rw [w2, c1s, bbs]
        exact t140_F FT'.ne (by omega)
    · obtain ⟨hm3, z1, z2, z3⟩ := loop hm2 r
      have z4 : ∀ x y, ¬ x = 5 → hm3 x y = hm2 x y := fun x y np => by rw [z2 x y (by omega), pv_up_ne (by omega)]
      refine Or.inr (bad hc2 hm3 (FT.frm (fun _ _ _ => rfl) (fun x y u => z4 x y (by omega))) ((TFc.of F1).tr (TFc.of F2)) (((TFm.of G1).tr (TFm.of G2)).g.tr (fun x y np => z4 x y (by unfold TMg TMf at np; omega))) ?_ ?_)
      · unfold fX4_readRod
        have y1' : fX4_numberWithin N (pv_t1.getD (Int.toNat 0) 0) (pv_t2.getD (Int.toNat 0) 0) hc1 = some (hc2, -1) := y1
        have x1' : fX4_expect N 0 hc = some (hc1, 1) := x1
        rw [x1', c2s, if_neg n10, y1', c2s, if_pos rfl]
        rfl
      · unfold fX10_readFirst
        rw [x2, c1s, y2, c2s, bbs, z1]
  · obtain ⟨hm3, z1, z2, z3⟩ := loop hm1 (hm1 0 11)
    have z4 : ∀ x y, ¬ x = 5 → hm3 x y = hm1 x y := fun x y np => by rw [z2 x y (by omega), pv_up_ne (by omega)]
    refine Or.inr (bad hc1 hm3 (FT.frm (fun _ _ _ => rfl) (fun x y u => z4 x y (by omega))) (TFc.of F1) ((TFm.of G1).g.tr (fun x y np => z4 x y (by unfold TMg TMf at np; omega))) ?_ ?_)
    · unfold fX4_readRod
      have x1' : fX4_expect N 0 hc = some (hc1, 0) := x1
      rw [x1', c2s, if_pos rfl]
    · unfold fX10_readFirst
      rw [x2, c1s, reads_F FT.ne, c2s, bbs, z1]
end RODL
