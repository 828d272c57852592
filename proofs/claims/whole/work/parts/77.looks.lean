/-! FACTS, LOOKS as texts, both -/
section FACTS
variable {N o f f' : Nat}
theorem fact_s (hN : 1000 ≤ N) (o8 : o ≤ 8) (H2 : o < 8 → RDk N (o + 1) 2 f f') (H0 : o < 8 → RDk N (o + 1) 0 f f') : RDk N o 2 (f + 1) (f' + 1) := by
  intro L v e c s p hc hm T Q e17 bu
  have kb := T.kb
  have sp := T.sp
  have tk := tk_c (hm 0 10)
  rw [frC2, frM2]
  unfold fX4_readFact fX10_readFact
  rw [bbs, T.tok, if_pos T.z12, bbs]
  by_cases z26 : hm 0 10 = 26
  · -- not
    have t26 : tkz 26 = 26 := rfl
    have wd := T.wd (by omega)
    rw [z26, t26, if_pos rfl, if_pos rfl]
    unfold fX4_readFact_17 fX10_readFact_25
    rw [e17]
    by_cases q8 : o = 8
    · obtain ⟨hc1, hm1, x1, x2, FT, F1, G1⟩ := fail_2 (N := N) (k := 5) T (by omega) (by omega)
      rw [if_neg (by omega), if_pos (by omega), x1, c2s, if_pos (Or.inl rfl), x2, c1s]
      unfold fX10_readFact_39
      rw [if_neg FT.ne]
      exact Or.inr ⟨hc1, hm1, rfl, rfl, FT, Q.W.rf F1, FKc.of F1, FKm.of G1⟩
    · rw [if_pos (by omega), if_neg (by omega)]
      unfold fX10_readFact_39
      obtain ⟨hc1, hm1, x1, x2, s1, p1, T1, q1, F1, G1⟩ := nx_2 (N := N) hN T (by omega)
      have e171 : hm1 0 17 = (o : Int) := by rw [G1 _ _ (by unfold RMf; omega)]; exact e17
      rw [if_pos T.z12, x1, x2, c1s, c1s, if_neg (by omega), bbs, if_pos rfl, e171, pws (by omega)]
      rcases H2 (by omega) L v (e + 2) c s1 p1 hc1 _ T1.up17 (Q.rf F1 G1).up17 (pv_up_self _ _ _ _) (by omega) with ⟨hc2, hm2, y1, y2, c2, s2, p2, T2, Q2, e172, bu2, lt2, P2, pre2, F2, G2⟩ | ⟨hc2, hm2, y1, y2, FT, W, F2, G2⟩
      · have sp2 := T2.sp
        have ed : pv_w (((o + 1 : Nat) : Int) - 1) = (o : Int) := by rw [pv_w_id (by omega) (by omega)]; omega
        rw [y1, c2s, y2, c1s]
        unfold fX10_readFact_78 fX10_readFact_117
        obtain ⟨hc3, hm3, z1, z2, Q3, cd3, F3, G3⟩ := emit_2 (N := N) (w := 26) (x := 0) (Q2.up17 (x := (o : Int))) (by omega)
        rw [e172, ed, bbs, if_neg (by omega), if_pos T2.up17.z12, z2, c1s, z1, c1s, if_pos (Or.inr rfl)]
        have FA : FKc v hc hc3 := ((FKc.of F1).tr F2).tr (fun x y np => F3 x y (by unfold KCf at np; omega))
        have GA : FKm hm hm3 := (((FKm.of G1).up17.tr G2).up17).tr (fun x y np => G3 x y (by unfold KMf at np; omega))
        have same : ∀ j, j < c2 → cdz hm3 j = cdz hm2 j := fun j hj => by
          unfold cdz
          rw [G3 _ _ (by omega), pv_up_ne (by omega)]
        refine Or.inl ⟨hc3, hm3, rfl, rfl, c2 + 1, s2, p2, T2.up17.frm (fun x y u => F3 x y (by omega)) (fun x y u => G3 x y (by omega)), Q3, by rw [G3 _ _ (by omega), pv_up_self], by omega, by omega, pu_not (P2.congr (fun j _ b => same j b)) cd3, fun j hj => ?_, FA, GA⟩
        rw [same j (by have := P2.1; omega), pre2 j hj]
        unfold cdz
        rw [pv_up_ne (by omega)]
        exact G1 _ _ (by unfold RMf; omega)
      · obtain ⟨hc3, z1, W3, F3⟩ := tell_F (N := N) (w := 26) (x := 0) W
        rw [y1, c2s, y2, c1s, z1, c1s, if_pos (Or.inl rfl)]
        unfold fX10_readFact_78 fX10_readFact_117
        rw [bbs, if_neg (by omega), if_neg FT.up17.ne]
        exact Or.inr ⟨hc3, _, rfl, rfl, FT.up17.frm (fun x y u => F3 x y (by omega)) (fun _ _ _ => rfl), W3, ((FKc.of F1).tr F2).tr (fun x y np => F3 x y (by unfold KCf at np; omega)), ((FKm.of G1).up17.tr G2).up17⟩
  by_cases z40 : hm 0 10 = 40
  · -- brackets
    have t40 : tkz 40 = 43 := rfl
    have t41 : tkz 41 = 44 := rfl
    have lt := T.lt (by omega)
    rw [z40, t40, if_neg (by omega), if_pos rfl, if_neg (by omega), if_pos rfl]
    unfold fX4_readFact_17 fX10_readFact_25
    rw [e17]
    by_cases q8 : o = 8
    · obtain ⟨hc1, hm1, x1, x2, FT, F1, G1⟩ := fail_2 (N := N) (k := 5) T (by omega) (by omega)
      rw [if_neg (by omega), if_pos (by omega), x1, c2s, if_pos (Or.inl rfl), x2, c1s]
      unfold fX10_readFact_39
      rw [if_neg FT.ne]
      exact Or.inr ⟨hc1, hm1, rfl, rfl, FT, Q.W.rf F1, FKc.of F1, FKm.of G1⟩
    · rw [if_pos (by omega), if_neg (by omega)]
      unfold fX10_readFact_39
      obtain ⟨hc1, hm1, x1, x2, s1, p1, T1, q1, F1, G1⟩ := nx_2 (N := N) hN T (by omega)
      have e171 : hm1 0 17 = (o : Int) := by rw [G1 _ _ (by unfold RMf; omega)]; exact e17
      rw [if_pos T.z12, x1, x2, c1s, c1s, if_pos rfl, bbs, if_neg (by omega), e171, pws (by omega), ← t41]
      unfold fX4_readFact_62 fX4_readFact_63
      rcases H0 (by omega) L v e c s1 p1 hc1 _ T1.up17 (Q.rf F1 G1).up17 (pv_up_self _ _ _ _) (by omega) with ⟨hc2, hm2, y1, y2, c2, s2, p2, T2, Q2, e172, bu2, lt2, P2, pre2, F2, G2⟩ | ⟨hc2, hm2, y1, y2, FT, W, F2, G2⟩
      · have sp2 := T2.sp
        have ed : pv_w (((o + 1 : Nat) : Int) - 1) = (o : Int) := by rw [pv_w_id (by omega) (by omega)]; omega
        rw [y1, c2s, if_neg n10, y2, c1s]
        unfold fX10_readFact_78 fX10_readFact_117
        rw [e172, ed, bbs, if_pos rfl]
        have pre3 : ∀ j, j < c → cdz hm2 j = cdz hm j := fun j hj => by
          rw [pre2 j hj]
          unfold cdz
          rw [pv_up_ne (by omega)]
          exact G1 _ _ (by unfold RMf; omega)
        rcases expect_2 (N := N) (k := 41) hN (T2.up17 (x := (o : Int))) (by omega) with ⟨_, hc4, hm4, w1, w2, s4, p4, T4, q4, F4, G4⟩ | ⟨_, hc4, hm4, w1, w2, FT, F4, G4⟩
        · rw [w1, c2s, if_neg n10, if_pos (Or.inr rfl), w2, c1s]
          have cs : ∀ j, cdz hm4 j = cdz hm2 j := fun j => by
            unfold cdz
            rw [G4 _ _ (by unfold RMf; omega), pv_up_ne (by omega)]
          exact Or.inl ⟨hc4, hm4, rfl, rfl, c2, s4, p4, T4, Q2.up17.rf F4 G4, by rw [G4 _ _ (by unfold RMf; omega), pv_up_self], by omega, by omega, P2.congr (fun j _ _ => cs j), fun j hj => by rw [cs, pre3 j hj], ((FKc.of F1).tr F2).tr (FKc.of F4), (((FKm.of G1).up17.tr G2).up17).tr (FKm.of G4)⟩
        · rw [w1, c2s, if_pos rfl, if_pos (Or.inl rfl), w2, c1s]
          exact Or.inr ⟨hc4, hm4, rfl, rfl, FT, Q2.W.rf F4, ((FKc.of F1).tr F2).tr (FKc.of F4), (((FKm.of G1).up17.tr G2).up17).tr (FKm.of G4)⟩
      · rw [y1, c2s, if_pos rfl, if_pos (Or.inl rfl), y2, c1s]
        unfold fX10_readFact_78 fX10_readFact_117
        rw [bbs, if_pos rfl, needs_F FT.up17.ne, c1s]
        exact Or.inr ⟨hc2, _, rfl, rfl, FT.up17, W, (FKc.of F1).tr F2, ((FKm.of G1).up17.tr G2).up17⟩
  by_cases wk : 27 ≤ hm 0 10 ∧ hm 0 10 ≤ 36
  · -- a FACT
    have wd := T.wd (by omega)
    have ek : tkz (hm 0 10) = hm 0 10 := by omega
    obtain ⟨k, hk⟩ : ∃ k, k = hm 0 10 := ⟨_, rfl⟩
    obtain ⟨hc1, hm1, x1, x2, s1, p1, T1, q1, F1, G1⟩ := nx_2 (N := N) hN T (by omega)
    rw [ek, ← hk, if_neg (show ¬ k = 26 by omega), if_neg (show ¬ k = 43 by omega), if_neg (show ¬ k < 27 by omega), if_pos (show k ≤ 36 by omega), x1, c1s, if_neg (show ¬ k = 26 by omega), if_neg (show ¬ k = 40 by omega), wn_1 (show 27 ≤ k ∧ k ≤ 36 by omega), c1s, if_neg n10]
    unfold fX10_readFact_137
    rw [if_pos T.z12, x2, c1s]
    have Q1 := Q.rf F1 G1
    have e171 : hm1 0 17 = (o : Int) := by rw [G1 _ _ (by unfold RMf; omega)]; exact e17
    have put : ∀ (sA pA : Nat) (hcA hmA : pv_H) (r : Int), TYz L sA pA hcA hmA → QLz v c hcA hmA → hmA 0 17 = (o : Int) → s + 2 ≤ sA → (∀ j, cdz hmA j = cdz hm j) → FKc v hc hcA → FKm hm hmA → ∃ hc' hm', fX3_tell N 14 k r hcA = some hc' ∧ fX10_emit N k r hmA = some hm' ∧ OKk L v e o c s hc hm hc' hm' := by
      intro sA pA hcA hmA r TA QA eA lA cA FA GA
      have spA := TA.sp
      obtain ⟨hc3, hm3, z1, z2, Q3, cd3, F3, G3⟩ := emit_2 (N := N) (w := k) (x := r) QA (by omega)
      refine ⟨hc3, hm3, z1, z2, c + 1, sA, pA, TA.frm (fun x y u => F3 x y (by omega)) (fun x y u => G3 x y (by omega)), Q3, by rw [G3 _ _ (by omega)]; exact eA, by omega, by omega, pu_fact (by rw [cd3]; omega), fun j hj => ?_, FA.tr (fun x y np => F3 x y (by unfold KCf at np; omega)), GA.tr (fun x y np => G3 x y (by unfold KMf at np; omega))⟩
      rw [← cA]
      unfold cdz
      exact G3 _ _ (by omega)
    have c1same : ∀ j, cdz hm1 j = cdz hm j := fun j => G1 _ _ (by unfold RMf; omega)
    by_cases k28 : k ≤ 28
    · rw [if_neg (show ¬ 28 < k by omega), if_neg (show ¬ k = 29 by omega), wn_0 (show ¬ (30 ≤ k ∧ k ≤ 32) by omega), c1s, if_pos rfl, if_neg (show ¬ k = 33 by omega), if_neg (show ¬ k = 34 by omega), if_neg (show ¬ k = 35 by omega), if_neg (show ¬ k = 36 by omega)]
      unfold fX4_readFact_130 fX10_readFact_248 fX10_readFact_261
      obtain ⟨hc3, hm3, z1, z2, z3⟩ := put s1 p1 hc1 hm1 0 T1 Q1 e171 (by omega) c1same (FKc.of F1) (FKm.of G1)
      rw [if_neg (by omega), z1, c1s, if_pos T1.z12, z2, c1s]
      exact Or.inl ⟨hc3, hm3, rfl, rfl, z3⟩
    · obtain ⟨lo, hi, t1, t2, lo0, eM⟩ : ∃ lo hi : Int, pv_t1.getD (Int.toNat k) 0 = lo ∧ pv_t2.getD (Int.toNat k) 0 = hi ∧ 0 ≤ lo ∧ (if k = 29 then (pv_c2b (fX10_reads N 1 61 hm1) fun h34 r35 => fX10_readFact_248 N (fr_M N f') k r35 h34) else (pv_c1 (fX10_within N k 30 32 hm1) fun r18 => if r18 = 0 then (if k = 33 then (pv_c2b (fX10_reads N 0 59 hm1) fun h28 r29 => fX10_readFact_248 N (fr_M N f') k r29 h28) else (if k = 34 then (fX10_readFact_222 N (fr_M N f') k hm1) else (if k = 35 then (fX10_readFact_222 N (fr_M N f') k hm1) else (if k = 36 then (pv_c2b (fX10_reads N 0 999 hm1) fun h25 r26 => fX10_readFact_248 N (fr_M N f') k r26 h25) else (fX10_readFact_248 N (fr_M N f') k 0 hm1))))) else (pv_c2b (fX10_reads N 0 99 hm1) fun h31 r32 => fX10_readFact_248 N (fr_M N f') k r32 h31))) = pv_c2b (fX10_reads N lo hi hm1) fun h r => fX10_readFact_248 N (fr_M N f') k r h := by
        unfold fX10_readFact_222
        rcases (show k = 29 ∨ (30 ≤ k ∧ k ≤ 32) ∨ k = 33 ∨ k = 34 ∨ k = 35 ∨ k = 36 by omega) with z | z | z | z | z | z
        · refine ⟨1, 61, by rw [z]; rfl, by rw [z]; rfl, by omega, ?_⟩
          rw [if_pos z]
        · refine ⟨0, 99, ?_, ?_, by omega, ?_⟩
          · rcases (show k = 30 ∨ k = 31 ∨ k = 32 by omega) with u | u | u <;> rw [u] <;> rfl
          · rcases (show k = 30 ∨ k = 31 ∨ k = 32 by omega) with u | u | u <;> rw [u] <;> rfl
          · rw [if_neg (by omega), wn_1 z, c1s, if_neg n10]
        · refine ⟨0, 59, by rw [z]; rfl, by rw [z]; rfl, by omega, ?_⟩
          rw [if_neg (by omega), wn_0 (by omega), c1s, if_pos rfl, if_pos z]
        · refine ⟨1, 60, by rw [z]; rfl, by rw [z]; rfl, by omega, ?_⟩
          rw [if_neg (by omega), wn_0 (by omega), c1s, if_pos rfl, if_neg (by omega), if_pos z]
        · refine ⟨1, 60, by rw [z]; rfl, by rw [z]; rfl, by omega, ?_⟩
          rw [if_neg (by omega), wn_0 (by omega), c1s, if_pos rfl, if_neg (by omega), if_neg (by omega), if_pos z]
        · refine ⟨0, 999, by rw [z]; rfl, by rw [z]; rfl, by omega, ?_⟩
          rw [if_neg (by omega), wn_0 (by omega), c1s, if_pos rfl, if_neg (by omega), if_neg (by omega), if_neg (by omega), if_pos z]
      rw [eM, if_pos (show 28 < k by omega), if_pos (show 0 ≤ k ∧ k < 37 by omega), if_pos (show 0 ≤ k ∧ k < 37 by omega), t1, t2]
      rcases number_2 (N := N) (lo := lo) (hi := hi) hN T1 with ⟨hc2, hm2, r, y1, y2, r0, r1, b0, _, lt3, s2, p2, T2, q2, F2, G2⟩ | ⟨hc2, hm2, r, y1, y2, FT, F2, G2⟩
      · unfold fX4_readFact_130 fX10_readFact_248 fX10_readFact_261
        obtain ⟨hc3, hm3, z1, z2, z3⟩ := put s2 p2 hc2 hm2 r T2 (Q1.rf F2 G2) (by rw [G2 _ _ (by unfold RMf; omega)]; exact e171) (by omega) (fun j => by
          rw [← c1same]
          exact G2 _ _ (by unfold RMf; omega)) ((FKc.of F1).tr (FKc.of F2)) ((FKm.of G1).tr (FKm.of G2))
        rw [y1, y2, c2s, c2s, if_neg (by omega), z1, c1s, if_pos T2.z12, z2, c1s]
        exact Or.inl ⟨hc3, hm3, rfl, rfl, z3⟩
      · rw [y1, y2, c2s, c2s]
        unfold fX4_readFact_130 fX10_readFact_248 fX10_readFact_261
        rw [if_pos rfl, if_neg FT.ne]
        exact Or.inr ⟨hc2, hm2, rfl, rfl, FT, (Q1.W).rf F2, (FKc.of F1).tr (FKc.of F2), (FKm.of G1).tr (FKm.of G2)⟩
  · -- none
    obtain ⟨hc1, hm1, x1, x2, FT, F1, G1⟩ := fail_2 (N := N) (k := 2) T (by omega) (by omega)
    have e96 : fX4_readFact_96 N (fr_C N f) (o : Int) hc = some (hc1, 0) := by
      unfold fX4_readFact_96
      rw [x1, c2s, if_pos (Or.inl rfl)]
    rw [if_neg (show ¬ tkz (hm 0 10) = 26 by omega), if_neg (show ¬ tkz (hm 0 10) = 43 by omega), if_neg z26, if_neg z40, wn_0 wk, c1s, if_pos rfl, x2, c1s]
    unfold fX10_readFact_137
    rw [if_neg FT.ne]
    refine Or.inr ⟨hc1, hm1, ?_, rfl, FT, Q.W.rf F1, FKc.of F1, FKm.of G1⟩
    by_cases q : tkz (hm 0 10) < 27
    · rw [if_pos q, e96]
    · rw [if_neg q, if_neg (by omega), e96]
theorem factr_k (hN : 1000 ≤ N) : ∀ (m o f f' : Nat), o + m = 8 → 3 * m < f → 3 * m < f' → RDk N o 2 f f' := by
  intro m
  induction m with
  | zero =>
    intro o f f' h1 h2 h3
    obtain ⟨f, rfl⟩ : ∃ g, f = g + 1 := ⟨f - 1, by omega⟩
    obtain ⟨f', rfl⟩ : ∃ g, f' = g + 1 := ⟨f' - 1, by omega⟩
    exact fact_s hN (by omega) (fun z => by omega) (fun z => by omega)
  | succ m ih =>
    intro o f f' h1 h2 h3
    obtain ⟨f, rfl⟩ : ∃ g, f = g + 1 + 1 + 1 := ⟨f - 3, by omega⟩
    obtain ⟨f', rfl⟩ : ∃ g, f' = g + 1 + 1 + 1 := ⟨f' - 3, by omega⟩
    exact fact_s hN (by omega) (fun _ => ih (o + 1) _ _ (by omega) (by omega) (by omega)) (fun _ => test_R hN (part_R hN (ih (o + 1) f f' (by omega) (by omega) (by omega))))
theorem test_0 (hN : 1000 ≤ N) : RDk N 0 0 40 40 := test_R hN (part_R hN (factr_k hN 8 0 38 38 (by omega) (by omega) (by omega)))
end FACTS
/-- LOOKS that have been told -/
def KLz (v c : Nat) (hc hm : pv_H) : Prop := v ≤ 8 ∧ hc 14 0 = (v : Int) ∧ hc 15 v = (c : Int) ∧ hm 0 18 = (c : Int) ∧ (∀ l, l < v → ∃ a b : Nat, a ≤ b ∧ b ≤ c ∧ hc 15 l = (a : Int) ∧ hc 15 (l + 1) = (b : Int) ∧ hm 5 (1 + l) = (a : Int) ∧ hm 5 (9 + l) = (b : Int) ∧ wfs (cdz hm) (b - a) a 0 = some 1) ∧ ∀ j, j < c → hc 16 j = hm 5 (17 + 2 * j) ∧ hc 17 j = hm 5 (17 + 2 * j + 1)
theorem KLz.frm {v c : Nat} {hc hm hc' hm' : pv_H} (K : KLz v c hc hm) (f : ∀ x y, 14 ≤ x ∧ x ≤ 17 → hc' x y = hc x y) (g : ∀ x y, x = 5 ∨ x = 0 ∧ y = 18 → hm' x y = hm x y) : KLz v c hc' hm' := by
  obtain ⟨k1, k2, k3, k4, k5, k6⟩ := K
  refine ⟨k1, by rw [f _ _ (by omega)]; exact k2, by rw [f _ _ (by omega)]; exact k3, by rw [g _ _ (by omega)]; exact k4, fun l hl => ?_, fun j hj => ?_⟩
  · obtain ⟨a, b, q1, q2, q3, q4, q5, q6, q7⟩ := k5 l hl
    refine ⟨a, b, q1, q2, by rw [f _ _ (by omega)]; exact q3, by rw [f _ _ (by omega)]; exact q4, by rw [g _ _ (by omega)]; exact q5, by rw [g _ _ (by omega)]; exact q6, ?_⟩
    rw [wfs_congr (g := cdz hm) (g' := cdz hm') _ _ _ (fun i _ _ => by unfold cdz; exact g _ _ (by omega))]
    exact q7
  · rw [f 16 j (by omega), f 17 j (by omega), g 5 _ (by omega), g 5 _ (by omega)]
    exact k6 j hj
section LOOKTEXT
variable {N L s p : Nat} {hc hm : pv_H}
/-- one LOOK, both -/
theorem look_2 {v c : Nat} (hN : 1000 ≤ N) (T : TYz L s p hc hm) (K : KLz v c hc hm) (e17 : hm 0 17 = 0) (e14 : hm 0 14 = (v : Int)) (bu : 2 * c ≤ s) {k9 : Int → pv_H → Option (pv_H × Int)} : (∃ hc' hm1 hm', ¬ (hm 0 10 = 22 ∧ v = 8) ∧ fX4_readLooks_49 N k9 (v : Int) hc = k9 ((v + 1 : Nat) : Int) hc' ∧ fX10_readLook N hm = some hm1 ∧ fX10_needs N 39 hm1 = some hm' ∧ v < 8 ∧ ∃ c' s' p' : Nat, TYz L s' p' hc' hm' ∧ KLz (v + 1) c' hc' hm' ∧ hm' 0 17 = 0 ∧ 2 * c' ≤ s' ∧ TFc hc hc' ∧ TFg hm hm' ∧ hm' 0 14 = hm 0 14) ∨ (∃ hc' hm1 hm', ((hm 0 10 = 22 ∧ v = 8 ∧ fX4_fail N 4 hc = some (hc', 0)) ∨ (¬ (hm 0 10 = 22 ∧ v = 8) ∧ fX4_readLooks_49 N k9 (v : Int) hc = some (hc', 0))) ∧ fX10_readLook N hm = some hm1 ∧ fX10_needs N 39 hm1 = some hm' ∧ FTz hc' hm' ∧ TFc hc hc' ∧ TFg hm hm') := by
  have t22 : tkz 22 = 22 := rfl
  have t23 : tkz 23 = 23 := rfl
  have t39 : tkz 39 = 42 := rfl
  have sp := T.sp
  have kc : ∀ {h h1 : pv_H}, FKc v h h1 → TFc h h1 := fun F x y np => F x y (by unfold TCf RCf at np; unfold KCf RCf; omega)
  have km : ∀ {h h1 : pv_H}, FKm h h1 → TFg h h1 := fun F x y np => F x y (by unfold TMg TMf RMf at np; unfold KMf RMf; omega)
  unfold fX10_readLook
  by_cases z22 : hm 0 10 = 22
  · rw [is_1 T.z12 z22, c1s, if_neg n10, e14]
    by_cases v8 : v = 8
    · obtain ⟨hc1, hm1, x1, x2, FT, F1, G1⟩ := fail_2 (N := N) (k := 4) T (by omega) (by omega)
      rw [if_pos (by omega), x2, c1s]
      unfold fX10_readLook_31
      rw [if_neg FT.ne]
      exact Or.inr ⟨hc1, hm1, hm1, Or.inl ⟨z22, v8, x1⟩, rfl, needs_F FT.ne, FT, TFc.of F1, (TFm.of G1).g⟩
    · have nv : ¬ (hm 0 10 = 22 ∧ v = 8) := fun u => v8 u.2
      have v8' : v < 8 := by have := K.1; omega
      rw [if_neg (by omega)]
      unfold fX10_readLook_31
      obtain ⟨hc1, hm1, x1, x2, s1, p1, T1, q1, F1, G1⟩ := nx_2 (N := N) hN T (by omega)
      have wd := T.wd (by omega)
      have e22 : fX4_expect N 22 hc = some (hc1, 1) := by
        unfold fX4_expect
        rw [T.tok, z22, t22, if_pos rfl, x1, c1s]
      rw [if_pos T.z12, x2, c1s]
      have e49 : fX4_readLooks_49 N k9 (v : Int) hc = pv_c2b (fX4_expect N 23 hc1) fun h15 r16 => if r16 = 0 then (fX4_readLooks_67 N h15) else (pv_b (pv_up h15 15 (v + 1) (h15 15 v)) fun h20 => pv_c2b (fr_C N 40 0 0 h20) fun h22 r23 => if r23 = 0 then (fX4_readLooks_106 N h22) else (pv_c2b (fX4_expect N 42 h22) fun h26 r27 => if r27 = 0 then (fX4_readLooks_106 N h26) else (pv_b (pv_up h26 14 0 (pv_w ((h26 14 0) + 1))) fun h29 => k9 ((v + 1 : Nat) : Int) h29))) := by
        unfold fX4_readLooks_49
        rw [e22, c2s, if_neg n10, pws (show v < 2000000000 by omega)]
        simp only [if_pos (show 0 ≤ (v : Int) ∧ (v : Int) < 9 by omega), if_pos (show 0 ≤ ((v + 1 : Nat) : Int) ∧ ((v + 1 : Nat) : Int) < 9 by omega), tnc, bbs]
      have x1l : pv_w (1 + (v : Int)) = ((1 + v : Nat) : Int) := by rw [pv_w_id (by omega) (by omega)]; omega
      have x9l : pv_w (9 + (v : Int)) = ((9 + v : Nat) : Int) := by rw [pv_w_id (by omega) (by omega)]; omega
      rcases expect_2 (N := N) (k := 23) hN T1 (by omega) with ⟨_, hc2, hm2, y1, y2, s2, p2, T2, q2, F2, G2⟩ | ⟨_, hc2, hm2, y1, y2, FT, F2, G2⟩
      · rw [t23] at y1
        have m14 : hm2 0 14 = (v : Int) := by rw [G2 _ _ (by unfold RMf; omega), G1 _ _ (by unfold RMf; omega)]; exact e14
        have m17 : hm2 0 17 = 0 := by rw [G2 _ _ (by unfold RMf; omega), G1 _ _ (by unfold RMf; omega)]; exact e17
        have K2 : KLz v c hc2 hm2 := K.frm (fun x y u => by rw [F2 _ _ (by unfold RCf; omega), F1 _ _ (by unfold RCf; omega)]) (fun x y u => by rw [G2 _ _ (by unfold RMf; omega), G1 _ _ (by unfold RMf; omega)])
        obtain ⟨k1, k2, k3, k4, k5, k6⟩ := id K2
        rw [y1, c2s, if_neg n10, bbs, k3] at e49
        rw [y2, c1s, m14, x1l, if_pos (by omega), tnc, k4, bbs]
        have sp1 := T1.sp
        have sp2 := T2.sp
        have T3 : TYz L s2 p2 (pv_up hc2 15 (v + 1) (c : Int)) (pv_up hm2 5 (1 + v) (c : Int)) := T2.frm (fun x y u => pv_up_ne (by omega)) (fun x y u => pv_up_ne (by omega))
        have Q3 : QLz v c (pv_up hc2 15 (v + 1) (c : Int)) (pv_up hm2 5 (1 + v) (c : Int)) := by
          refine ⟨v8', by rw [pv_up_ne (by omega)]; exact k2, pv_up_self _ _ _ _, by rw [pv_up_ne (by omega)]; exact k4, fun j hj => ?_⟩
          rw [pv_up_ne (by omega), pv_up_ne (by omega), pv_up_ne (by omega), pv_up_ne (by omega)]
          exact k6 j hj
        have F3 : TFc hc (pv_up hc2 15 (v + 1) (c : Int)) := ((TFc.of F1).tr (TFc.of F2)).tr (fun x y np => pv_up_ne (by unfold TCf at np; omega))
        have G3 : TFm hm (pv_up hm2 5 (1 + v) (c : Int)) := ((TFm.of G1).tr (TFm.of G2)).up5
        rcases test_0 (N := N) hN L v 0 c s2 p2 _ _ T3 Q3 (by rw [pv_up_ne (by omega)]; exact m17) (by omega) with ⟨hc4, hm4, z1, z2, c4, s4, p4, T4, Q4, e174, bu4, lt4, P4, pre4, F4, G4⟩ | ⟨hc4, hm4, z1, z2, FT, W, F4, G4⟩
        · have z1 : fr_C N 40 0 0 (pv_up hc2 15 (v + 1) (c : Int)) = some (hc4, 1) := z1
          rw [z1, c2s, if_neg n10] at e49
          have m144 : hm4 0 14 = (v : Int) := by rw [G4 _ _ (by unfold KMf RMf; omega), pv_up_ne (by omega)]; exact m14
          rw [z2, c1s, m144, x9l, if_pos (by omega), tnc, Q4.2.2.2.1, bbs]
          have T5 := T4.up5 (k := 9 + v) (x := (c4 : Int))
          have G5 : TFg hm (pv_up hm4 5 (9 + v) (c4 : Int)) := (G3.g.tr (km G4)).tr (fun x y np => pv_up_ne (by unfold TMg TMf at np; omega))
          have F5 := F3.tr (kc F4)
          have sp4 := T4.sp
          rcases expect_2 (N := N) (k := 39) hN T5 (by omega) with ⟨_, hc6, hm6, w1, w2, s6, p6, T6, q6, F6, G6⟩ | ⟨_, hc6, hm6, w1, w2, FT, F6, G6⟩
          · rw [t39] at w1
            have e146 : hc6 14 0 = (v : Int) := by rw [F6 _ _ (by unfold RCf; omega)]; exact Q4.2.1
            rw [w1, c2s, if_neg n10, bbs, e146, pws (show v < 2000000000 by omega)] at e49
            have f7 : ∀ x y, ¬ (x = 14 ∧ y = 0) → pv_up hc6 14 0 ((v + 1 : Nat) : Int) x y = hc4 x y ∨ RCf x y := fun x y np => by
              by_cases u : RCf x y
              · exact Or.inr u
              · left
                rw [pv_up_ne (by omega), F6 x y u]
            have hcE : ∀ x y, 15 ≤ x → x ≤ 17 → pv_up hc6 14 0 ((v + 1 : Nat) : Int) x y = hc4 x y := fun x y a b => by
              rcases f7 x y (by omega) with u | u
              · exact u
              · unfold RCf at u; omega
            have hmE : ∀ y, y ≠ 9 + v → hm6 5 y = hm4 5 y := fun y ny => by rw [G6 _ _ (by unfold RMf; omega), pv_up_ne (by omega)]
            have hm9 : hm6 5 (9 + v) = (c4 : Int) := by rw [G6 _ _ (by unfold RMf; omega), pv_up_self]
            have cdE : ∀ j, cdz hm6 j = cdz hm4 j := fun j => by
              unfold cdz
              exact hmE _ (by omega)
            have cd2 : ∀ j, j < c → cdz hm6 j = cdz hm2 j := fun j hj => by
              rw [cdE, pre4 j hj]
              unfold cdz
              rw [pv_up_ne (by omega)]
            refine Or.inl ⟨pv_up hc6 14 0 ((v + 1 : Nat) : Int), _, hm6, nv, e49, rfl, w2, v8', c4, s6, p6, T6.frm (fun x y u => pv_up_ne (by omega)) (fun _ _ _ => rfl), ⟨by omega, pv_up_self _ _ _ _, ?_, ?_, fun l hl => ?_, fun j hj => ?_⟩, ?_, by omega, (F5.tr (TFc.of F6)).tr (fun x y np => pv_up_ne (by unfold TCf at np; omega)), G5.tr ((TFm.of G6).g), ?_⟩
            · rw [hcE _ _ (by omega) (by omega)]
              exact Q4.2.2.1
            · rw [G6 _ _ (by unfold RMf; omega), pv_up_ne (by omega)]
              exact Q4.2.2.2.1
            · by_cases el : l = v
              · subst el
                refine ⟨c, c4, P4.1, Nat.le_refl _, ?_, ?_, ?_, hm9, ?_⟩
                · rw [hcE _ _ (by omega) (by omega), F4 _ _ (by unfold KCf RCf; omega), pv_up_ne (by omega)]
                  exact k3
                · rw [hcE _ _ (by omega) (by omega)]
                  exact Q4.2.2.1
                · rw [hmE _ (by omega), G4 _ _ (by unfold KMf RMf; omega), pv_up_self]
                · rw [wfs_congr (g := cdz hm4) _ _ _ (fun i _ _ => cdE i)]
                  exact P4.2 0
              · obtain ⟨a, b, r1, r2, r3, r4, r5, r6, r7⟩ := k5 l (by omega)
                refine ⟨a, b, r1, by have := P4.1; omega, ?_, ?_, ?_, ?_, ?_⟩
                · rw [hcE _ _ (by omega) (by omega), F4 _ _ (by unfold KCf RCf; omega), pv_up_ne (by omega)]
                  exact r3
                · rw [hcE _ _ (by omega) (by omega), F4 _ _ (by unfold KCf RCf; omega), pv_up_ne (by omega)]
                  exact r4
                · rw [hmE _ (by omega), G4 _ _ (by unfold KMf RMf; omega), pv_up_ne (by omega)]
                  exact r5
                · rw [hmE _ (by omega), G4 _ _ (by unfold KMf RMf; omega), pv_up_ne (by omega)]
                  exact r6
                · rw [wfs_congr (g := cdz hm2) _ _ _ (fun i _ h2 => cd2 i (by omega))]
                  exact r7
            · rw [hcE _ _ (by omega) (by omega), hcE _ _ (by omega) (by omega), hmE _ (by omega), hmE _ (by omega)]
              exact Q4.2.2.2.2 j hj
            · rw [G6 _ _ (by unfold RMf; omega), pv_up_ne (by omega)]
              exact e174
            · rw [G6 _ _ (by unfold RMf; omega), pv_up_ne (by omega), m144]
          · rw [t39] at w1
            rw [w1, c2s, if_pos rfl] at e49
            exact Or.inr ⟨hc6, _, hm6, Or.inr ⟨nv, e49⟩, rfl, w2, FT, F5.tr (TFc.of F6), G5.tr ((TFm.of G6).g)⟩
        · have z1 : fr_C N 40 0 0 (pv_up hc2 15 (v + 1) (c : Int)) = some (hc4, 0) := z1
          have m144 : hm4 0 14 = (v : Int) := by rw [G4 _ _ (by unfold KMf RMf; omega), pv_up_ne (by omega)]; exact m14
          rw [z1, c2s, if_pos rfl] at e49
          rw [z2, c1s, m144, x9l, if_pos (by omega), tnc, bbs]
          exact Or.inr ⟨hc4, _, _, Or.inr ⟨nv, e49⟩, rfl, needs_F FT.up5.ne, FT.up5, F3.tr (kc F4), (G3.g.tr (km G4)).tr (fun x y np => pv_up_ne (by unfold TMg TMf at np; omega))⟩
      · rw [t23] at y1
        rw [y1, c2s, if_pos rfl] at e49
        have m14 : hm2 0 14 = (v : Int) := by rw [G2 _ _ (by unfold RMf; omega), G1 _ _ (by unfold RMf; omega)]; exact e14
        have F02 := (TFc.of F1).tr (TFc.of F2)
        have G02 := (TFm.of G1).tr (TFm.of G2)
        -- the reference goes on without any TOKEN
        have nf : ∀ (n w : Nat) (h : pv_H), ¬ h 0 12 = 0 → fr_M N (n + 3) 0 h = some h := by
          intro n w h z
          obtain ⟨M, hM⟩ : ∃ M, N = M + 1 := ⟨N - 1, by omega⟩
          have a2 : fr_M N (n + 1) 2 h = some h := by
            rw [frM2]
            unfold fX10_readFact
            rw [if_neg z]
          have a1 : fr_M N (n + 1 + 1) 1 h = some h := by
            rw [frM1]
            unfold fX10_readPart
            rw [a2, c1s]
            have e4 : fX10_readPart_4 N (fr_M N (n + 1)) (M + 1) h = some h := by rw [fX10_readPart_4, eats_F z, c2s, if_pos rfl]
            exact (congrArg (fun q => fX10_readPart_4 N (fr_M N (n + 1)) q h) hM).trans e4
          rw [show n + 3 = n + 1 + 1 + 1 by omega, frM0]
          unfold fX10_readTest
          rw [a1, c1s]
          have e4 : fX10_readTest_4 N (fr_M N (n + 1 + 1)) (M + 1) h = some h := by rw [fX10_readTest_4, eats_F z, c2s, if_pos rfl]
          exact (congrArg (fun q => fX10_readTest_4 N (fr_M N (n + 1 + 1)) q h) hM).trans e4
        rw [y2, c1s, m14, x1l, if_pos (by omega), tnc, bbs, nf 37 0 _ FT.up5.ne, c1s, pv_up_ne (show (0 : Nat) ≠ 5 ∨ (14 : Nat) ≠ 1 + v by omega), m14, x9l, if_pos (by omega), tnc, bbs]
        exact Or.inr ⟨hc2, _, _, Or.inr ⟨nv, e49⟩, rfl, needs_F FT.up5.up5.ne, FT.up5.up5, F02, (G02.up5.up5).g⟩
  · obtain ⟨hc1, hm1, x1, x2, FT, F1, G1⟩ := fail_2 (N := N) (k := 2) T (by omega) (by omega)
    have e22 : fX4_expect N 22 hc = some (hc1, 0) := by
      unfold fX4_expect
      rw [T.tok, ← t22, if_neg (fun u => z22 (tk_inj.mp u)), x1, c2s, if_pos (Or.inl rfl)]
    rw [is_0 T.z12 z22, c1s, if_pos rfl, x2, c1s]
    unfold fX10_readLook_31
    rw [if_neg FT.ne]
    refine Or.inr ⟨hc1, hm1, hm1, Or.inr ⟨fun u => z22 u.1, ?_⟩, rfl, needs_F FT.ne, FT, TFc.of F1, (TFm.of G1).g⟩
    unfold fX4_readLooks_49
    rw [e22, c2s, if_pos rfl]
    rfl
theorem looks_l {a2 a3 : Int} (hN : 1000 ≤ N) : ∀ (d v c f f' s p : Nat) (hc hm : pv_H), v + d = 8 → d < f → d + 1 < f' → TYz L s p hc hm → KLz v c hc hm → hm 0 17 = 0 → 2 * c ≤ s → hm 0 14 = (v : Int) → (∃ (hc' hm' : pv_H) (u c' : Nat), fX4_readLooks_9 N f (v : Int) hc = some (hc', (u : Int)) ∧ fX10_text_140 N 3 a2 a3 f' hm = fX10_text_225 N 3 a2 a3 hm' ∧ KLz u c' hc' hm' ∧ c' ≤ 200 ∧ OKe hc hm hc' hm' u) ∨ (∃ hc' hm', fX4_readLooks_9 N f (v : Int) hc = some (hc', 0) ∧ fX10_text_140 N 3 a2 a3 f' hm = fX10_text_225 N 3 a2 a3 hm' ∧ NOe hc hm hc' hm') := by
  have t45 : tkz 42 = 45 := rfl
  have t22 : tkz 22 = 22 := rfl
  intro d
  induction d with
  | zero =>
    intro v c f f' s p hc hm h1 h2 h3 T R e17 bu e14
    obtain ⟨f, rfl⟩ : ∃ g, f = g + 1 := ⟨f - 1, by omega⟩
    obtain ⟨f', rfl⟩ : ∃ g, f' = g + 1 := ⟨f' - 1, by omega⟩
    have sp := T.sp
    rw [fX4_readLooks_9, fX10_text_140, if_neg (by omega), T.tok, ← t45, if_pos T.z12]
    by_cases z : hm 0 10 = 42
    · rw [if_pos (tk_inj.mpr z), if_pos z, if_neg (by omega)]
      have u := T.2.2.2.2.2.2.2.2.2.2.2.2.2.2.1 (by omega)
      exact Or.inl ⟨hc, hm, v, c, rfl, rfl, R, by omega, T.z12, e14, u.1, u.2, TFc.rf, TFg.rf⟩
    · rw [if_neg (fun u => z (tk_inj.mp u)), if_neg z]
      unfold fX10_text_167 fX10_text_206
      rw [if_neg (show ¬ (3 : Int) = 0 by omega), if_neg (show ¬ (3 : Int) = 1 by omega), if_neg (show ¬ (3 : Int) = 2 by omega)]
      rcases look_2 (N := N) (k9 := fun v1_ hh => fX4_readLooks_9 N f v1_ hh) hN T R e17 e14 bu with ⟨hc1, hm1, hm2, x0, x1, x2, x3, lt, _⟩ | ⟨hc1, hm1, hm2, x1, x2, x3, FT, F1, G1⟩
      · omega
      · have eC : (if tkz (hm 0 10) = 22 then (if (v : Int) = 8 then (pv_c2b (fX4_fail N 4 hc) fun h8 r9 => some (h8, 0)) else (fX4_readLooks_49 N (fun v1_ hh => fX4_readLooks_9 N f v1_ hh) (v : Int) hc)) else (fX4_readLooks_49 N (fun v1_ hh => fX4_readLooks_9 N f v1_ hh) (v : Int) hc)) = some (hc1, (0 : Int)) := by
          rcases x1 with ⟨u1, u2, u3⟩ | ⟨u1, u2⟩
          · rw [u1, t22, if_pos rfl, if_pos (by omega), u3, c2s]
          · by_cases q : hm 0 10 = 22
            · rw [q, t22, if_pos rfl, if_neg (fun y => u1 ⟨q, by omega⟩), u2]
            · rw [← t22, if_neg (fun y => q (tk_inj.mp y)), u2]
        rw [eC, x2, c1s, x3, c1s, bbs]
        exact Or.inr ⟨hc1, _, rfl, t140_F FT.up14.ne (by omega), FT.up14, F1, G1.up14⟩
  | succ d ih =>
    intro v c f f' s p hc hm h1 h2 h3 T R e17 bu e14
    obtain ⟨f, rfl⟩ : ∃ g, f = g + 1 := ⟨f - 1, by omega⟩
    obtain ⟨f', rfl⟩ : ∃ g, f' = g + 1 := ⟨f' - 1, by omega⟩
    have sp := T.sp
    rw [fX4_readLooks_9, fX10_text_140, if_neg (by omega), T.tok, ← t45, if_pos T.z12]
    by_cases z : hm 0 10 = 42
    · rw [if_pos (tk_inj.mpr z), if_pos z, if_neg (by omega)]
      have u := T.2.2.2.2.2.2.2.2.2.2.2.2.2.2.1 (by omega)
      exact Or.inl ⟨hc, hm, v, c, rfl, rfl, R, by omega, T.z12, e14, u.1, u.2, TFc.rf, TFg.rf⟩
    · rw [if_neg (fun u => z (tk_inj.mp u)), if_neg z]
      unfold fX10_text_167 fX10_text_206
      rw [if_neg (show ¬ (3 : Int) = 0 by omega), if_neg (show ¬ (3 : Int) = 1 by omega), if_neg (show ¬ (3 : Int) = 2 by omega)]
      have e49 : (if tkz (hm 0 10) = 22 then (if (v : Int) = 8 then (pv_c2b (fX4_fail N 4 hc) fun h8 r9 => some (h8, (0 : Int))) else (fX4_readLooks_49 N (fun v1_ hh => fX4_readLooks_9 N f v1_ hh) (v : Int) hc)) else (fX4_readLooks_49 N (fun v1_ hh => fX4_readLooks_9 N f v1_ hh) (v : Int) hc)) = fX4_readLooks_49 N (fun v1_ hh => fX4_readLooks_9 N f v1_ hh) (v : Int) hc := by
        by_cases q : tkz (hm 0 10) = 22
        · rw [if_pos q, if_neg (by omega)]
        · rw [if_neg q]
      rw [e49]
      rcases look_2 (N := N) (k9 := fun v1_ hh => fX4_readLooks_9 N f v1_ hh) hN T R e17 e14 bu with ⟨hc1, hm1, hm2, x0, x1, x2, x3, lt, c2, s2, p2, T2, R2, e172, bu2, F2, G2, e142⟩ | ⟨hc1, hm1, hm2, x1, x2, x3, FT, F1, G1⟩
      · rw [e14] at e142
        rw [x1, x2, c1s, x3, c1s, bbs, e142, pws (by omega)]
        have R3 : KLz (v + 1) c2 hc1 (pv_up hm2 0 14 ((v + 1 : Nat) : Int)) := R2.frm (fun _ _ _ => rfl) (fun x y u => pv_up_ne (by omega))
        have G3 := G2.up14 (x := ((v + 1 : Nat) : Int))
        rcases ih (v + 1) c2 f f' s2 p2 hc1 _ (by omega) (by omega) (by omega) T2.up14 R3 (by rw [pv_up_ne (by omega)]; exact e172) bu2 (pv_up_self _ _ _ _) with ⟨hc', hm', u, c', y1, y2, y5, y55, y6, y7, y8, y9, y10, y11⟩ | ⟨hc', hm', y1, y2, y3, y4, y5⟩
        · exact Or.inl ⟨hc', hm', u, c', y1, y2, y5, y55, y6, y7, y8, y9, F2.tr y10, G3.tr y11⟩
        · exact Or.inr ⟨hc', hm', y1, y2, y3, F2.tr y4, G3.tr y5⟩
      · have u2 : fX4_readLooks_49 N (fun v1_ hh => fX4_readLooks_9 N f v1_ hh) (v : Int) hc = some (hc1, 0) := by
          rcases x1 with ⟨_, u2, _⟩ | ⟨_, u2⟩
          · omega
          · exact u2
        rw [u2, x2, c1s, x3, c1s, bbs]
        exact Or.inr ⟨hc1, _, rfl, t140_F FT.up14.ne (by omega), FT.up14, F1, G1.up14⟩
theorem looks_2 {a2 a3 : Int} (hN : 1000 ≤ N) (T : TYz L s p hc hm) (e14 : hm 0 14 = 0) (e17 : hm 0 17 = 0) (e18 : hm 0 18 = 0) : (∃ (hc' hm' : pv_H) (u c' : Nat), fX4_readLooks N hc = some (hc', (u : Int)) ∧ fX10_text_140 N 3 a2 a3 N hm = fX10_text_225 N 3 a2 a3 hm' ∧ KLz u c' hc' hm' ∧ c' ≤ 200 ∧ OKe hc hm hc' hm' u) ∨ (∃ hc' hm', fX4_readLooks N hc = some (hc', 0) ∧ fX10_text_140 N 3 a2 a3 N hm = fX10_text_225 N 3 a2 a3 hm' ∧ NOe hc hm hc' hm') := by
  have eb : ∃ hc1, fX3_begin N 14 hc = some hc1 ∧ (∀ x y, ¬ ((x = 14 ∨ x = 15) ∧ y = 0) → hc1 x y = hc x y) ∧ hc1 14 0 = 0 ∧ hc1 15 0 = 0 := by
    unfold fX3_begin
    rw [bbs, bbs]
    refine ⟨_, rfl, fun x y np => ?_, ?_, ?_⟩
    · rw [pv_up_ne (by omega), pv_up_ne (by omega)]
    · rw [pv_up_ne (by omega), pv_up_self]
    · exact pv_up_self _ _ _ _
  obtain ⟨hc1, x1, f1, v1, v2⟩ := eb
  have T1 : TYz L s p hc1 hm := T.frm (fun x y u => f1 x y (by omega)) (fun _ _ _ => rfl)
  have F1 : TFc hc hc1 := fun x y np => f1 x y (by unfold TCf at np; omega)
  have D : KLz 0 0 hc1 hm := ⟨by omega, v1, v2, e18, fun l hl => by omega, fun j hj => by omega⟩
  unfold fX4_readLooks
  rw [x1, c1s]
  rcases looks_l (N := N) (a2 := a2) (a3 := a3) hN 8 0 0 N N s p hc1 hm (by omega) (by omega) (by omega) T1 D e17 (by omega) e14 with ⟨hc', hm', u, c', y1, y2, y5, y55, y6, y7, y8, y9, y10, y11⟩ | ⟨hc', hm', y1, y2, y3, y4, y5⟩
  · exact Or.inl ⟨hc', hm', u, c', y1, y2, y5, y55, y6, y7, y8, y9, F1.tr y10, y11⟩
  · exact Or.inr ⟨hc', hm', y1, y2, y3, F1.tr y4, y5⟩
end LOOKTEXT
