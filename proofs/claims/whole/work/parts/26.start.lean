/-! what the Statement gives at the start -/
theorem lw_at {args : Array Value} {s : State} (h : (Jvm.Cond.and given_1 narrow_1).before args s = true) {i : Nat} {w : Cond} (e : (flatC (Jvm.Cond.and given_1 narrow_1))[i]? = some w) : w.before args s = true := flat_of_before _ h w (List.mem_of_getElem? e)
abbrev lw_s0 : Term := .field (.string "RodInThree$Reader" 47) "java/lang/String" "value" "[B"
abbrev lw_s1 : Term := .field (.string "RodInThreeModel" 138) "java/lang/String" "value" "[B"
set_option maxRecDepth 20000 in
theorem lw_seg0 : ∀ j, j < 8 → (flatC (Jvm.Cond.and given_1 narrow_1))[7 + j]? = some (.eq (.elem (.static "RodInThree" "LAW_WITHOUT" "[I") (.int (Int32.ofNat j))) (.int (Int32.ofInt (pv_t0.getD j 0)))) := by decide +kernel
theorem lw_tab0 {args : Array Value} {s : State} {A : Nat → Prop} (h : (Jvm.Cond.and given_1 narrow_1).before args s = true) (hA : ∀ a : Nat, a < s.heap.size → ¬ A a) : ∃ t : Nat, (Term.static "RodInThree" "LAW_WITHOUT" "[I").eval args s none [] s = some (.ref t) ∧ va_T .int t 8 (fun j => .int (Int32.ofInt (pv_t0.getD j 0))) A s s.heap :=
  va_Tof (N := 8) (f := fun j => .int (Int32.ofInt (pv_t0.getD j 0))) (by decide) (lw_at h (i := 5) rfl) (va_eqt (lw_at h (i := 6) rfl)) (fun j hj => va_eqt (lw_at h (lw_seg0 j hj))) hA
set_option maxRecDepth 20000 in
theorem lw_seg1 : ∀ j, j < 37 → (flatC (Jvm.Cond.and given_1 narrow_1))[23 + j]? = some (.eq (.elem (.static "RodInThree" "LEAST" "[I") (.int (Int32.ofNat j))) (.int (Int32.ofInt (pv_t1.getD j 0)))) := by decide +kernel
theorem lw_tab1 {args : Array Value} {s : State} {A : Nat → Prop} (h : (Jvm.Cond.and given_1 narrow_1).before args s = true) (hA : ∀ a : Nat, a < s.heap.size → ¬ A a) : ∃ t : Nat, (Term.static "RodInThree" "LEAST" "[I").eval args s none [] s = some (.ref t) ∧ va_T .int t 37 (fun j => .int (Int32.ofInt (pv_t1.getD j 0))) A s s.heap :=
  va_Tof (N := 37) (f := fun j => .int (Int32.ofInt (pv_t1.getD j 0))) (by decide) (lw_at h (i := 21) rfl) (va_eqt (lw_at h (i := 22) rfl)) (fun j hj => va_eqt (lw_at h (lw_seg1 j hj))) hA
set_option maxRecDepth 20000 in
theorem lw_seg2 : ∀ j, j < 37 → (flatC (Jvm.Cond.and given_1 narrow_1))[63 + j]? = some (.eq (.elem (.static "RodInThree" "MOST" "[I") (.int (Int32.ofNat j))) (.int (Int32.ofInt (pv_t2.getD j 0)))) := by decide +kernel
theorem lw_tab2 {args : Array Value} {s : State} {A : Nat → Prop} (h : (Jvm.Cond.and given_1 narrow_1).before args s = true) (hA : ∀ a : Nat, a < s.heap.size → ¬ A a) : ∃ t : Nat, (Term.static "RodInThree" "MOST" "[I").eval args s none [] s = some (.ref t) ∧ va_T .int t 37 (fun j => .int (Int32.ofInt (pv_t2.getD j 0))) A s s.heap :=
  va_Tof (N := 37) (f := fun j => .int (Int32.ofInt (pv_t2.getD j 0))) (by decide) (lw_at h (i := 61) rfl) (va_eqt (lw_at h (i := 62) rfl)) (fun j hj => va_eqt (lw_at h (lw_seg2 j hj))) hA
set_option maxRecDepth 20000 in
theorem lw_str0 : ∀ j, j < 204 → (flatC (Jvm.Cond.and given_1 narrow_1))[148 + j]? = some (.eq (.elem lw_s0 (.int (Int32.ofNat j))) (.int ((pv_s0.map Int32.ofInt).getD j 0))) := by decide +kernel
set_option maxRecDepth 20000 in
theorem lw_str1 : ∀ j, j < 205 → (flatC (Jvm.Cond.and given_1 narrow_1))[356 + j]? = some (.eq (.elem lw_s1 (.int (Int32.ofNat j))) (.int ((pv_s1t.map Int32.ofInt).getD j 0))) := by decide +kernel
abbrev lw_tm (i : Nat) : Term := match i with
  | 0 => .string "RodInThree$Reader" 47
  | _ => .string "RodInThreeModel" 138
theorem lw_two {i : Nat} (h : i < 2) : i = 0 ∨ i = 1 := by omega
theorem lw_texts {args : Array Value} {s : State} {A : Nat → Prop} (h : (Jvm.Cond.and given_1 narrow_1).before args s = true) (hA : ∀ a : Nat, a < s.heap.size → ¬ A a) : ∃ adK adV : Nat → Nat, vk_S 2 [204, 205] [pv_s0.map Int32.ofInt, pv_s1t.map Int32.ofInt] adK adV A s s.heap ∧ ∀ i : Nat, i < 2 → (lw_tm i).eval args s none [] s = some (.ref (adK i)) := by
  refine vk_Sof (tm := lw_tm) ?_ ?_ ?_ ?_ ?_ ?_ ?_ hA
  · intro i hi; rcases lw_two hi with rfl | rfl <;> decide
  · intro i hi; rcases lw_two hi with rfl | rfl
    · exact lw_at h (i := 144) rfl
    · exact lw_at h (i := 352) rfl
  · intro i hi; rcases lw_two hi with rfl | rfl
    · exact lw_at h (i := 145) rfl
    · exact lw_at h (i := 353) rfl
  · intro i hi; rcases lw_two hi with rfl | rfl
    · exact lw_at h (i := 146) rfl
    · exact lw_at h (i := 354) rfl
  · intro i hi; rcases lw_two hi with rfl | rfl
    · exact lw_at h (i := 147) rfl
    · exact lw_at h (i := 355) rfl
  · intro i hi j hj; rcases lw_two hi with rfl | rfl
    · exact lw_at h (lw_str0 j hj)
    · exact lw_at h (lw_str1 j hj)
  · intro i j hi hj hne; rcases lw_two hi with rfl | rfl <;> rcases lw_two hj with rfl | rfl
    · exact absurd rfl hne
    · exact Or.inl (lw_at h (i := 561) (by decide +kernel))
    · exact Or.inr (lw_at h (i := 561) (by decide +kernel))
    · exact absurd rfl hne
/-- the addresses of what stands outside -/
def lw_ad (t0 t1 t2 : Nat) (adK adV : Nat → Nat) : Nat → Nat := fun n => if n = pv_SB then t0 else if n = pv_SB + 1 then t1 else if n = pv_SB + 2 then t2 else if n = pv_SB + 3 then adK 0 else if n = pv_SB + 4 then adK 1 else if n = pv_SB + 5 then adV 0 else adV 1
theorem lw_stat {b : Nat} {s : State} {A : Nat → Prop} (h : (Jvm.Cond.and given_1 narrow_1).before #[Value.ref b] s = true) (hts : ∀ w ∈ lw_tbl, w.before #[Value.ref b] s = true) (hA : ∀ a : Nat, a < s.heap.size → ¬ A a) : ∃ ad : Nat → Nat, pv_St ad A s s.heap := by
  obtain ⟨t0, a1, a2⟩ := lw_tab0 h hA
  obtain ⟨t1, b1, b2⟩ := lw_tab1 h hA
  obtain ⟨t2, c1, c2⟩ := lw_tab2 h hA
  obtain ⟨adK, adV, k1, k2⟩ := lw_texts h hA
  refine ⟨lw_ad t0 t1 t2 adK adV, ?_⟩
  have e0 : lw_ad t0 t1 t2 adK adV pv_SB = t0 := if_pos rfl
  have e1 : lw_ad t0 t1 t2 adK adV (pv_SB + 1) = t1 := by simp [lw_ad, pv_SB]
  have e2 : lw_ad t0 t1 t2 adK adV (pv_SB + 2) = t2 := by simp [lw_ad, pv_SB]
  have e3 : lw_ad t0 t1 t2 adK adV (pv_SB + 3) = adK 0 := by simp [lw_ad, pv_SB]
  have e4 : lw_ad t0 t1 t2 adK adV (pv_SB + 4) = adK 1 := by simp [lw_ad, pv_SB]
  have e5 : lw_ad t0 t1 t2 adK adV (pv_SB + 5) = adV 0 := by simp [lw_ad, pv_SB]
  have e6 : lw_ad t0 t1 t2 adK adV (pv_SB + 6) = adV 1 := by simp [lw_ad, pv_SB]
  have hI : (Cond.initialized "RodInThree").before #[Value.ref b] s = true := hts _ (pv_m1 (i := 1) rfl)
  unfold pv_St
  rw [e0, e1, e2, e3, e4]
  refine ⟨⟨va_Zref (hts _ (pv_m1 (i := 109) rfl)) hI a1 hA, a2⟩, ⟨va_Zref (hts _ (pv_m3 (i := 30) rfl)) hI b1 hA, b2⟩, ⟨va_Zref (hts _ (pv_m3 (i := 32) rfl)) hI c1 hA, c2⟩, ⟨va_Zof (hts _ (pv_m1 (i := 160) rfl)) (hts _ (pv_m1 (i := 8) rfl)) (va_eqi (lw_at h (i := 15) rfl)) hA, va_Zqof (hts _ (pv_m1 (i := 183) rfl)) (hts _ (pv_m1 (i := 11) rfl)) (lw_at h (i := 16) rfl) hA⟩, ?_, ⟨vk_R.of (hts _ (pv_m1 (i := 150) rfl)) (k2 0 (by decide)), vk_R.of (hts _ (pv_m6 (i := 68) rfl)) (k2 1 (by decide))⟩, fun w hw => va_Nw.of (pv_isN_tab (List.mem_filter.mp hw).2) (hts w (List.mem_filter.mp hw).1), va_AO.of (hts _ (pv_m2 (i := 15) rfl)), va_AO.of (hts _ (pv_m2 (i := 17) rfl)), va_AO.of (hts _ (pv_m2 (i := 84) rfl)), va_AO.of (hts _ (pv_m2 (i := 86) rfl))⟩
  refine ⟨fun i hi => ?_, fun i j hi hj hij => ?_⟩
  · rcases lw_two hi with rfl | rfl
    · have := k1.1 0 (by decide)
      rw [← e3, ← e5] at this
      exact this
    · have := k1.1 1 (by decide)
      rw [← e4, ← e6] at this
      exact this
  · rcases lw_two hi with rfl | rfl <;> rcases lw_two hj with rfl | rfl
    · rfl
    · exact k1.2 0 1 (by decide) (by decide) (by rw [← e3, ← e4]; exact hij)
    · exact k1.2 1 0 (by decide) (by decide) (by rw [← e3, ← e4]; exact hij)
    · rfl
/-- the classes and array classes -/
theorem lw_inst : ∀ k, k < 11 → Cond.instantiable (pv_cn k) (pv_nf k) ∈ pv_W := by
  intro k hk
  match k, hk with
  | 0, _ => exact in_X0
  | 1, _ => exact in_X1
  | 2, _ => exact in_X2
  | 3, _ => exact in_X3
  | 4, _ => exact in_X4
  | 5, _ => exact in_X5
  | 6, _ => exact in_X6
  | 7, _ => exact in_X7
  | 8, _ => exact in_X8
  | 9, _ => exact in_X9
  | 10, _ => exact in_X10
  | n + 11, hk => omega
theorem lw_prim {args : Array Value} {s : State} {ty : FieldType} (h : (Cond.arrayClass ty).before args s = true) (hty : ∀ C, ty ≠ .object C) : ∃ cA : ClassId, ArrOfT s cA ty ∧ va_RA s cA ty := by
  obtain ⟨cA, kA, comp, h1, h2, h3⟩ := Cond.arrayClass_spec h
  refine ⟨cA, fun n z => ⟨fun k q => (by cases q), kA, h2, comp, h3⟩, ?_⟩
  cases ty <;> first | exact h1 | exact absurd rfl (hty _)
theorem lw_refs {args : Array Value} {s : State} {C : String} (h : (Cond.arrayOver (.object C)).before args s = true) : ∃ cA : ClassId, ArrOfT s cA (.object C) ∧ va_RA s cA (.object C) := by
  obtain ⟨comp, c, k, h1, h2, h3, h4, h5⟩ := Cond.arrayOver_spec h
  exact ⟨c, fun n z => ⟨fun k q => (by cases q), k, h3, comp, h4⟩, k, comp, h3, h4, h1, h5⟩
theorem lw_known {b : Nat} {s : State} (hts : ∀ w ∈ lw_tbl, w.before #[Value.ref b] s = true) : ∃ (D : va_G) (aC : Nat → ClassId), va_K D vwCl (pv_tys aC) s := by
  have hW : ∀ w ∈ pv_W, w.before #[Value.ref b] s = true := fun w hw => hts w (List.mem_filter.mp hw).1
  have h0 : ∀ k : Nat, ∃ q : ClassId × (Nat → Nat), k < 11 → u_Kn s (pv_cn k) (pv_T k) (pv_nf k) q.1 q.2 := by
    intro k
    by_cases hk : k < 11
    · obtain ⟨cC, iS, hq⟩ := u_known (C := pv_cn k) (T := pv_T k) (N := pv_nf k) hW (pv_iw k hk) (hW _ (lw_inst k hk))
      exact ⟨(cC, iS), fun _ => hq⟩
    · exact ⟨(0, fun _ => 0), fun h => absurd h hk⟩
  obtain ⟨g, hg⟩ := Classical.axiomOfChoice h0
  obtain ⟨c1, x1⟩ := lw_prim (hW _ w_ar_int) (fun _ h => by cases h)
  obtain ⟨c2, x2⟩ := lw_prim (hW _ w_ar_long) (fun _ h => by cases h)
  obtain ⟨c3, x3⟩ := lw_prim (hW _ w_ar_boolean) (fun _ h => by cases h)
  obtain ⟨c4, x4⟩ := lw_prim (hW _ w_ar_byte) (fun _ h => by cases h)
  obtain ⟨c5, x5⟩ := lw_refs (C := RX5) (hts _ (pv_m2 (i := 15) rfl))
  obtain ⟨c6, x6⟩ := lw_refs (C := RX0) (hts _ (pv_m2 (i := 17) rfl))
  obtain ⟨c7, x7⟩ := lw_refs (C := RX8) (hts _ (pv_m2 (i := 84) rfl))
  obtain ⟨c8, x8⟩ := lw_refs (C := RX6) (hts _ (pv_m2 (i := 86) rfl))
  obtain ⟨c9, x9⟩ := lw_prim (hW _ w_ar_char) (fun _ h => by cases h)
  refine ⟨(fun k => (g k).1, fun k => (g k).2), fun k => match k with
    | 1 => c1
    | 2 => c2
    | 3 => c3
    | 4 => c4
    | 5 => c5
    | 6 => c6
    | 7 => c7
    | 8 => c8
    | _ => c9, ?_, ?_⟩
  · intro k q hq
    have hk : k < 11 := (List.getElem?_eq_some_iff.mp hq).1
    rw [pv_cl k hk] at hq
    cases hq
    exact hg k hk
  · intro k q hq
    have hk : k < 9 := (List.getElem?_eq_some_iff.mp hq).1
    match k, hk, hq with
    | 0, _, hq => cases hq; exact x1
    | 1, _, hq => cases hq; exact x2
    | 2, _, hq => cases hq; exact x3
    | 3, _, hq => cases hq; exact x4
    | 4, _, hq => cases hq; exact x5
    | 5, _, hq => cases hq; exact x6
    | 6, _, hq => cases hq; exact x7
    | 7, _, hq => cases hq; exact x8
    | 8, _, hq => cases hq; exact x9
