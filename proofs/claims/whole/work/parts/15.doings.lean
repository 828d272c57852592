noncomputable def fX0_copyFrom (N : Nat) (this : Nat) (a1 : Nat) (h : pv_H) : Option (pv_H) :=
  pv_b (pv_up h this 0 (h a1 0)) fun h1 => pv_b (pv_ur h1 (this + 1) (pv_cp (h1 (a1 + 1)) (h1 (this + 1)) (Int.toNat (0)) (Int.toNat (0)) (Int.toNat (12)))) fun h2 => pv_b (pv_ur h2 (this + 2) (pv_cp (h2 (a1 + 2)) (h2 (this + 2)) (Int.toNat (0)) (Int.toNat (0)) (Int.toNat (12)))) fun h3 => pv_b (pv_ur h3 (this + 3) (pv_cp (h3 (a1 + 3)) (h3 (this + 3)) (Int.toNat (0)) (Int.toNat (0)) (Int.toNat (12)))) fun h4 => some h4

set_option maxHeartbeats 4000000 in
set_option maxRecDepth 20000 in
theorem tX0_copyFrom {d N : Nat} {this : Nat} {a1 : Nat} {h h' : pv_H}  (hd : 2 ≤ d) (mthis : this ∈ pv_l0) (ma1 : a1 ∈ pv_l0) (hf : fX0_copyFrom N this a1 h = some h') : CALL yX0_copyFrom cX0_copyFrom 2 none d pv_SC (MC h) [.inr (.inr (this)), .inr (.inr (a1))] pv_SC (MC h') none := by
  unfold fX0_copyFrom at hf
  refine EV.call (own := RX0) (ini := false) rfl rfl (fun q => by cases q) ⟨[], (List.append_nil _).symm⟩ (Nat.le_of_ble_eq_true rfl) ?_
  refine EV.eqL (L2 := [some (.inr (.inr (this))), some (.inr (.inr (a1)))]) rfl ?_
  refine EV.aload_n dX0_copyFrom_0 rfl rfl ?_
  refine EV.aload_n dX0_copyFrom_1 rfl rfl ?_
  refine FV.getI dX0_copyFrom_2 (sl0_0 _ ma1) fl_0_21 rfl ?_
  obtain ⟨h1, eh1, hf⟩ := pv_bo hf
  refine FV.putI dX0_copyFrom_5 (sl0_0 _ mthis) fl_0_21 rfl rfl eh1 ?_
  refine EV.aload_n dX0_copyFrom_8 rfl rfl ?_
  refine FV.getF (v := a1 + 1) dX0_copyFrom_9 (sl0_0 _ ma1) fl_0_9 rfl (mu0_0 _ ma1 _) (hl0_0_1 _ ma1) ?_
  refine EV.iconst dX0_copyFrom_12 (by decide) (by decide) ?_
  refine EV.aload_n dX0_copyFrom_13 rfl rfl ?_
  refine FV.getF (v := this + 1) dX0_copyFrom_14 (sl0_0 _ mthis) fl_0_9 rfl (mu0_0 _ mthis _) (hl0_0_1 _ mthis) ?_
  refine EV.iconst dX0_copyFrom_17 (by decide) (by decide) ?_
  refine EV.bipush dX0_copyFrom_18 (by decide) (by decide) ?_
  obtain ⟨h2, eh2, hf⟩ := pv_bo hf
  refine FV.copy dX0_copyFrom_20 ml_X0_25 (by omega) (Nat.le_of_ble_eq_true rfl) (sl0_1 _ ma1) (sl0_1 _ mthis) (by decide) (by decide) (by decide) (by decide) (by decide) eh2 ?_
  refine EV.aload_n dX0_copyFrom_23 rfl rfl ?_
  refine FV.getF (v := a1 + 2) dX0_copyFrom_24 (sl0_0 _ ma1) fl_0_15 rfl (mu0_0 _ ma1 _) (hl0_0_2 _ ma1) ?_
  refine EV.iconst dX0_copyFrom_27 (by decide) (by decide) ?_
  refine EV.aload_n dX0_copyFrom_28 rfl rfl ?_
  refine FV.getF (v := this + 2) dX0_copyFrom_29 (sl0_0 _ mthis) fl_0_15 rfl (mu0_0 _ mthis _) (hl0_0_2 _ mthis) ?_
  refine EV.iconst dX0_copyFrom_32 (by decide) (by decide) ?_
  refine EV.bipush dX0_copyFrom_33 (by decide) (by decide) ?_
  obtain ⟨h3, eh3, hf⟩ := pv_bo hf
  refine FV.copy dX0_copyFrom_35 ml_X0_25 (by omega) (Nat.le_of_ble_eq_true rfl) (sl0_2 _ ma1) (sl0_2 _ mthis) (by decide) (by decide) (by decide) (by decide) (by decide) eh3 ?_
  refine EV.aload_n dX0_copyFrom_38 rfl rfl ?_
  refine FV.getF (v := a1 + 3) dX0_copyFrom_39 (sl0_0 _ ma1) fl_0_18 rfl (mu0_0 _ ma1 _) (hl0_0_3 _ ma1) ?_
  refine EV.iconst dX0_copyFrom_42 (by decide) (by decide) ?_
  refine EV.aload_n dX0_copyFrom_43 rfl rfl ?_
  refine FV.getF (v := this + 3) dX0_copyFrom_44 (sl0_0 _ mthis) fl_0_18 rfl (mu0_0 _ mthis _) (hl0_0_3 _ mthis) ?_
  refine EV.iconst dX0_copyFrom_47 (by decide) (by decide) ?_
  refine EV.bipush dX0_copyFrom_48 (by decide) (by decide) ?_
  obtain ⟨h4, eh4, hf⟩ := pv_bo hf
  refine FV.copy dX0_copyFrom_50 ml_X0_25 (by omega) (Nat.le_of_ble_eq_true rfl) (sl0_3 _ ma1) (sl0_3 _ mthis) (by decide) (by decide) (by decide) (by decide) (by decide) eh4 ?_
  exact FV.vret dX0_copyFrom_53 hf

noncomputable def fX0_tell_49 (N : Nat)  (this : Nat) (a1 : Int) (a2 : Int) (a3 : Int)  (h : pv_H) : Option (pv_H) :=
  some h

noncomputable def fX0_tell (N : Nat) (this : Nat) (a1 : Int) (a2 : Int) (a3 : Int) (h : pv_H) : Option (pv_H) :=
  if 12 ≤ (h this 0) then (fX0_tell_49 N  this a1 a2 a3  h) else (if 0 ≤ h this 0 ∧ h this 0 < 12 then (pv_b (pv_up h (this + 1) (Int.toNat (h this 0)) a1) fun h3 => if 0 ≤ h3 this 0 ∧ h3 this 0 < 12 then (pv_b (pv_up h3 (this + 2) (Int.toNat (h3 this 0)) a2) fun h5 => if 0 ≤ h5 this 0 ∧ h5 this 0 < 12 then (pv_b (pv_up h5 (this + 3) (Int.toNat (h5 this 0)) a3) fun h7 => pv_b (pv_up h7 this 0 (pv_w ((h7 this 0) + 1))) fun h8 => fX0_tell_49 N  this a1 a2 a3  h8) else none) else none) else none)

set_option maxHeartbeats 4000000 in
set_option maxRecDepth 20000 in
theorem tX0_tell_49 {d N : Nat}  {this : Nat} {a1 : Int} {a2 : Int} {a3 : Int}  {h h' : pv_H}  (hd : 1 ≤ d)  (mthis : this ∈ pv_l0)  (hf : fX0_tell_49 N  this a1 a2 a3  h = some h') : EV RX0 cX0_tell 4 none false d pv_SC (MC h') none 49 [none, none, none, none] [] pv_SC (MC h) := by
  unfold fX0_tell_49 at hf
  exact FV.vret dX0_tell_49 hf

set_option maxHeartbeats 4000000 in
set_option maxRecDepth 20000 in
theorem tX0_tell {d N : Nat} {this : Nat} {a1 : Int} {a2 : Int} {a3 : Int} {h h' : pv_H}  (hd : 1 ≤ d) (mthis : this ∈ pv_l0) (hf : fX0_tell N this a1 a2 a3 h = some h') : CALL yX0_tell cX0_tell 4 none d pv_SC (MC h) [.inr (.inr (this)), .inl (a1), .inl (a2), .inl (a3)] pv_SC (MC h') none := by
  unfold fX0_tell at hf
  refine EV.call (own := RX0) (ini := false) rfl rfl (fun q => by cases q) ⟨[], (List.append_nil _).symm⟩ (Nat.le_of_ble_eq_true rfl) ?_
  refine EV.eqL (L2 := [some (.inr (.inr (this))), some (.inl (a1)), some (.inl (a2)), some (.inl (a3))]) rfl ?_
  refine EV.aload_n dX0_tell_0 rfl rfl ?_
  refine FV.getI dX0_tell_1 (sl0_0 _ mthis) fl_0_21 rfl ?_
  refine EV.bipush dX0_tell_4 (by decide) (by decide) ?_
  refine EV.icmp_ge (tgt := 49) dX0_tell_6 (by decide) (fun q1 => ?_) (fun q1 => ?_)
  · have hf := pv_gp hf q1
    refine EV.weak (L2 := [none, none, none, none]) trivial ?_
    exact tX0_tell_49 hd  mthis  hf
  · have hf := pv_gn hf q1
    refine EV.aload_n dX0_tell_9 rfl rfl ?_
    refine FV.getF (v := this + 1) dX0_tell_10 (sl0_0 _ mthis) fl_0_9 rfl (mu0_0 _ mthis _) (hl0_0_1 _ mthis) ?_
    refine EV.aload_n dX0_tell_13 rfl rfl ?_
    refine FV.getI dX0_tell_14 (sl0_0 _ mthis) fl_0_21 rfl ?_
    refine EV.iload_n dX0_tell_17 rfl rfl ?_
    obtain ⟨g2, hf⟩ := pv_gd hf
    obtain ⟨h3, eh3, hf⟩ := pv_bo hf
    refine FV.iast dX0_tell_18 (sl0_1 _ mthis) g2.1 g2.2 (j := (Int.toNat (h this 0))) rfl eh3 ?_
    refine EV.aload_n dX0_tell_19 rfl rfl ?_
    refine FV.getF (v := this + 2) dX0_tell_20 (sl0_0 _ mthis) fl_0_15 rfl (mu0_0 _ mthis _) (hl0_0_2 _ mthis) ?_
    refine EV.aload_n dX0_tell_23 rfl rfl ?_
    refine FV.getI dX0_tell_24 (sl0_0 _ mthis) fl_0_21 rfl ?_
    refine EV.iload_n dX0_tell_27 rfl rfl ?_
    obtain ⟨g4, hf⟩ := pv_gd hf
    obtain ⟨h5, eh5, hf⟩ := pv_bo hf
    refine FV.iast dX0_tell_28 (sl0_2 _ mthis) g4.1 g4.2 (j := (Int.toNat (h3 this 0))) rfl eh5 ?_
    refine EV.aload_n dX0_tell_29 rfl rfl ?_
    refine FV.getF (v := this + 3) dX0_tell_30 (sl0_0 _ mthis) fl_0_18 rfl (mu0_0 _ mthis _) (hl0_0_3 _ mthis) ?_
    refine EV.aload_n dX0_tell_33 rfl rfl ?_
    refine FV.getI dX0_tell_34 (sl0_0 _ mthis) fl_0_21 rfl ?_
    refine EV.iload_n dX0_tell_37 rfl rfl ?_
    obtain ⟨g6, hf⟩ := pv_gd hf
    obtain ⟨h7, eh7, hf⟩ := pv_bo hf
    refine FV.iast dX0_tell_38 (sl0_3 _ mthis) g6.1 g6.2 (j := (Int.toNat (h5 this 0))) rfl eh7 ?_
    refine EV.aload_n dX0_tell_39 rfl rfl ?_
    refine EV.dup dX0_tell_40 rfl ?_
    refine FV.getI dX0_tell_41 (sl0_0 _ mthis) fl_0_21 rfl ?_
    refine EV.iconst dX0_tell_44 (by decide) (by decide) ?_
    refine EV.iadd dX0_tell_45 ?_
    obtain ⟨h8, eh8, hf⟩ := pv_bo hf
    refine FV.putI dX0_tell_46 (sl0_0 _ mthis) fl_0_21 rfl rfl eh8 ?_
    refine EV.weak (L2 := [none, none, none, none]) trivial ?_
    exact tX0_tell_49 hd  mthis  hf

noncomputable def fX0_allTicks_4 (N : Nat)  (this : Nat) : Nat → Int → Int → pv_H → Option (Int)
  | 0, _, _, _ => none
  | n + 1, v1, v2, h => if (h this 0) ≤ v2 then (some (v1)) else (if 0 ≤ v2 ∧ v2 < 12 then (pv_b (pv_w (v1 + (h (this + 3) (Int.toNat (v2))))) fun x3 => pv_b (pv_w (v2 + 1)) fun x4 => fX0_allTicks_4 N  this n (x3) (x4) h) else none)

noncomputable def fX0_allTicks (N : Nat) (this : Nat) (h : pv_H) : Option (Int) :=
  fX0_allTicks_4 N  this N (0) (0) h

set_option maxHeartbeats 4000000 in
set_option maxRecDepth 20000 in
theorem tX0_allTicks_4 {d N : Nat}  {this : Nat} {h : pv_H} {r : Int} (hd : 1 ≤ d)  (mthis : this ∈ pv_l0) : ∀ (n : Nat) (v1 : Int) (v2 : Int) , fX0_allTicks_4 N  this n v1 v2 h = some r → EV RX0 cX0_allTicks 3 (some .int) false d pv_SC (MC h) (some (.inl r)) 4 [some (.inr (.inr (this))), some (.inl (v1)), some (.inl (v2))] [] pv_SC (MC h) := by
  intro n
  induction n with
  | zero =>
    intro v1 v2   hf
    cases hf
  | succ n ih =>
    intro v1 v2   hf
    rw [fX0_allTicks_4] at hf
    refine EV.iload_n dX0_allTicks_4 rfl rfl ?_
    refine EV.aload_n dX0_allTicks_5 rfl rfl ?_
    refine FV.getI dX0_allTicks_6 (sl0_0 _ mthis) fl_0_21 rfl ?_
    refine EV.icmp_ge (tgt := 27) dX0_allTicks_9 (by decide) (fun q1 => ?_) (fun q1 => ?_)
    · have hf := pv_gp hf q1
      refine EV.iload_n dX0_allTicks_27 rfl rfl ?_
      exact FV.iretp dX0_allTicks_28 hf
    · have hf := pv_gn hf q1
      refine EV.iload_n dX0_allTicks_12 rfl rfl ?_
      refine EV.aload_n dX0_allTicks_13 rfl rfl ?_
      refine FV.getF (v := this + 3) dX0_allTicks_14 (sl0_0 _ mthis) fl_0_18 rfl (mu0_0 _ mthis _) (hl0_0_3 _ mthis) ?_
      refine EV.iload_n dX0_allTicks_17 rfl rfl ?_
      obtain ⟨g2, hf⟩ := pv_gd hf
      refine FV.iald dX0_allTicks_18 (sl0_3 _ mthis) g2.1 g2.2 (j := (Int.toNat (v2))) rfl ?_
      refine EV.iadd dX0_allTicks_19 ?_
      obtain ⟨x3, ex3, hf⟩ := pv_bo hf
      refine FV.sti (L2 := [some (.inr (.inr (this))), some (.inl (x3)), some (.inl (v2))]) dX0_allTicks_20 rfl (Nat.le_of_ble_eq_true rfl) ex3 rfl ?_
      obtain ⟨x4, ex4, hf⟩ := pv_bo hf
      refine FV.inc (L2 := [some (.inr (.inr (this))), some (.inl (x3)), some (.inl (x4))]) dX0_allTicks_21 rfl (Nat.le_of_ble_eq_true rfl) ex4 rfl ?_
      refine EV.goto (tgt := 4) dX0_allTicks_24 (by decide) ?_
      refine EV.weak (L2 := [some (.inr (.inr (this))), some (.inl (x3)), some (.inl (x4))]) (And.intro rfl (And.intro rfl (And.intro rfl trivial))) ?_
      exact ih _ _   hf

set_option maxHeartbeats 4000000 in
set_option maxRecDepth 20000 in
theorem tX0_allTicks {d N : Nat} {this : Nat} {h : pv_H} {r : Int} (hd : 1 ≤ d) (mthis : this ∈ pv_l0) (hf : fX0_allTicks N this h = some r) : CALL yX0_allTicks cX0_allTicks 3 (some .int) d pv_SC (MC h) [.inr (.inr (this))] pv_SC (MC h) (some (.inl r)) := by
  unfold fX0_allTicks at hf
  refine EV.call (own := RX0) (ini := false) rfl rfl (fun q => by cases q) ⟨[], (List.append_nil _).symm⟩ (Nat.le_of_ble_eq_true rfl) ?_
  refine EV.eqL (L2 := [some (.inr (.inr (this))), none, none]) rfl ?_
  refine EV.iconst dX0_allTicks_0 (by decide) (by decide) ?_
  refine FV.sti (L2 := [some (.inr (.inr (this))), some (.inl (0)), none]) dX0_allTicks_1 rfl (Nat.le_of_ble_eq_true rfl) rfl rfl ?_
  refine EV.iconst dX0_allTicks_2 (by decide) (by decide) ?_
  refine FV.sti (L2 := [some (.inr (.inr (this))), some (.inl (0)), some (.inl (0))]) dX0_allTicks_3 rfl (Nat.le_of_ble_eq_true rfl) rfl rfl ?_
  refine EV.weak (L2 := [some (.inr (.inr (this))), some (.inl (0)), some (.inl (0))]) (And.intro rfl (And.intro rfl (And.intro rfl trivial))) ?_
  exact tX0_allTicks_4 hd  mthis _ _ _   hf

noncomputable def fX0_byTick (N : Nat) (this : Nat) (a1 : Int) (a2 : Int) (h : pv_H) : Option (Int) :=
  if 0 ≤ a1 ∧ a1 < 12 then (if ¬ (max a2 1) = 0 then (some (pv_w (Int.tdiv (h (this + 2) (Int.toNat (a1))) (max a2 1)))) else none) else none

set_option maxHeartbeats 4000000 in
set_option maxRecDepth 20000 in
theorem tX0_byTick {d N : Nat} {this : Nat} {a1 : Int} {a2 : Int} {h : pv_H} {r : Int} (hd : 2 ≤ d) (mthis : this ∈ pv_l0) (hf : fX0_byTick N this a1 a2 h = some r) : CALL yX0_byTick cX0_byTick 3 (some .int) d pv_SC (MC h) [.inr (.inr (this)), .inl (a1), .inl (a2)] pv_SC (MC h) (some (.inl r)) := by
  unfold fX0_byTick at hf
  refine EV.call (own := RX0) (ini := false) rfl rfl (fun q => by cases q) ⟨[], (List.append_nil _).symm⟩ (Nat.le_of_ble_eq_true rfl) ?_
  refine EV.eqL (L2 := [some (.inr (.inr (this))), some (.inl (a1)), some (.inl (a2))]) rfl ?_
  refine EV.aload_n dX0_byTick_0 rfl rfl ?_
  refine FV.getF (v := this + 2) dX0_byTick_1 (sl0_0 _ mthis) fl_0_15 rfl (mu0_0 _ mthis _) (hl0_0_2 _ mthis) ?_
  refine EV.iload_n dX0_byTick_4 rfl rfl ?_
  obtain ⟨g1, hf⟩ := pv_gd hf
  refine FV.iald dX0_byTick_5 (sl0_2 _ mthis) g1.1 g1.2 (j := (Int.toNat (a1))) rfl ?_
  refine EV.iload_n dX0_byTick_6 rfl rfl ?_
  refine EV.iconst dX0_byTick_7 (by decide) (by decide) ?_
  refine EV.mmax dX0_byTick_8 ml_X0_31 w_maxs w_mai w_maxc (by omega) (Nat.le_of_ble_eq_true rfl) ?_
  obtain ⟨g2, hf⟩ := pv_gd hf
  refine EV.idiv dX0_byTick_11 g2 ?_
  exact FV.iretp dX0_byTick_12 hf

noncomputable def fX0_bendBehindStep_27 (N : Nat)  (a0 : Int) (a1 : Int) (a2 : Int) (s0 : Int) (h : pv_H) : Option (Int) :=
  some (s0)

noncomputable def fX0_bendBehindStep (N : Nat) (a0 : Int) (a1 : Int) (a2 : Int) (h : pv_H) : Option (Int) :=
  if a1 = 9 then (some (pv_w (a0 + a2))) else (if a1 = 10 then (fX0_bendBehindStep_27 N  a0 a1 a2 (max 0 (pv_w (a0 - a2))) h) else (fX0_bendBehindStep_27 N  a0 a1 a2 (a0) h))

set_option maxHeartbeats 4000000 in
set_option maxRecDepth 20000 in
theorem tX0_bendBehindStep_27 {d N : Nat}  {a0 : Int} {a1 : Int} {a2 : Int} {s0 : Int} {h : pv_H} {r : Int} (hd : 2 ≤ d)    (hf : fX0_bendBehindStep_27 N  a0 a1 a2 s0 h = some r) : EV RX0 cX0_bendBehindStep 3 (some .int) false d pv_SC (MC h) (some (.inl r)) 27 [none, none, none] [.inl (s0)] pv_SC (MC h) := by
  unfold fX0_bendBehindStep_27 at hf
  exact FV.iretp dX0_bendBehindStep_27 hf

set_option maxHeartbeats 4000000 in
set_option maxRecDepth 20000 in
theorem tX0_bendBehindStep {d N : Nat} {a0 : Int} {a1 : Int} {a2 : Int} {h : pv_H} {r : Int} (hd : 2 ≤ d)  (hf : fX0_bendBehindStep N a0 a1 a2 h = some r) : CALL yX0_bendBehindStep cX0_bendBehindStep 3 (some .int) d pv_SC (MC h) [.inl (a0), .inl (a1), .inl (a2)] pv_SC (MC h) (some (.inl r)) := by
  unfold fX0_bendBehindStep at hf
  refine EV.call (own := RX0) (ini := false) rfl rfl (fun q => by cases q) ⟨[], (List.append_nil _).symm⟩ (Nat.le_of_ble_eq_true rfl) ?_
  refine EV.eqL (L2 := [some (.inl (a0)), some (.inl (a1)), some (.inl (a2))]) rfl ?_
  refine EV.iload_n dX0_bendBehindStep_0 rfl rfl ?_
  refine EV.bipush dX0_bendBehindStep_1 (by decide) (by decide) ?_
  refine EV.icmp_ne (tgt := 10) dX0_bendBehindStep_3 (by decide) (fun q1 => ?_) (fun q1 => ?_)
  · have hf := pv_gn hf q1
    refine EV.iload_n dX0_bendBehindStep_10 rfl rfl ?_
    refine EV.bipush dX0_bendBehindStep_11 (by decide) (by decide) ?_
    refine EV.icmp_ne (tgt := 26) dX0_bendBehindStep_13 (by decide) (fun q2 => ?_) (fun q2 => ?_)
    · have hf := pv_gn hf q2
      refine EV.iload_n dX0_bendBehindStep_26 rfl rfl ?_
      refine EV.weak (L2 := [none, none, none]) trivial ?_
      exact tX0_bendBehindStep_27 hd    hf
    · have hf := pv_gp hf q2
      refine EV.iconst dX0_bendBehindStep_16 (by decide) (by decide) ?_
      refine EV.iload_n dX0_bendBehindStep_17 rfl rfl ?_
      refine EV.iload_n dX0_bendBehindStep_18 rfl rfl ?_
      refine EV.isub dX0_bendBehindStep_19 ?_
      refine EV.mmax dX0_bendBehindStep_20 ml_X0_31 w_maxs w_mai w_maxc (by omega) (Nat.le_of_ble_eq_true rfl) ?_
      refine EV.goto (tgt := 27) dX0_bendBehindStep_23 (by decide) ?_
      refine EV.weak (L2 := [none, none, none]) trivial ?_
      exact tX0_bendBehindStep_27 hd    hf
  · have hf := pv_gp hf q1
    refine EV.iload_n dX0_bendBehindStep_6 rfl rfl ?_
    refine EV.iload_n dX0_bendBehindStep_7 rfl rfl ?_
    refine EV.iadd dX0_bendBehindStep_8 ?_
    exact FV.iretp dX0_bendBehindStep_9 hf

noncomputable def fX0_bendBehind_73 (N : Nat)  (this : Nat) (a1 : Int) (a2 : Int) (v3 : Int) (h : pv_H) : Option (Int) :=
  some (v3)

noncomputable def fX0_bendBehind_8 (N : Nat)  (this : Nat) (a1 : Int) (a2 : Int) : Nat → Int → Int → Int → pv_H → Option (Int)
  | 0, _, _, _, _ => none
  | n + 1, v3, v4, v5, h => if (h this 0) ≤ v5 then (fX0_bendBehind_73 N  this a1 a2 (v3) h) else (if v4 ≤ 0 then (fX0_bendBehind_73 N  this a1 a2 (v3) h) else (if 0 ≤ v5 ∧ v5 < 12 then (pv_b (min v4 (pv_w ((h (this + 3) (Int.toNat (v5))) * a2))) fun x4 => if 0 ≤ v5 ∧ v5 < 12 then (pv_c1 (fX0_byTick N this v5 a2 h) fun r7 => pv_c1 (fX0_bendBehindStep N v3 (h (this + 1) (Int.toNat (v5))) (pv_w (r7 * x4)) h) fun r9 => pv_b (pv_w (v4 - x4)) fun x10 => pv_b (pv_w (v5 + 1)) fun x11 => fX0_bendBehind_8 N  this a1 a2 n (r9) (x10) (x11) h) else none) else none))

noncomputable def fX0_bendBehind (N : Nat) (this : Nat) (a1 : Int) (a2 : Int) (h : pv_H) : Option (Int) :=
  fX0_bendBehind_8 N  this a1 a2 N (0) (a1) (0) h

set_option maxHeartbeats 4000000 in
set_option maxRecDepth 20000 in
theorem tX0_bendBehind_73 {d N : Nat}  {this : Nat} {a1 : Int} {a2 : Int} {v3 : Int} {h : pv_H} {r : Int} (hd : 3 ≤ d)  (mthis : this ∈ pv_l0)  (hf : fX0_bendBehind_73 N  this a1 a2 v3 h = some r) : EV RX0 cX0_bendBehind 7 (some .int) false d pv_SC (MC h) (some (.inl r)) 73 [none, none, none, some (.inl (v3)), none, none, none] [] pv_SC (MC h) := by
  unfold fX0_bendBehind_73 at hf
  refine EV.iload_n dX0_bendBehind_73 rfl rfl ?_
  exact FV.iretp dX0_bendBehind_74 hf

set_option maxHeartbeats 4000000 in
set_option maxRecDepth 20000 in
theorem tX0_bendBehind_8 {d N : Nat}  {this : Nat} {a1 : Int} {a2 : Int} {h : pv_H} {r : Int} (hd : 3 ≤ d)  (mthis : this ∈ pv_l0) : ∀ (n : Nat) (v3 : Int) (v4 : Int) (v5 : Int) , fX0_bendBehind_8 N  this a1 a2 n v3 v4 v5 h = some r → EV RX0 cX0_bendBehind 7 (some .int) false d pv_SC (MC h) (some (.inl r)) 8 [some (.inr (.inr (this))), none, some (.inl (a2)), some (.inl (v3)), some (.inl (v4)), some (.inl (v5)), none] [] pv_SC (MC h) := by
  intro n
  induction n with
  | zero =>
    intro v3 v4 v5   hf
    cases hf
  | succ n ih =>
    intro v3 v4 v5   hf
    rw [fX0_bendBehind_8] at hf
    refine EV.iload dX0_bendBehind_8 rfl ?_
    refine EV.aload_n dX0_bendBehind_10 rfl rfl ?_
    refine FV.getI dX0_bendBehind_11 (sl0_0 _ mthis) fl_0_21 rfl ?_
    refine EV.icmp_ge (tgt := 73) dX0_bendBehind_14 (by decide) (fun q1 => ?_) (fun q1 => ?_)
    · have hf := pv_gp hf q1
      refine EV.weak (L2 := [none, none, none, some (.inl (v3)), none, none, none]) (And.intro rfl trivial) ?_
      exact tX0_bendBehind_73 hd  mthis  hf
    · have hf := pv_gn hf q1
      refine EV.iload dX0_bendBehind_17 rfl ?_
      refine EV.if_le (tgt := 73) dX0_bendBehind_19 (by decide) (fun q2 => ?_) (fun q2 => ?_)
      · have hf := pv_gp hf q2
        refine EV.weak (L2 := [none, none, none, some (.inl (v3)), none, none, none]) (And.intro rfl trivial) ?_
        exact tX0_bendBehind_73 hd  mthis  hf
      · have hf := pv_gn hf q2
        refine EV.iload dX0_bendBehind_22 rfl ?_
        refine EV.aload_n dX0_bendBehind_24 rfl rfl ?_
        refine FV.getF (v := this + 3) dX0_bendBehind_25 (sl0_0 _ mthis) fl_0_18 rfl (mu0_0 _ mthis _) (hl0_0_3 _ mthis) ?_
        refine EV.iload dX0_bendBehind_28 rfl ?_
        obtain ⟨g3, hf⟩ := pv_gd hf
        refine FV.iald dX0_bendBehind_30 (sl0_3 _ mthis) g3.1 g3.2 (j := (Int.toNat (v5))) rfl ?_
        refine EV.iload_n dX0_bendBehind_31 rfl rfl ?_
        refine EV.imul dX0_bendBehind_32 ?_
        refine EV.mmin dX0_bendBehind_33 ml_X0_37 w_mins w_mai w_minc (by omega) (Nat.le_of_ble_eq_true rfl) ?_
        obtain ⟨x4, ex4, hf⟩ := pv_bo hf
        refine FV.stiw (L2 := [some (.inr (.inr (this))), none, some (.inl (a2)), some (.inl (v3)), some (.inl (v4)), some (.inl (v5)), some (.inl (x4))]) dX0_bendBehind_36 (Nat.le_of_ble_eq_true rfl) ex4 rfl ?_
        refine EV.iload_n dX0_bendBehind_38 rfl rfl ?_
        refine EV.aload_n dX0_bendBehind_39 rfl rfl ?_
        refine FV.getF (v := this + 1) dX0_bendBehind_40 (sl0_0 _ mthis) fl_0_9 rfl (mu0_0 _ mthis _) (hl0_0_1 _ mthis) ?_
        refine EV.iload dX0_bendBehind_43 rfl ?_
        obtain ⟨g5, hf⟩ := pv_gd hf
        refine FV.iald dX0_bendBehind_45 (sl0_1 _ mthis) g5.1 g5.2 (j := (Int.toNat (v5))) rfl ?_
        refine EV.aload_n dX0_bendBehind_46 rfl rfl ?_
        refine EV.iload dX0_bendBehind_47 rfl ?_
        refine EV.iload_n dX0_bendBehind_49 rfl rfl ?_
        obtain ⟨r7, hc6, hf⟩ := pv_c1o hf
        refine EV.invV (As := [.inl (v5), .inl (a2)]) (st := [.inl (h (this + 1) (Int.toNat (v5))), .inl (v3)]) (d1 := d - 1) (sh1 := pv_SC) (h1 := MC h) (r1 := (some (.inl r7))) dX0_bendBehind_50 (sl0_0 _ mthis) (by decide) md_X0_byTick ml_X0_40 im_X0_byTick se_X0_byTick (tX0_byTick (by omega) (mthis) hc6) (by omega) rfl rfl (Nat.le_of_ble_eq_true rfl) ⟨[], (List.append_nil _).symm⟩ ?_
        refine EV.eqS (st2 := [.inl (r7), .inl (h (this + 1) (Int.toNat (v5))), .inl (v3)]) rfl ?_
        refine EV.iload dX0_bendBehind_53 rfl ?_
        refine EV.imul dX0_bendBehind_55 ?_
        obtain ⟨r9, hc8, hf⟩ := pv_c1o hf
        refine EV.invS (As := [.inl (v3), .inl (h (this + 1) (Int.toNat (v5))), .inl (pv_w (r7 * x4))]) (st := []) (d1 := d - 1) (sh1 := pv_SC) (h1 := MC h) (r1 := (some (.inl r9))) dX0_bendBehind_56 md_X0_bendBehindStep ml_X0_43 st_X0_bendBehindStep (tX0_bendBehindStep (by omega)  hc8) (by omega) rfl rfl (Nat.le_of_ble_eq_true rfl) ⟨[], (List.append_nil _).symm⟩ ?_
        refine EV.eqS (st2 := [.inl (r9)]) rfl ?_
        refine FV.sti (L2 := [some (.inr (.inr (this))), none, some (.inl (a2)), some (.inl (r9)), some (.inl (v4)), some (.inl (v5)), some (.inl (x4))]) dX0_bendBehind_59 rfl (Nat.le_of_ble_eq_true rfl) rfl rfl ?_
        refine EV.iload dX0_bendBehind_60 rfl ?_
        refine EV.iload dX0_bendBehind_62 rfl ?_
        refine EV.isub dX0_bendBehind_64 ?_
        obtain ⟨x10, ex10, hf⟩ := pv_bo hf
        refine FV.stiw (L2 := [some (.inr (.inr (this))), none, some (.inl (a2)), some (.inl (r9)), some (.inl (x10)), some (.inl (v5)), some (.inl (x4))]) dX0_bendBehind_65 (Nat.le_of_ble_eq_true rfl) ex10 rfl ?_
        obtain ⟨x11, ex11, hf⟩ := pv_bo hf
        refine FV.inc (L2 := [some (.inr (.inr (this))), none, some (.inl (a2)), some (.inl (r9)), some (.inl (x10)), some (.inl (x11)), some (.inl (x4))]) dX0_bendBehind_67 rfl (Nat.le_of_ble_eq_true rfl) ex11 rfl ?_
        refine EV.goto (tgt := 8) dX0_bendBehind_70 (by decide) ?_
        refine EV.weak (L2 := [some (.inr (.inr (this))), none, some (.inl (a2)), some (.inl (r9)), some (.inl (x10)), some (.inl (x11)), none]) (And.intro rfl (And.intro rfl (And.intro rfl (And.intro rfl (And.intro rfl trivial))))) ?_
        exact ih _ _ _   hf

set_option maxHeartbeats 4000000 in
set_option maxRecDepth 20000 in
theorem tX0_bendBehind {d N : Nat} {this : Nat} {a1 : Int} {a2 : Int} {h : pv_H} {r : Int} (hd : 3 ≤ d) (mthis : this ∈ pv_l0) (hf : fX0_bendBehind N this a1 a2 h = some r) : CALL yX0_bendBehind cX0_bendBehind 7 (some .int) d pv_SC (MC h) [.inr (.inr (this)), .inl (a1), .inl (a2)] pv_SC (MC h) (some (.inl r)) := by
  unfold fX0_bendBehind at hf
  refine EV.call (own := RX0) (ini := false) rfl rfl (fun q => by cases q) ⟨[], (List.append_nil _).symm⟩ (Nat.le_of_ble_eq_true rfl) ?_
  refine EV.eqL (L2 := [some (.inr (.inr (this))), some (.inl (a1)), some (.inl (a2)), none, none, none, none]) rfl ?_
  refine EV.iconst dX0_bendBehind_0 (by decide) (by decide) ?_
  refine FV.sti (L2 := [some (.inr (.inr (this))), some (.inl (a1)), some (.inl (a2)), some (.inl (0)), none, none, none]) dX0_bendBehind_1 rfl (Nat.le_of_ble_eq_true rfl) rfl rfl ?_
  refine EV.iload_n dX0_bendBehind_2 rfl rfl ?_
  refine FV.stiw (L2 := [some (.inr (.inr (this))), some (.inl (a1)), some (.inl (a2)), some (.inl (0)), some (.inl (a1)), none, none]) dX0_bendBehind_3 (Nat.le_of_ble_eq_true rfl) rfl rfl ?_
  refine EV.iconst dX0_bendBehind_5 (by decide) (by decide) ?_
  refine FV.stiw (L2 := [some (.inr (.inr (this))), some (.inl (a1)), some (.inl (a2)), some (.inl (0)), some (.inl (a1)), some (.inl (0)), none]) dX0_bendBehind_6 (Nat.le_of_ble_eq_true rfl) rfl rfl ?_
  refine EV.weak (L2 := [some (.inr (.inr (this))), none, some (.inl (a2)), some (.inl (0)), some (.inl (a1)), some (.inl (0)), none]) (And.intro rfl (And.intro rfl (And.intro rfl (And.intro rfl (And.intro rfl trivial))))) ?_
  exact tX0_bendBehind_8 hd  mthis _ _ _ _   hf

noncomputable def fX0_turnBehind_76 (N : Nat)  (this : Nat) (a1 : Int) (a2 : Int) (v3 : Int) (h : pv_H) : Option (Int) :=
  some (v3)

noncomputable def fX0_turnBehind_63 (N : Nat) (k8 : Int → Int → Int → pv_H → Option (Int)) (this : Nat) (a1 : Int) (a2 : Int) (v3 : Int) (v4 : Int) (v5 : Int) (v6 : Int) (h : pv_H) : Option (Int) :=
  pv_b (pv_w (v4 - v6)) fun x10 => pv_b (pv_w (v5 + 1)) fun x11 => k8 (v3) (x10) (x11) h

noncomputable def fX0_turnBehind_8 (N : Nat)  (this : Nat) (a1 : Int) (a2 : Int) : Nat → Int → Int → Int → pv_H → Option (Int)
  | 0, _, _, _, _ => none
  | n + 1, v3, v4, v5, h => if (h this 0) ≤ v5 then (fX0_turnBehind_76 N  this a1 a2 (v3) h) else (if v4 ≤ 0 then (fX0_turnBehind_76 N  this a1 a2 (v3) h) else (if 0 ≤ v5 ∧ v5 < 12 then (pv_b (min v4 (pv_w ((h (this + 3) (Int.toNat (v5))) * a2))) fun x4 => if 0 ≤ v5 ∧ v5 < 12 then (if (h (this + 1) (Int.toNat (v5))) = 11 then (pv_c1 (fX0_byTick N this v5 a2 h) fun r8 => pv_b (pv_w (v3 + (pv_w (r8 * x4)))) fun x9 => fX0_turnBehind_63 N (fun v3_ v4_ v5_ hh => fX0_turnBehind_8 N  this a1 a2 n v3_ v4_ v5_ hh) this a1 a2 (x9) (v4) (v5) (x4) h) else (fX0_turnBehind_63 N (fun v3_ v4_ v5_ hh => fX0_turnBehind_8 N  this a1 a2 n v3_ v4_ v5_ hh) this a1 a2 (v3) (v4) (v5) (x4) h)) else none) else none))

noncomputable def fX0_turnBehind (N : Nat) (this : Nat) (a1 : Int) (a2 : Int) (h : pv_H) : Option (Int) :=
  fX0_turnBehind_8 N  this a1 a2 N (0) (a1) (0) h

set_option maxHeartbeats 4000000 in
set_option maxRecDepth 20000 in
theorem tX0_turnBehind_76 {d N : Nat}  {this : Nat} {a1 : Int} {a2 : Int} {v3 : Int} {h : pv_H} {r : Int} (hd : 3 ≤ d)  (mthis : this ∈ pv_l0)  (hf : fX0_turnBehind_76 N  this a1 a2 v3 h = some r) : EV RX0 cX0_turnBehind 7 (some .int) false d pv_SC (MC h) (some (.inl r)) 76 [none, none, none, some (.inl (v3)), none, none, none] [] pv_SC (MC h) := by
  unfold fX0_turnBehind_76 at hf
  refine EV.iload_n dX0_turnBehind_76 rfl rfl ?_
  exact FV.iretp dX0_turnBehind_77 hf

set_option maxHeartbeats 4000000 in
set_option maxRecDepth 20000 in
theorem tX0_turnBehind_63 {d N : Nat} {k8 : Int → Int → Int → pv_H → Option (Int)} {this : Nat} {a1 : Int} {a2 : Int} {v3 : Int} {v4 : Int} {v5 : Int} {v6 : Int} {h : pv_H} {r : Int} (hd : 3 ≤ d) (hk8 : ∀ (v3 : Int) (v4 : Int) (v5 : Int) , k8 v3 v4 v5 h = some r → EV RX0 cX0_turnBehind 7 (some .int) false d pv_SC (MC h) (some (.inl r)) 8 [some (.inr (.inr (this))), none, some (.inl (a2)), some (.inl (v3)), some (.inl (v4)), some (.inl (v5)), none] [] pv_SC (MC h)) (mthis : this ∈ pv_l0)  (hf : fX0_turnBehind_63 N k8 this a1 a2 v3 v4 v5 v6 h = some r) : EV RX0 cX0_turnBehind 7 (some .int) false d pv_SC (MC h) (some (.inl r)) 63 [some (.inr (.inr (this))), none, some (.inl (a2)), some (.inl (v3)), some (.inl (v4)), some (.inl (v5)), some (.inl (v6))] [] pv_SC (MC h) := by
  unfold fX0_turnBehind_63 at hf
  refine EV.iload dX0_turnBehind_63 rfl ?_
  refine EV.iload dX0_turnBehind_65 rfl ?_
  refine EV.isub dX0_turnBehind_67 ?_
  obtain ⟨x10, ex10, hf⟩ := pv_bo hf
  refine FV.stiw (L2 := [some (.inr (.inr (this))), none, some (.inl (a2)), some (.inl (v3)), some (.inl (x10)), some (.inl (v5)), some (.inl (v6))]) dX0_turnBehind_68 (Nat.le_of_ble_eq_true rfl) ex10 rfl ?_
  obtain ⟨x11, ex11, hf⟩ := pv_bo hf
  refine FV.inc (L2 := [some (.inr (.inr (this))), none, some (.inl (a2)), some (.inl (v3)), some (.inl (x10)), some (.inl (x11)), some (.inl (v6))]) dX0_turnBehind_70 rfl (Nat.le_of_ble_eq_true rfl) ex11 rfl ?_
  refine EV.goto (tgt := 8) dX0_turnBehind_73 (by decide) ?_
  refine EV.weak (L2 := [some (.inr (.inr (this))), none, some (.inl (a2)), some (.inl (v3)), some (.inl (x10)), some (.inl (x11)), none]) (And.intro rfl (And.intro rfl (And.intro rfl (And.intro rfl (And.intro rfl trivial))))) ?_
  exact hk8 _ _ _   hf

set_option maxHeartbeats 4000000 in
set_option maxRecDepth 20000 in
theorem tX0_turnBehind_8 {d N : Nat}  {this : Nat} {a1 : Int} {a2 : Int} {h : pv_H} {r : Int} (hd : 3 ≤ d)  (mthis : this ∈ pv_l0) : ∀ (n : Nat) (v3 : Int) (v4 : Int) (v5 : Int) , fX0_turnBehind_8 N  this a1 a2 n v3 v4 v5 h = some r → EV RX0 cX0_turnBehind 7 (some .int) false d pv_SC (MC h) (some (.inl r)) 8 [some (.inr (.inr (this))), none, some (.inl (a2)), some (.inl (v3)), some (.inl (v4)), some (.inl (v5)), none] [] pv_SC (MC h) := by
  intro n
  induction n with
  | zero =>
    intro v3 v4 v5   hf
    cases hf
  | succ n ih =>
    intro v3 v4 v5   hf
    rw [fX0_turnBehind_8] at hf
    refine EV.iload dX0_turnBehind_8 rfl ?_
    refine EV.aload_n dX0_turnBehind_10 rfl rfl ?_
    refine FV.getI dX0_turnBehind_11 (sl0_0 _ mthis) fl_0_21 rfl ?_
    refine EV.icmp_ge (tgt := 76) dX0_turnBehind_14 (by decide) (fun q1 => ?_) (fun q1 => ?_)
    · have hf := pv_gp hf q1
      refine EV.weak (L2 := [none, none, none, some (.inl (v3)), none, none, none]) (And.intro rfl trivial) ?_
      exact tX0_turnBehind_76 hd  mthis  hf
    · have hf := pv_gn hf q1
      refine EV.iload dX0_turnBehind_17 rfl ?_
      refine EV.if_le (tgt := 76) dX0_turnBehind_19 (by decide) (fun q2 => ?_) (fun q2 => ?_)
      · have hf := pv_gp hf q2
        refine EV.weak (L2 := [none, none, none, some (.inl (v3)), none, none, none]) (And.intro rfl trivial) ?_
        exact tX0_turnBehind_76 hd  mthis  hf
      · have hf := pv_gn hf q2
        refine EV.iload dX0_turnBehind_22 rfl ?_
        refine EV.aload_n dX0_turnBehind_24 rfl rfl ?_
        refine FV.getF (v := this + 3) dX0_turnBehind_25 (sl0_0 _ mthis) fl_0_18 rfl (mu0_0 _ mthis _) (hl0_0_3 _ mthis) ?_
        refine EV.iload dX0_turnBehind_28 rfl ?_
        obtain ⟨g3, hf⟩ := pv_gd hf
        refine FV.iald dX0_turnBehind_30 (sl0_3 _ mthis) g3.1 g3.2 (j := (Int.toNat (v5))) rfl ?_
        refine EV.iload_n dX0_turnBehind_31 rfl rfl ?_
        refine EV.imul dX0_turnBehind_32 ?_
        refine EV.mmin dX0_turnBehind_33 ml_X0_37 w_mins w_mai w_minc (by omega) (Nat.le_of_ble_eq_true rfl) ?_
        obtain ⟨x4, ex4, hf⟩ := pv_bo hf
        refine FV.stiw (L2 := [some (.inr (.inr (this))), none, some (.inl (a2)), some (.inl (v3)), some (.inl (v4)), some (.inl (v5)), some (.inl (x4))]) dX0_turnBehind_36 (Nat.le_of_ble_eq_true rfl) ex4 rfl ?_
        refine EV.aload_n dX0_turnBehind_38 rfl rfl ?_
        refine FV.getF (v := this + 1) dX0_turnBehind_39 (sl0_0 _ mthis) fl_0_9 rfl (mu0_0 _ mthis _) (hl0_0_1 _ mthis) ?_
        refine EV.iload dX0_turnBehind_42 rfl ?_
        obtain ⟨g5, hf⟩ := pv_gd hf
        refine FV.iald dX0_turnBehind_44 (sl0_1 _ mthis) g5.1 g5.2 (j := (Int.toNat (v5))) rfl ?_
        refine EV.bipush dX0_turnBehind_45 (by decide) (by decide) ?_
        refine EV.icmp_ne (tgt := 63) dX0_turnBehind_47 (by decide) (fun q6 => ?_) (fun q6 => ?_)
        · have hf := pv_gn hf q6
          refine EV.weak (L2 := [some (.inr (.inr (this))), none, some (.inl (a2)), some (.inl (v3)), some (.inl (v4)), some (.inl (v5)), some (.inl (x4))]) (And.intro rfl (And.intro rfl (And.intro rfl (And.intro rfl (And.intro rfl (And.intro rfl trivial)))))) ?_
          exact tX0_turnBehind_63 hd (ih) mthis  hf
        · have hf := pv_gp hf q6
          refine EV.iload_n dX0_turnBehind_50 rfl rfl ?_
          refine EV.aload_n dX0_turnBehind_51 rfl rfl ?_
          refine EV.iload dX0_turnBehind_52 rfl ?_
          refine EV.iload_n dX0_turnBehind_54 rfl rfl ?_
          obtain ⟨r8, hc7, hf⟩ := pv_c1o hf
          refine EV.invV (As := [.inl (v5), .inl (a2)]) (st := [.inl (v3)]) (d1 := d - 1) (sh1 := pv_SC) (h1 := MC h) (r1 := (some (.inl r8))) dX0_turnBehind_55 (sl0_0 _ mthis) (by decide) md_X0_byTick ml_X0_40 im_X0_byTick se_X0_byTick (tX0_byTick (by omega) (mthis) hc7) (by omega) rfl rfl (Nat.le_of_ble_eq_true rfl) ⟨[], (List.append_nil _).symm⟩ ?_
          refine EV.eqS (st2 := [.inl (r8), .inl (v3)]) rfl ?_
          refine EV.iload dX0_turnBehind_58 rfl ?_
          refine EV.imul dX0_turnBehind_60 ?_
          refine EV.iadd dX0_turnBehind_61 ?_
          obtain ⟨x9, ex9, hf⟩ := pv_bo hf
          refine FV.sti (L2 := [some (.inr (.inr (this))), none, some (.inl (a2)), some (.inl (x9)), some (.inl (v4)), some (.inl (v5)), some (.inl (x4))]) dX0_turnBehind_62 rfl (Nat.le_of_ble_eq_true rfl) ex9 rfl ?_
          refine EV.weak (L2 := [some (.inr (.inr (this))), none, some (.inl (a2)), some (.inl (x9)), some (.inl (v4)), some (.inl (v5)), some (.inl (x4))]) (And.intro rfl (And.intro rfl (And.intro rfl (And.intro rfl (And.intro rfl (And.intro rfl trivial)))))) ?_
          exact tX0_turnBehind_63 hd (ih) mthis  hf

set_option maxHeartbeats 4000000 in
set_option maxRecDepth 20000 in
theorem tX0_turnBehind {d N : Nat} {this : Nat} {a1 : Int} {a2 : Int} {h : pv_H} {r : Int} (hd : 3 ≤ d) (mthis : this ∈ pv_l0) (hf : fX0_turnBehind N this a1 a2 h = some r) : CALL yX0_turnBehind cX0_turnBehind 7 (some .int) d pv_SC (MC h) [.inr (.inr (this)), .inl (a1), .inl (a2)] pv_SC (MC h) (some (.inl r)) := by
  unfold fX0_turnBehind at hf
  refine EV.call (own := RX0) (ini := false) rfl rfl (fun q => by cases q) ⟨[], (List.append_nil _).symm⟩ (Nat.le_of_ble_eq_true rfl) ?_
  refine EV.eqL (L2 := [some (.inr (.inr (this))), some (.inl (a1)), some (.inl (a2)), none, none, none, none]) rfl ?_
  refine EV.iconst dX0_turnBehind_0 (by decide) (by decide) ?_
  refine FV.sti (L2 := [some (.inr (.inr (this))), some (.inl (a1)), some (.inl (a2)), some (.inl (0)), none, none, none]) dX0_turnBehind_1 rfl (Nat.le_of_ble_eq_true rfl) rfl rfl ?_
  refine EV.iload_n dX0_turnBehind_2 rfl rfl ?_
  refine FV.stiw (L2 := [some (.inr (.inr (this))), some (.inl (a1)), some (.inl (a2)), some (.inl (0)), some (.inl (a1)), none, none]) dX0_turnBehind_3 (Nat.le_of_ble_eq_true rfl) rfl rfl ?_
  refine EV.iconst dX0_turnBehind_5 (by decide) (by decide) ?_
  refine FV.stiw (L2 := [some (.inr (.inr (this))), some (.inl (a1)), some (.inl (a2)), some (.inl (0)), some (.inl (a1)), some (.inl (0)), none]) dX0_turnBehind_6 (Nat.le_of_ble_eq_true rfl) rfl rfl ?_
  refine EV.weak (L2 := [some (.inr (.inr (this))), none, some (.inl (a2)), some (.inl (0)), some (.inl (a1)), some (.inl (0)), none]) (And.intro rfl (And.intro rfl (And.intro rfl (And.intro rfl (And.intro rfl trivial))))) ?_
  exact tX0_turnBehind_8 hd  mthis _ _ _ _   hf

noncomputable def fX0_tickOfBend_98 (N : Nat) (k8 : Int → Int → Int → pv_H → Option (Int)) (this : Nat) (a1 : Int) (a2 : Int) (v3 : Int) (v4 : Int) (v5 : Int) (v6 : Int) (v7 : Int) (h : pv_H) : Option (Int) :=
  if 0 ≤ v5 ∧ v5 < 12 then (pv_c1 (fX0_bendBehindStep N v3 (h (this + 1) (Int.toNat (v5))) (pv_w (v7 * v6)) h) fun r15 => pv_b (pv_w (v4 + v6)) fun x16 => pv_b (pv_w (v5 + 1)) fun x17 => k8 (r15) (x16) (x17) h) else none

noncomputable def fX0_tickOfBend_97 (N : Nat)  (this : Nat) (a1 : Int) (a2 : Int) (s0 : Int) (h : pv_H) : Option (Int) :=
  some (s0)

noncomputable def fX0_tickOfBend_8 (N : Nat)  (this : Nat) (a1 : Int) (a2 : Int) : Nat → Int → Int → Int → pv_H → Option (Int)
  | 0, _, _, _, _ => none
  | n + 1, v3, v4, v5, h => if (h this 0) ≤ v5 then (some (-1)) else (if 0 ≤ v5 ∧ v5 < 12 then (pv_b (pv_w ((h (this + 3) (Int.toNat (v5))) * a2)) fun x3 => pv_c1 (fX0_byTick N this v5 a2 h) fun r5 => if 0 ≤ v5 ∧ v5 < 12 then (if (h (this + 1) (Int.toNat (v5))) = 9 then (if r5 ≤ 0 then (fX0_tickOfBend_98 N (fun v3_ v4_ v5_ hh => fX0_tickOfBend_8 N  this a1 a2 n v3_ v4_ v5_ hh) this a1 a2 (v3) (v4) (v5) (x3) (r5) h) else (if (pv_w (v3 + (pv_w (r5 * x3)))) < a1 then (fX0_tickOfBend_98 N (fun v3_ v4_ v5_ hh => fX0_tickOfBend_8 N  this a1 a2 n v3_ v4_ v5_ hh) this a1 a2 (v3) (v4) (v5) (x3) (r5) h) else (if ¬ r5 = 0 then (pv_b (pv_w ((pv_w (v4 + (pv_w (Int.tdiv (pv_w ((pv_w ((pv_w (a1 - v3)) + r5)) - 1)) r5)))) - 1)) fun x11 => if 4000 ≤ x11 then (fX0_tickOfBend_97 N  this a1 a2 (-1) h) else (fX0_tickOfBend_97 N  this a1 a2 (x11) h)) else none))) else (fX0_tickOfBend_98 N (fun v3_ v4_ v5_ hh => fX0_tickOfBend_8 N  this a1 a2 n v3_ v4_ v5_ hh) this a1 a2 (v3) (v4) (v5) (x3) (r5) h)) else none) else none)

noncomputable def fX0_tickOfBend (N : Nat) (this : Nat) (a1 : Int) (a2 : Int) (h : pv_H) : Option (Int) :=
  fX0_tickOfBend_8 N  this a1 a2 N (0) (0) (0) h

set_option maxHeartbeats 4000000 in
set_option maxRecDepth 20000 in
theorem tX0_tickOfBend_98 {d N : Nat} {k8 : Int → Int → Int → pv_H → Option (Int)} {this : Nat} {a1 : Int} {a2 : Int} {v3 : Int} {v4 : Int} {v5 : Int} {v6 : Int} {v7 : Int} {h : pv_H} {r : Int} (hd : 3 ≤ d) (hk8 : ∀ (v3 : Int) (v4 : Int) (v5 : Int) , k8 v3 v4 v5 h = some r → EV RX0 cX0_tickOfBend 9 (some .int) false d pv_SC (MC h) (some (.inl r)) 8 [some (.inr (.inr (this))), some (.inl (a1)), some (.inl (a2)), some (.inl (v3)), some (.inl (v4)), some (.inl (v5)), none, none, none] [] pv_SC (MC h)) (mthis : this ∈ pv_l0)  (hf : fX0_tickOfBend_98 N k8 this a1 a2 v3 v4 v5 v6 v7 h = some r) : EV RX0 cX0_tickOfBend 9 (some .int) false d pv_SC (MC h) (some (.inl r)) 98 [some (.inr (.inr (this))), some (.inl (a1)), some (.inl (a2)), some (.inl (v3)), some (.inl (v4)), some (.inl (v5)), some (.inl (v6)), some (.inl (v7)), none] [] pv_SC (MC h) := by
  unfold fX0_tickOfBend_98 at hf
  refine EV.iload_n dX0_tickOfBend_98 rfl rfl ?_
  refine EV.aload_n dX0_tickOfBend_99 rfl rfl ?_
  refine FV.getF (v := this + 1) dX0_tickOfBend_100 (sl0_0 _ mthis) fl_0_9 rfl (mu0_0 _ mthis _) (hl0_0_1 _ mthis) ?_
  refine EV.iload dX0_tickOfBend_103 rfl ?_
  obtain ⟨g13, hf⟩ := pv_gd hf
  refine FV.iald dX0_tickOfBend_105 (sl0_1 _ mthis) g13.1 g13.2 (j := (Int.toNat (v5))) rfl ?_
  refine EV.iload dX0_tickOfBend_106 rfl ?_
  refine EV.iload dX0_tickOfBend_108 rfl ?_
  refine EV.imul dX0_tickOfBend_110 ?_
  obtain ⟨r15, hc14, hf⟩ := pv_c1o hf
  refine EV.invS (As := [.inl (v3), .inl (h (this + 1) (Int.toNat (v5))), .inl (pv_w (v7 * v6))]) (st := []) (d1 := d - 1) (sh1 := pv_SC) (h1 := MC h) (r1 := (some (.inl r15))) dX0_tickOfBend_111 md_X0_bendBehindStep ml_X0_43 st_X0_bendBehindStep (tX0_bendBehindStep (by omega)  hc14) (by omega) rfl rfl (Nat.le_of_ble_eq_true rfl) ⟨[], (List.append_nil _).symm⟩ ?_
  refine EV.eqS (st2 := [.inl (r15)]) rfl ?_
  refine FV.sti (L2 := [some (.inr (.inr (this))), some (.inl (a1)), some (.inl (a2)), some (.inl (r15)), some (.inl (v4)), some (.inl (v5)), some (.inl (v6)), some (.inl (v7)), none]) dX0_tickOfBend_114 rfl (Nat.le_of_ble_eq_true rfl) rfl rfl ?_
  refine EV.iload dX0_tickOfBend_115 rfl ?_
  refine EV.iload dX0_tickOfBend_117 rfl ?_
  refine EV.iadd dX0_tickOfBend_119 ?_
  obtain ⟨x16, ex16, hf⟩ := pv_bo hf
  refine FV.stiw (L2 := [some (.inr (.inr (this))), some (.inl (a1)), some (.inl (a2)), some (.inl (r15)), some (.inl (x16)), some (.inl (v5)), some (.inl (v6)), some (.inl (v7)), none]) dX0_tickOfBend_120 (Nat.le_of_ble_eq_true rfl) ex16 rfl ?_
  obtain ⟨x17, ex17, hf⟩ := pv_bo hf
  refine FV.inc (L2 := [some (.inr (.inr (this))), some (.inl (a1)), some (.inl (a2)), some (.inl (r15)), some (.inl (x16)), some (.inl (x17)), some (.inl (v6)), some (.inl (v7)), none]) dX0_tickOfBend_122 rfl (Nat.le_of_ble_eq_true rfl) ex17 rfl ?_
  refine EV.goto (tgt := 8) dX0_tickOfBend_125 (by decide) ?_
  refine EV.weak (L2 := [some (.inr (.inr (this))), some (.inl (a1)), some (.inl (a2)), some (.inl (r15)), some (.inl (x16)), some (.inl (x17)), none, none, none]) (And.intro rfl (And.intro rfl (And.intro rfl (And.intro rfl (And.intro rfl (And.intro rfl trivial)))))) ?_
  exact hk8 _ _ _   hf

set_option maxHeartbeats 4000000 in
set_option maxRecDepth 20000 in
theorem tX0_tickOfBend_97 {d N : Nat}  {this : Nat} {a1 : Int} {a2 : Int} {s0 : Int} {h : pv_H} {r : Int} (hd : 3 ≤ d)  (mthis : this ∈ pv_l0)  (hf : fX0_tickOfBend_97 N  this a1 a2 s0 h = some r) : EV RX0 cX0_tickOfBend 9 (some .int) false d pv_SC (MC h) (some (.inl r)) 97 [none, none, none, none, none, none, none, none, none] [.inl (s0)] pv_SC (MC h) := by
  unfold fX0_tickOfBend_97 at hf
  exact FV.iretp dX0_tickOfBend_97 hf

set_option maxHeartbeats 4000000 in
set_option maxRecDepth 20000 in
theorem tX0_tickOfBend_8 {d N : Nat}  {this : Nat} {a1 : Int} {a2 : Int} {h : pv_H} {r : Int} (hd : 3 ≤ d)  (mthis : this ∈ pv_l0) : ∀ (n : Nat) (v3 : Int) (v4 : Int) (v5 : Int) , fX0_tickOfBend_8 N  this a1 a2 n v3 v4 v5 h = some r → EV RX0 cX0_tickOfBend 9 (some .int) false d pv_SC (MC h) (some (.inl r)) 8 [some (.inr (.inr (this))), some (.inl (a1)), some (.inl (a2)), some (.inl (v3)), some (.inl (v4)), some (.inl (v5)), none, none, none] [] pv_SC (MC h) := by
  intro n
  induction n with
  | zero =>
    intro v3 v4 v5   hf
    cases hf
  | succ n ih =>
    intro v3 v4 v5   hf
    rw [fX0_tickOfBend_8] at hf
    refine EV.iload dX0_tickOfBend_8 rfl ?_
    refine EV.aload_n dX0_tickOfBend_10 rfl rfl ?_
    refine FV.getI dX0_tickOfBend_11 (sl0_0 _ mthis) fl_0_21 rfl ?_
    refine EV.icmp_ge (tgt := 128) dX0_tickOfBend_14 (by decide) (fun q1 => ?_) (fun q1 => ?_)
    · have hf := pv_gp hf q1
      refine EV.iconst dX0_tickOfBend_128 (by decide) (by decide) ?_
      exact FV.iretp dX0_tickOfBend_129 hf
    · have hf := pv_gn hf q1
      refine EV.aload_n dX0_tickOfBend_17 rfl rfl ?_
      refine FV.getF (v := this + 3) dX0_tickOfBend_18 (sl0_0 _ mthis) fl_0_18 rfl (mu0_0 _ mthis _) (hl0_0_3 _ mthis) ?_
      refine EV.iload dX0_tickOfBend_21 rfl ?_
      obtain ⟨g2, hf⟩ := pv_gd hf
      refine FV.iald dX0_tickOfBend_23 (sl0_3 _ mthis) g2.1 g2.2 (j := (Int.toNat (v5))) rfl ?_
      refine EV.iload_n dX0_tickOfBend_24 rfl rfl ?_
      refine EV.imul dX0_tickOfBend_25 ?_
      obtain ⟨x3, ex3, hf⟩ := pv_bo hf
      refine FV.stiw (L2 := [some (.inr (.inr (this))), some (.inl (a1)), some (.inl (a2)), some (.inl (v3)), some (.inl (v4)), some (.inl (v5)), some (.inl (x3)), none, none]) dX0_tickOfBend_26 (Nat.le_of_ble_eq_true rfl) ex3 rfl ?_
      refine EV.aload_n dX0_tickOfBend_28 rfl rfl ?_
      refine EV.iload dX0_tickOfBend_29 rfl ?_
      refine EV.iload_n dX0_tickOfBend_31 rfl rfl ?_
      obtain ⟨r5, hc4, hf⟩ := pv_c1o hf
      refine EV.invV (As := [.inl (v5), .inl (a2)]) (st := []) (d1 := d - 1) (sh1 := pv_SC) (h1 := MC h) (r1 := (some (.inl r5))) dX0_tickOfBend_32 (sl0_0 _ mthis) (by decide) md_X0_byTick ml_X0_40 im_X0_byTick se_X0_byTick (tX0_byTick (by omega) (mthis) hc4) (by omega) rfl rfl (Nat.le_of_ble_eq_true rfl) ⟨[], (List.append_nil _).symm⟩ ?_
      refine EV.eqS (st2 := [.inl (r5)]) rfl ?_
      refine FV.stiw (L2 := [some (.inr (.inr (this))), some (.inl (a1)), some (.inl (a2)), some (.inl (v3)), some (.inl (v4)), some (.inl (v5)), some (.inl (x3)), some (.inl (r5)), none]) dX0_tickOfBend_35 (Nat.le_of_ble_eq_true rfl) rfl rfl ?_
      refine EV.aload_n dX0_tickOfBend_37 rfl rfl ?_
      refine FV.getF (v := this + 1) dX0_tickOfBend_38 (sl0_0 _ mthis) fl_0_9 rfl (mu0_0 _ mthis _) (hl0_0_1 _ mthis) ?_
      refine EV.iload dX0_tickOfBend_41 rfl ?_
      obtain ⟨g6, hf⟩ := pv_gd hf
      refine FV.iald dX0_tickOfBend_43 (sl0_1 _ mthis) g6.1 g6.2 (j := (Int.toNat (v5))) rfl ?_
      refine EV.bipush dX0_tickOfBend_44 (by decide) (by decide) ?_
      refine EV.icmp_ne (tgt := 98) dX0_tickOfBend_46 (by decide) (fun q7 => ?_) (fun q7 => ?_)
      · have hf := pv_gn hf q7
        refine EV.weak (L2 := [some (.inr (.inr (this))), some (.inl (a1)), some (.inl (a2)), some (.inl (v3)), some (.inl (v4)), some (.inl (v5)), some (.inl (x3)), some (.inl (r5)), none]) (And.intro rfl (And.intro rfl (And.intro rfl (And.intro rfl (And.intro rfl (And.intro rfl (And.intro rfl (And.intro rfl trivial)))))))) ?_
        exact tX0_tickOfBend_98 hd (ih) mthis  hf
      · have hf := pv_gp hf q7
        refine EV.iload dX0_tickOfBend_49 rfl ?_
        refine EV.if_le (tgt := 98) dX0_tickOfBend_51 (by decide) (fun q8 => ?_) (fun q8 => ?_)
        · have hf := pv_gp hf q8
          refine EV.weak (L2 := [some (.inr (.inr (this))), some (.inl (a1)), some (.inl (a2)), some (.inl (v3)), some (.inl (v4)), some (.inl (v5)), some (.inl (x3)), some (.inl (r5)), none]) (And.intro rfl (And.intro rfl (And.intro rfl (And.intro rfl (And.intro rfl (And.intro rfl (And.intro rfl (And.intro rfl trivial)))))))) ?_
          exact tX0_tickOfBend_98 hd (ih) mthis  hf
        · have hf := pv_gn hf q8
          refine EV.iload_n dX0_tickOfBend_54 rfl rfl ?_
          refine EV.iload dX0_tickOfBend_55 rfl ?_
          refine EV.iload dX0_tickOfBend_57 rfl ?_
          refine EV.imul dX0_tickOfBend_59 ?_
          refine EV.iadd dX0_tickOfBend_60 ?_
          refine EV.iload_n dX0_tickOfBend_61 rfl rfl ?_
          refine EV.icmp_lt (tgt := 98) dX0_tickOfBend_62 (by decide) (fun q9 => ?_) (fun q9 => ?_)
          · have hf := pv_gp hf q9
            refine EV.weak (L2 := [some (.inr (.inr (this))), some (.inl (a1)), some (.inl (a2)), some (.inl (v3)), some (.inl (v4)), some (.inl (v5)), some (.inl (x3)), some (.inl (r5)), none]) (And.intro rfl (And.intro rfl (And.intro rfl (And.intro rfl (And.intro rfl (And.intro rfl (And.intro rfl (And.intro rfl trivial)))))))) ?_
            exact tX0_tickOfBend_98 hd (ih) mthis  hf
          · have hf := pv_gn hf q9
            refine EV.iload dX0_tickOfBend_65 rfl ?_
            refine EV.iload_n dX0_tickOfBend_67 rfl rfl ?_
            refine EV.iload_n dX0_tickOfBend_68 rfl rfl ?_
            refine EV.isub dX0_tickOfBend_69 ?_
            refine EV.iload dX0_tickOfBend_70 rfl ?_
            refine EV.iadd dX0_tickOfBend_72 ?_
            refine EV.iconst dX0_tickOfBend_73 (by decide) (by decide) ?_
            refine EV.isub dX0_tickOfBend_74 ?_
            refine EV.iload dX0_tickOfBend_75 rfl ?_
            obtain ⟨g10, hf⟩ := pv_gd hf
            refine EV.idiv dX0_tickOfBend_77 g10 ?_
            refine EV.iadd dX0_tickOfBend_78 ?_
            refine EV.iconst dX0_tickOfBend_79 (by decide) (by decide) ?_
            refine EV.isub dX0_tickOfBend_80 ?_
            obtain ⟨x11, ex11, hf⟩ := pv_bo hf
            refine FV.stiw (L2 := [some (.inr (.inr (this))), some (.inl (a1)), some (.inl (a2)), some (.inl (v3)), some (.inl (v4)), some (.inl (v5)), some (.inl (x3)), some (.inl (r5)), some (.inl (x11))]) dX0_tickOfBend_81 (Nat.le_of_ble_eq_true rfl) ex11 rfl ?_
            refine EV.iload dX0_tickOfBend_83 rfl ?_
            refine EV.sipush dX0_tickOfBend_85 (by decide) (by decide) ?_
            refine EV.icmp_ge (tgt := 96) dX0_tickOfBend_88 (by decide) (fun q12 => ?_) (fun q12 => ?_)
            · have hf := pv_gp hf q12
              refine EV.iconst dX0_tickOfBend_96 (by decide) (by decide) ?_
              refine EV.weak (L2 := [none, none, none, none, none, none, none, none, none]) trivial ?_
              exact tX0_tickOfBend_97 hd  mthis  hf
            · have hf := pv_gn hf q12
              refine EV.iload dX0_tickOfBend_91 rfl ?_
              refine EV.goto (tgt := 97) dX0_tickOfBend_93 (by decide) ?_
              refine EV.weak (L2 := [none, none, none, none, none, none, none, none, none]) trivial ?_
              exact tX0_tickOfBend_97 hd  mthis  hf

set_option maxHeartbeats 4000000 in
set_option maxRecDepth 20000 in
theorem tX0_tickOfBend {d N : Nat} {this : Nat} {a1 : Int} {a2 : Int} {h : pv_H} {r : Int} (hd : 3 ≤ d) (mthis : this ∈ pv_l0) (hf : fX0_tickOfBend N this a1 a2 h = some r) : CALL yX0_tickOfBend cX0_tickOfBend 9 (some .int) d pv_SC (MC h) [.inr (.inr (this)), .inl (a1), .inl (a2)] pv_SC (MC h) (some (.inl r)) := by
  unfold fX0_tickOfBend at hf
  refine EV.call (own := RX0) (ini := false) rfl rfl (fun q => by cases q) ⟨[], (List.append_nil _).symm⟩ (Nat.le_of_ble_eq_true rfl) ?_
  refine EV.eqL (L2 := [some (.inr (.inr (this))), some (.inl (a1)), some (.inl (a2)), none, none, none, none, none, none]) rfl ?_
  refine EV.iconst dX0_tickOfBend_0 (by decide) (by decide) ?_
  refine FV.sti (L2 := [some (.inr (.inr (this))), some (.inl (a1)), some (.inl (a2)), some (.inl (0)), none, none, none, none, none]) dX0_tickOfBend_1 rfl (Nat.le_of_ble_eq_true rfl) rfl rfl ?_
  refine EV.iconst dX0_tickOfBend_2 (by decide) (by decide) ?_
  refine FV.stiw (L2 := [some (.inr (.inr (this))), some (.inl (a1)), some (.inl (a2)), some (.inl (0)), some (.inl (0)), none, none, none, none]) dX0_tickOfBend_3 (Nat.le_of_ble_eq_true rfl) rfl rfl ?_
  refine EV.iconst dX0_tickOfBend_5 (by decide) (by decide) ?_
  refine FV.stiw (L2 := [some (.inr (.inr (this))), some (.inl (a1)), some (.inl (a2)), some (.inl (0)), some (.inl (0)), some (.inl (0)), none, none, none]) dX0_tickOfBend_6 (Nat.le_of_ble_eq_true rfl) rfl rfl ?_
  refine EV.weak (L2 := [some (.inr (.inr (this))), some (.inl (a1)), some (.inl (a2)), some (.inl (0)), some (.inl (0)), some (.inl (0)), none, none, none]) (And.intro rfl (And.intro rfl (And.intro rfl (And.intro rfl (And.intro rfl (And.intro rfl trivial)))))) ?_
  exact tX0_tickOfBend_8 hd  mthis _ _ _ _   hf

noncomputable def fX2_begin (N : Nat) (this : Nat) (h : pv_H) : Option (pv_H) :=
  pv_b (pv_up h this 0 0) fun h1 => pv_b (pv_ur h1 (this + 1) (pv_cp (fun j => pv_t0.getD j 0) (h1 (this + 1)) (Int.toNat (0)) (Int.toNat (0)) (Int.toNat (8)))) fun h2 => some h2

set_option maxHeartbeats 4000000 in
set_option maxRecDepth 20000 in
theorem tX2_begin {d N : Nat} {this : Nat} {h h' : pv_H}  (hd : 2 ≤ d) (mthis : this ∈ pv_l2) (hf : fX2_begin N this h = some h') : CALL yX2_begin cX2_begin 1 none d pv_SC (MC h) [.inr (.inr (this))] pv_SC (MC h') none := by
  unfold fX2_begin at hf
  refine EV.call (own := RX2) (ini := false) rfl rfl (fun q => by cases q) ⟨[], (List.append_nil _).symm⟩ (Nat.le_of_ble_eq_true rfl) ?_
  refine EV.eqL (L2 := [some (.inr (.inr (this)))]) rfl ?_
  refine EV.aload_n dX2_begin_0 rfl rfl ?_
  refine EV.iconst dX2_begin_1 (by decide) (by decide) ?_
  obtain ⟨h1, eh1, hf⟩ := pv_bo hf
  refine FV.putI dX2_begin_2 (sl2_0 _ mthis) fl_2_18 rfl rfl eh1 ?_
  refine EV.gets0 dX2_begin_5 fn_X2_22 ?_
  refine EV.iconst dX2_begin_8 (by decide) (by decide) ?_
  refine EV.aload_n dX2_begin_9 rfl rfl ?_
  refine FV.getF (v := this + 1) dX2_begin_10 (sl2_0 _ mthis) fl_2_9 rfl (mu2_0 _ mthis _) (hl2_0_1 _ mthis) ?_
  refine EV.iconst dX2_begin_13 (by decide) (by decide) ?_
  refine EV.bipush dX2_begin_14 (by decide) (by decide) ?_
  obtain ⟨h2, eh2, hf⟩ := pv_bo hf
  refine FV.copyT dX2_begin_16 ml_X2_25 (by omega) (Nat.le_of_ble_eq_true rfl) (sl2_1 _ mthis) (by decide) (by decide) (by decide) (by decide) (by decide) eh2 ?_
  exact FV.vret dX2_begin_19 hf

noncomputable def fX2_copyFrom (N : Nat) (this : Nat) (a1 : Nat) (h : pv_H) : Option (pv_H) :=
  pv_b (pv_up h this 0 (h a1 0)) fun h1 => pv_b (pv_ur h1 (this + 1) (pv_cp (h1 (a1 + 1)) (h1 (this + 1)) (Int.toNat (0)) (Int.toNat (0)) (Int.toNat (8)))) fun h2 => some h2

set_option maxHeartbeats 4000000 in
set_option maxRecDepth 20000 in
theorem tX2_copyFrom {d N : Nat} {this : Nat} {a1 : Nat} {h h' : pv_H}  (hd : 2 ≤ d) (mthis : this ∈ pv_l2) (ma1 : a1 ∈ pv_l2) (hf : fX2_copyFrom N this a1 h = some h') : CALL yX2_copyFrom cX2_copyFrom 2 none d pv_SC (MC h) [.inr (.inr (this)), .inr (.inr (a1))] pv_SC (MC h') none := by
  unfold fX2_copyFrom at hf
  refine EV.call (own := RX2) (ini := false) rfl rfl (fun q => by cases q) ⟨[], (List.append_nil _).symm⟩ (Nat.le_of_ble_eq_true rfl) ?_
  refine EV.eqL (L2 := [some (.inr (.inr (this))), some (.inr (.inr (a1)))]) rfl ?_
  refine EV.aload_n dX2_copyFrom_0 rfl rfl ?_
  refine EV.aload_n dX2_copyFrom_1 rfl rfl ?_
  refine FV.getI dX2_copyFrom_2 (sl2_0 _ ma1) fl_2_18 rfl ?_
  obtain ⟨h1, eh1, hf⟩ := pv_bo hf
  refine FV.putI dX2_copyFrom_5 (sl2_0 _ mthis) fl_2_18 rfl rfl eh1 ?_
  refine EV.aload_n dX2_copyFrom_8 rfl rfl ?_
  refine FV.getF (v := a1 + 1) dX2_copyFrom_9 (sl2_0 _ ma1) fl_2_9 rfl (mu2_0 _ ma1 _) (hl2_0_1 _ ma1) ?_
  refine EV.iconst dX2_copyFrom_12 (by decide) (by decide) ?_
  refine EV.aload_n dX2_copyFrom_13 rfl rfl ?_
  refine FV.getF (v := this + 1) dX2_copyFrom_14 (sl2_0 _ mthis) fl_2_9 rfl (mu2_0 _ mthis _) (hl2_0_1 _ mthis) ?_
  refine EV.iconst dX2_copyFrom_17 (by decide) (by decide) ?_
  refine EV.bipush dX2_copyFrom_18 (by decide) (by decide) ?_
  obtain ⟨h2, eh2, hf⟩ := pv_bo hf
  refine FV.copy dX2_copyFrom_20 ml_X2_25 (by omega) (Nat.le_of_ble_eq_true rfl) (sl2_1 _ ma1) (sl2_1 _ mthis) (by decide) (by decide) (by decide) (by decide) (by decide) eh2 ?_
  exact FV.vret dX2_copyFrom_23 hf

noncomputable def fX2_offBy_30 (N : Nat)  (this : Nat) (a1 : Int) (s0 : Int) (h : pv_H) : Option (Int) :=
  some (s0)

noncomputable def fX2_offBy (N : Nat) (this : Nat) (a1 : Int) (h : pv_H) : Option (Int) :=
  if (h (this + 1) 2) < (h (this + 1) 3) then (fX2_offBy_30 N  this a1 (0) h) else (fX2_offBy_30 N  this a1 (pv_w (Int.tdiv (pv_w (a1 * (h (this + 1) 4))) 100)) h)

set_option maxHeartbeats 4000000 in
set_option maxRecDepth 20000 in
theorem tX2_offBy_30 {d N : Nat}  {this : Nat} {a1 : Int} {s0 : Int} {h : pv_H} {r : Int} (hd : 1 ≤ d)  (mthis : this ∈ pv_l2)  (hf : fX2_offBy_30 N  this a1 s0 h = some r) : EV RX2 cX2_offBy 2 (some .int) false d pv_SC (MC h) (some (.inl r)) 30 [none, none] [.inl (s0)] pv_SC (MC h) := by
  unfold fX2_offBy_30 at hf
  exact FV.iretp dX2_offBy_30 hf

set_option maxHeartbeats 4000000 in
set_option maxRecDepth 20000 in
theorem tX2_offBy {d N : Nat} {this : Nat} {a1 : Int} {h : pv_H} {r : Int} (hd : 1 ≤ d) (mthis : this ∈ pv_l2) (hf : fX2_offBy N this a1 h = some r) : CALL yX2_offBy cX2_offBy 2 (some .int) d pv_SC (MC h) [.inr (.inr (this)), .inl (a1)] pv_SC (MC h) (some (.inl r)) := by
  unfold fX2_offBy at hf
  refine EV.call (own := RX2) (ini := false) rfl rfl (fun q => by cases q) ⟨[], (List.append_nil _).symm⟩ (Nat.le_of_ble_eq_true rfl) ?_
  refine EV.eqL (L2 := [some (.inr (.inr (this))), some (.inl (a1))]) rfl ?_
  refine EV.aload_n dX2_offBy_0 rfl rfl ?_
  refine FV.getF (v := this + 1) dX2_offBy_1 (sl2_0 _ mthis) fl_2_9 rfl (mu2_0 _ mthis _) (hl2_0_1 _ mthis) ?_
  refine EV.iconst dX2_offBy_4 (by decide) (by decide) ?_
  refine FV.iald dX2_offBy_5 (sl2_1 _ mthis) (by decide) (by decide) (j := 3) rfl ?_
  refine EV.aload_n dX2_offBy_6 rfl rfl ?_
  refine FV.getF (v := this + 1) dX2_offBy_7 (sl2_0 _ mthis) fl_2_9 rfl (mu2_0 _ mthis _) (hl2_0_1 _ mthis) ?_
  refine EV.iconst dX2_offBy_10 (by decide) (by decide) ?_
  refine FV.iald dX2_offBy_11 (sl2_1 _ mthis) (by decide) (by decide) (j := 2) rfl ?_
  refine EV.icmp_gt (tgt := 29) dX2_offBy_12 (by decide) (fun q1 => ?_) (fun q1 => ?_)
  · have hf := pv_gp hf q1
    refine EV.iconst dX2_offBy_29 (by decide) (by decide) ?_
    refine EV.weak (L2 := [none, none]) trivial ?_
    exact tX2_offBy_30 hd  mthis  hf
  · have hf := pv_gn hf q1
    refine EV.iload_n dX2_offBy_15 rfl rfl ?_
    refine EV.aload_n dX2_offBy_16 rfl rfl ?_
    refine FV.getF (v := this + 1) dX2_offBy_17 (sl2_0 _ mthis) fl_2_9 rfl (mu2_0 _ mthis _) (hl2_0_1 _ mthis) ?_
    refine EV.iconst dX2_offBy_20 (by decide) (by decide) ?_
    refine FV.iald dX2_offBy_21 (sl2_1 _ mthis) (by decide) (by decide) (j := 4) rfl ?_
    refine EV.imul dX2_offBy_22 ?_
    refine EV.bipush dX2_offBy_23 (by decide) (by decide) ?_
    refine EV.idiv dX2_offBy_25 (by decide) ?_
    refine EV.goto (tgt := 30) dX2_offBy_26 (by decide) ?_
    refine EV.weak (L2 := [none, none]) trivial ?_
    exact tX2_offBy_30 hd  mthis  hf

noncomputable def fX2_hitOn_40 (N : Nat)  (this : Nat) (a1 : Int) (a2 : Int) (v3 : Int) (h : pv_H) : Option (Int) :=
  some (v3)

noncomputable def fX2_hitOn_22 (N : Nat)  (this : Nat) (a1 : Int) (a2 : Int) (v3 : Int) (h : pv_H) : Option (Int) :=
  if a1 = 2 then (pv_b (pv_w (Int.tdiv (pv_w (v3 * (h (this + 1) 6))) 100)) fun x4 => fX2_hitOn_40 N  this a1 a2 (x4) h) else (fX2_hitOn_40 N  this a1 a2 (v3) h)

noncomputable def fX2_hitOn (N : Nat) (this : Nat) (a1 : Int) (a2 : Int) (h : pv_H) : Option (Int) :=
  if a1 = 1 then (fX2_hitOn_22 N  this a1 a2 (a2) h) else (pv_b (pv_w (Int.tdiv (pv_w (a2 * (pv_w (100 - (h (this + 1) 1))))) 100)) fun x2 => fX2_hitOn_22 N  this a1 a2 (x2) h)

set_option maxHeartbeats 4000000 in
set_option maxRecDepth 20000 in
theorem tX2_hitOn_40 {d N : Nat}  {this : Nat} {a1 : Int} {a2 : Int} {v3 : Int} {h : pv_H} {r : Int} (hd : 1 ≤ d)  (mthis : this ∈ pv_l2)  (hf : fX2_hitOn_40 N  this a1 a2 v3 h = some r) : EV RX2 cX2_hitOn 4 (some .int) false d pv_SC (MC h) (some (.inl r)) 40 [none, none, none, some (.inl (v3))] [] pv_SC (MC h) := by
  unfold fX2_hitOn_40 at hf
  refine EV.iload_n dX2_hitOn_40 rfl rfl ?_
  exact FV.iretp dX2_hitOn_41 hf

set_option maxHeartbeats 4000000 in
set_option maxRecDepth 20000 in
theorem tX2_hitOn_22 {d N : Nat}  {this : Nat} {a1 : Int} {a2 : Int} {v3 : Int} {h : pv_H} {r : Int} (hd : 1 ≤ d)  (mthis : this ∈ pv_l2)  (hf : fX2_hitOn_22 N  this a1 a2 v3 h = some r) : EV RX2 cX2_hitOn 4 (some .int) false d pv_SC (MC h) (some (.inl r)) 22 [some (.inr (.inr (this))), some (.inl (a1)), none, some (.inl (v3))] [] pv_SC (MC h) := by
  unfold fX2_hitOn_22 at hf
  refine EV.iload_n dX2_hitOn_22 rfl rfl ?_
  refine EV.iconst dX2_hitOn_23 (by decide) (by decide) ?_
  refine EV.icmp_ne (tgt := 40) dX2_hitOn_24 (by decide) (fun q3 => ?_) (fun q3 => ?_)
  · have hf := pv_gn hf q3
    refine EV.weak (L2 := [none, none, none, some (.inl (v3))]) (And.intro rfl trivial) ?_
    exact tX2_hitOn_40 hd  mthis  hf
  · have hf := pv_gp hf q3
    refine EV.iload_n dX2_hitOn_27 rfl rfl ?_
    refine EV.aload_n dX2_hitOn_28 rfl rfl ?_
    refine FV.getF (v := this + 1) dX2_hitOn_29 (sl2_0 _ mthis) fl_2_9 rfl (mu2_0 _ mthis _) (hl2_0_1 _ mthis) ?_
    refine EV.bipush dX2_hitOn_32 (by decide) (by decide) ?_
    refine FV.iald dX2_hitOn_34 (sl2_1 _ mthis) (by decide) (by decide) (j := 6) rfl ?_
    refine EV.imul dX2_hitOn_35 ?_
    refine EV.bipush dX2_hitOn_36 (by decide) (by decide) ?_
    refine EV.idiv dX2_hitOn_38 (by decide) ?_
    obtain ⟨x4, ex4, hf⟩ := pv_bo hf
    refine FV.sti (L2 := [some (.inr (.inr (this))), some (.inl (a1)), none, some (.inl (x4))]) dX2_hitOn_39 rfl (Nat.le_of_ble_eq_true rfl) ex4 rfl ?_
    refine EV.weak (L2 := [none, none, none, some (.inl (x4))]) (And.intro rfl trivial) ?_
    exact tX2_hitOn_40 hd  mthis  hf

set_option maxHeartbeats 4000000 in
set_option maxRecDepth 20000 in
theorem tX2_hitOn {d N : Nat} {this : Nat} {a1 : Int} {a2 : Int} {h : pv_H} {r : Int} (hd : 1 ≤ d) (mthis : this ∈ pv_l2) (hf : fX2_hitOn N this a1 a2 h = some r) : CALL yX2_hitOn cX2_hitOn 4 (some .int) d pv_SC (MC h) [.inr (.inr (this)), .inl (a1), .inl (a2)] pv_SC (MC h) (some (.inl r)) := by
  unfold fX2_hitOn at hf
  refine EV.call (own := RX2) (ini := false) rfl rfl (fun q => by cases q) ⟨[], (List.append_nil _).symm⟩ (Nat.le_of_ble_eq_true rfl) ?_
  refine EV.eqL (L2 := [some (.inr (.inr (this))), some (.inl (a1)), some (.inl (a2)), none]) rfl ?_
  refine EV.iload_n dX2_hitOn_0 rfl rfl ?_
  refine FV.sti (L2 := [some (.inr (.inr (this))), some (.inl (a1)), some (.inl (a2)), some (.inl (a2))]) dX2_hitOn_1 rfl (Nat.le_of_ble_eq_true rfl) rfl rfl ?_
  refine EV.iload_n dX2_hitOn_2 rfl rfl ?_
  refine EV.iconst dX2_hitOn_3 (by decide) (by decide) ?_
  refine EV.icmp_eq (tgt := 22) dX2_hitOn_4 (by decide) (fun q1 => ?_) (fun q1 => ?_)
  · have hf := pv_gp hf q1
    refine EV.weak (L2 := [some (.inr (.inr (this))), some (.inl (a1)), none, some (.inl (a2))]) (And.intro rfl (And.intro rfl (And.intro rfl trivial))) ?_
    exact tX2_hitOn_22 hd  mthis  hf
  · have hf := pv_gn hf q1
    refine EV.iload_n dX2_hitOn_7 rfl rfl ?_
    refine EV.bipush dX2_hitOn_8 (by decide) (by decide) ?_
    refine EV.aload_n dX2_hitOn_10 rfl rfl ?_
    refine FV.getF (v := this + 1) dX2_hitOn_11 (sl2_0 _ mthis) fl_2_9 rfl (mu2_0 _ mthis _) (hl2_0_1 _ mthis) ?_
    refine EV.iconst dX2_hitOn_14 (by decide) (by decide) ?_
    refine FV.iald dX2_hitOn_15 (sl2_1 _ mthis) (by decide) (by decide) (j := 1) rfl ?_
    refine EV.isub dX2_hitOn_16 ?_
    refine EV.imul dX2_hitOn_17 ?_
    refine EV.bipush dX2_hitOn_18 (by decide) (by decide) ?_
    refine EV.idiv dX2_hitOn_20 (by decide) ?_
    obtain ⟨x2, ex2, hf⟩ := pv_bo hf
    refine FV.sti (L2 := [some (.inr (.inr (this))), some (.inl (a1)), some (.inl (a2)), some (.inl (x2))]) dX2_hitOn_21 rfl (Nat.le_of_ble_eq_true rfl) ex2 rfl ?_
    refine EV.weak (L2 := [some (.inr (.inr (this))), some (.inl (a1)), none, some (.inl (x2))]) (And.intro rfl (And.intro rfl (And.intro rfl trivial))) ?_
    exact tX2_hitOn_22 hd  mthis  hf

noncomputable def fX7_copyFrom (N : Nat) (this : Nat) (a1 : Nat) (h : pv_H) : Option (pv_H) :=
  pv_b (pv_up h this 0 (h a1 0)) fun h1 => pv_b (pv_ur h1 (this + 1) (pv_cp (h1 (a1 + 1)) (h1 (this + 1)) (Int.toNat (0)) (Int.toNat (0)) (Int.toNat (8)))) fun h2 => pv_b (pv_ur h2 (this + 2) (pv_cp (h2 (a1 + 2)) (h2 (this + 2)) (Int.toNat (0)) (Int.toNat (0)) (Int.toNat (240)))) fun h3 => pv_b (pv_ur h3 (this + 3) (pv_cp (h3 (a1 + 3)) (h3 (this + 3)) (Int.toNat (0)) (Int.toNat (0)) (Int.toNat (1200)))) fun h4 => pv_b (pv_ur h4 (this + 4) (pv_cp (h4 (a1 + 4)) (h4 (this + 4)) (Int.toNat (0)) (Int.toNat (0)) (Int.toNat (60)))) fun h5 => some h5

set_option maxHeartbeats 4000000 in
set_option maxRecDepth 20000 in
theorem tX7_copyFrom {d N : Nat} {this : Nat} {a1 : Nat} {h h' : pv_H}  (hd : 2 ≤ d) (mthis : this ∈ pv_l7) (ma1 : a1 ∈ pv_l7) (hf : fX7_copyFrom N this a1 h = some h') : CALL yX7_copyFrom cX7_copyFrom 2 none d pv_SC (MC h) [.inr (.inr (this)), .inr (.inr (a1))] pv_SC (MC h') none := by
  unfold fX7_copyFrom at hf
  refine EV.call (own := RX7) (ini := false) rfl rfl (fun q => by cases q) ⟨[], (List.append_nil _).symm⟩ (Nat.le_of_ble_eq_true rfl) ?_
  refine EV.eqL (L2 := [some (.inr (.inr (this))), some (.inr (.inr (a1)))]) rfl ?_
  refine EV.aload_n dX7_copyFrom_0 rfl rfl ?_
  refine EV.aload_n dX7_copyFrom_1 rfl rfl ?_
  refine FV.getI dX7_copyFrom_2 (sl7_0 _ ma1) fl_7_24 rfl ?_
  obtain ⟨h1, eh1, hf⟩ := pv_bo hf
  refine FV.putI dX7_copyFrom_5 (sl7_0 _ mthis) fl_7_24 rfl rfl eh1 ?_
  refine EV.aload_n dX7_copyFrom_8 rfl rfl ?_
  refine FV.getF (v := a1 + 1) dX7_copyFrom_9 (sl7_0 _ ma1) fl_7_9 rfl (mu7_0 _ ma1 _) (hl7_0_1 _ ma1) ?_
  refine EV.iconst dX7_copyFrom_12 (by decide) (by decide) ?_
  refine EV.aload_n dX7_copyFrom_13 rfl rfl ?_
  refine FV.getF (v := this + 1) dX7_copyFrom_14 (sl7_0 _ mthis) fl_7_9 rfl (mu7_0 _ mthis _) (hl7_0_1 _ mthis) ?_
  refine EV.iconst dX7_copyFrom_17 (by decide) (by decide) ?_
  refine EV.bipush dX7_copyFrom_18 (by decide) (by decide) ?_
  obtain ⟨h2, eh2, hf⟩ := pv_bo hf
  refine FV.copy dX7_copyFrom_20 ml_X7_28 (by omega) (Nat.le_of_ble_eq_true rfl) (sl7_1 _ ma1) (sl7_1 _ mthis) (by decide) (by decide) (by decide) (by decide) (by decide) eh2 ?_
  refine EV.aload_n dX7_copyFrom_23 rfl rfl ?_
  refine FV.getF (v := a1 + 2) dX7_copyFrom_24 (sl7_0 _ ma1) fl_7_15 rfl (mu7_0 _ ma1 _) (hl7_0_2 _ ma1) ?_
  refine EV.iconst dX7_copyFrom_27 (by decide) (by decide) ?_
  refine EV.aload_n dX7_copyFrom_28 rfl rfl ?_
  refine FV.getF (v := this + 2) dX7_copyFrom_29 (sl7_0 _ mthis) fl_7_15 rfl (mu7_0 _ mthis _) (hl7_0_2 _ mthis) ?_
  refine EV.iconst dX7_copyFrom_32 (by decide) (by decide) ?_
  refine EV.sipush dX7_copyFrom_33 (by decide) (by decide) ?_
  obtain ⟨h3, eh3, hf⟩ := pv_bo hf
  refine FV.copy dX7_copyFrom_36 ml_X7_28 (by omega) (Nat.le_of_ble_eq_true rfl) (sl7_2 _ ma1) (sl7_2 _ mthis) (by decide) (by decide) (by decide) (by decide) (by decide) eh3 ?_
  refine EV.aload_n dX7_copyFrom_39 rfl rfl ?_
  refine FV.getF (v := a1 + 3) dX7_copyFrom_40 (sl7_0 _ ma1) fl_7_18 rfl (mu7_0 _ ma1 _) (hl7_0_3 _ ma1) ?_
  refine EV.iconst dX7_copyFrom_43 (by decide) (by decide) ?_
  refine EV.aload_n dX7_copyFrom_44 rfl rfl ?_
  refine FV.getF (v := this + 3) dX7_copyFrom_45 (sl7_0 _ mthis) fl_7_18 rfl (mu7_0 _ mthis _) (hl7_0_3 _ mthis) ?_
  refine EV.iconst dX7_copyFrom_48 (by decide) (by decide) ?_
  refine EV.sipush dX7_copyFrom_49 (by decide) (by decide) ?_
  obtain ⟨h4, eh4, hf⟩ := pv_bo hf
  refine FV.copy dX7_copyFrom_52 ml_X7_28 (by omega) (Nat.le_of_ble_eq_true rfl) (sl7_3 _ ma1) (sl7_3 _ mthis) (by decide) (by decide) (by decide) (by decide) (by decide) eh4 ?_
  refine EV.aload_n dX7_copyFrom_55 rfl rfl ?_
  refine FV.getF (v := a1 + 4) dX7_copyFrom_56 (sl7_0 _ ma1) fl_7_21 rfl (mu7_0 _ ma1 _) (hl7_0_4 _ ma1) ?_
  refine EV.iconst dX7_copyFrom_59 (by decide) (by decide) ?_
  refine EV.aload_n dX7_copyFrom_60 rfl rfl ?_
  refine FV.getF (v := this + 4) dX7_copyFrom_61 (sl7_0 _ mthis) fl_7_21 rfl (mu7_0 _ mthis _) (hl7_0_4 _ mthis) ?_
  refine EV.iconst dX7_copyFrom_64 (by decide) (by decide) ?_
  refine EV.bipush dX7_copyFrom_65 (by decide) (by decide) ?_
  obtain ⟨h5, eh5, hf⟩ := pv_bo hf
  refine FV.copy dX7_copyFrom_67 ml_X7_28 (by omega) (Nat.le_of_ble_eq_true rfl) (sl7_4 _ ma1) (sl7_4 _ mthis) (by decide) (by decide) (by decide) (by decide) (by decide) eh5 ?_
  exact FV.vret dX7_copyFrom_70 hf

noncomputable def fX7_cellOf (N : Nat) (this : Nat) (a1 : Int) (h : pv_H) : Option (Int) :=
  if 0 ≤ pv_w (0 + a1) ∧ pv_w (0 + a1) < 240 then (some (h (this + 2) (Int.toNat (pv_w (0 + a1))))) else none

set_option maxHeartbeats 4000000 in
set_option maxRecDepth 20000 in
theorem tX7_cellOf {d N : Nat} {this : Nat} {a1 : Int} {h : pv_H} {r : Int} (hd : 1 ≤ d) (mthis : this ∈ pv_l7) (hf : fX7_cellOf N this a1 h = some r) : CALL yX7_cellOf cX7_cellOf 2 (some .int) d pv_SC (MC h) [.inr (.inr (this)), .inl (a1)] pv_SC (MC h) (some (.inl r)) := by
  unfold fX7_cellOf at hf
  refine EV.call (own := RX7) (ini := false) rfl rfl (fun q => by cases q) ⟨[], (List.append_nil _).symm⟩ (Nat.le_of_ble_eq_true rfl) ?_
  refine EV.eqL (L2 := [some (.inr (.inr (this))), some (.inl (a1))]) rfl ?_
  refine EV.aload_n dX7_cellOf_0 rfl rfl ?_
  refine FV.getF (v := this + 2) dX7_cellOf_1 (sl7_0 _ mthis) fl_7_15 rfl (mu7_0 _ mthis _) (hl7_0_2 _ mthis) ?_
  refine EV.iconst dX7_cellOf_4 (by decide) (by decide) ?_
  refine EV.iload_n dX7_cellOf_5 rfl rfl ?_
  refine EV.iadd dX7_cellOf_6 ?_
  obtain ⟨g1, hf⟩ := pv_gd hf
  refine FV.iald dX7_cellOf_7 (sl7_2 _ mthis) g1.1 g1.2 (j := (Int.toNat (pv_w (0 + a1)))) rfl ?_
  exact FV.iretp dX7_cellOf_8 hf

noncomputable def fX7_tickOf (N : Nat) (this : Nat) (a1 : Int) (h : pv_H) : Option (Int) :=
  if 0 ≤ pv_w (60 + a1) ∧ pv_w (60 + a1) < 240 then (some (h (this + 2) (Int.toNat (pv_w (60 + a1))))) else none

set_option maxHeartbeats 4000000 in
set_option maxRecDepth 20000 in
theorem tX7_tickOf {d N : Nat} {this : Nat} {a1 : Int} {h : pv_H} {r : Int} (hd : 1 ≤ d) (mthis : this ∈ pv_l7) (hf : fX7_tickOf N this a1 h = some r) : CALL yX7_tickOf cX7_tickOf 2 (some .int) d pv_SC (MC h) [.inr (.inr (this)), .inl (a1)] pv_SC (MC h) (some (.inl r)) := by
  unfold fX7_tickOf at hf
  refine EV.call (own := RX7) (ini := false) rfl rfl (fun q => by cases q) ⟨[], (List.append_nil _).symm⟩ (Nat.le_of_ble_eq_true rfl) ?_
  refine EV.eqL (L2 := [some (.inr (.inr (this))), some (.inl (a1))]) rfl ?_
  refine EV.aload_n dX7_tickOf_0 rfl rfl ?_
  refine FV.getF (v := this + 2) dX7_tickOf_1 (sl7_0 _ mthis) fl_7_15 rfl (mu7_0 _ mthis _) (hl7_0_2 _ mthis) ?_
  refine EV.bipush dX7_tickOf_4 (by decide) (by decide) ?_
  refine EV.iload_n dX7_tickOf_6 rfl rfl ?_
  refine EV.iadd dX7_tickOf_7 ?_
  obtain ⟨g1, hf⟩ := pv_gd hf
  refine FV.iald dX7_tickOf_8 (sl7_2 _ mthis) g1.1 g1.2 (j := (Int.toNat (pv_w (60 + a1)))) rfl ?_
  exact FV.iretp dX7_tickOf_9 hf

noncomputable def fX7_kindOf (N : Nat) (this : Nat) (a1 : Int) (h : pv_H) : Option (Int) :=
  if 0 ≤ pv_w (120 + a1) ∧ pv_w (120 + a1) < 240 then (some (h (this + 2) (Int.toNat (pv_w (120 + a1))))) else none

set_option maxHeartbeats 4000000 in
set_option maxRecDepth 20000 in
theorem tX7_kindOf {d N : Nat} {this : Nat} {a1 : Int} {h : pv_H} {r : Int} (hd : 1 ≤ d) (mthis : this ∈ pv_l7) (hf : fX7_kindOf N this a1 h = some r) : CALL yX7_kindOf cX7_kindOf 2 (some .int) d pv_SC (MC h) [.inr (.inr (this)), .inl (a1)] pv_SC (MC h) (some (.inl r)) := by
  unfold fX7_kindOf at hf
  refine EV.call (own := RX7) (ini := false) rfl rfl (fun q => by cases q) ⟨[], (List.append_nil _).symm⟩ (Nat.le_of_ble_eq_true rfl) ?_
  refine EV.eqL (L2 := [some (.inr (.inr (this))), some (.inl (a1))]) rfl ?_
  refine EV.aload_n dX7_kindOf_0 rfl rfl ?_
  refine FV.getF (v := this + 2) dX7_kindOf_1 (sl7_0 _ mthis) fl_7_15 rfl (mu7_0 _ mthis _) (hl7_0_2 _ mthis) ?_
  refine EV.bipush dX7_kindOf_4 (by decide) (by decide) ?_
  refine EV.iload_n dX7_kindOf_6 rfl rfl ?_
  refine EV.iadd dX7_kindOf_7 ?_
  obtain ⟨g1, hf⟩ := pv_gd hf
  refine FV.iald dX7_kindOf_8 (sl7_2 _ mthis) g1.1 g1.2 (j := (Int.toNat (pv_w (120 + a1)))) rfl ?_
  exact FV.iretp dX7_kindOf_9 hf

noncomputable def fX7_breaksOfKind_26 (N : Nat) (k4 : Int → Int → pv_H → Option (Int)) (this : Nat) (a1 : Int) (v2 : Int) (v3 : Int) (h : pv_H) : Option (Int) :=
  pv_b (pv_w (v3 + 1)) fun x6 => k4 (v2) (x6) h

noncomputable def fX7_breaksOfKind_4 (N : Nat)  (this : Nat) (a1 : Int) : Nat → Int → Int → pv_H → Option (Int)
  | 0, _, _, _ => none
  | n + 1, v2, v3, h => if (h (this + 1) 0) ≤ v3 then (some (v2)) else (pv_c1 (fX7_kindOf N this v3 h) fun r3 => if r3 = a1 then (pv_b (pv_w (v2 + 1)) fun x5 => fX7_breaksOfKind_26 N (fun v2_ v3_ hh => fX7_breaksOfKind_4 N  this a1 n v2_ v3_ hh) this a1 (x5) (v3) h) else (fX7_breaksOfKind_26 N (fun v2_ v3_ hh => fX7_breaksOfKind_4 N  this a1 n v2_ v3_ hh) this a1 (v2) (v3) h))

noncomputable def fX7_breaksOfKind (N : Nat) (this : Nat) (a1 : Int) (h : pv_H) : Option (Int) :=
  fX7_breaksOfKind_4 N  this a1 N (0) (0) h

set_option maxHeartbeats 4000000 in
set_option maxRecDepth 20000 in
theorem tX7_breaksOfKind_26 {d N : Nat} {k4 : Int → Int → pv_H → Option (Int)} {this : Nat} {a1 : Int} {v2 : Int} {v3 : Int} {h : pv_H} {r : Int} (hd : 2 ≤ d) (hk4 : ∀ (v2 : Int) (v3 : Int) , k4 v2 v3 h = some r → EV RX7 cX7_breaksOfKind 4 (some .int) false d pv_SC (MC h) (some (.inl r)) 4 [some (.inr (.inr (this))), some (.inl (a1)), some (.inl (v2)), some (.inl (v3))] [] pv_SC (MC h)) (mthis : this ∈ pv_l7)  (hf : fX7_breaksOfKind_26 N k4 this a1 v2 v3 h = some r) : EV RX7 cX7_breaksOfKind 4 (some .int) false d pv_SC (MC h) (some (.inl r)) 26 [some (.inr (.inr (this))), some (.inl (a1)), some (.inl (v2)), some (.inl (v3))] [] pv_SC (MC h) := by
  unfold fX7_breaksOfKind_26 at hf
  obtain ⟨x6, ex6, hf⟩ := pv_bo hf
  refine FV.inc (L2 := [some (.inr (.inr (this))), some (.inl (a1)), some (.inl (v2)), some (.inl (x6))]) dX7_breaksOfKind_26 rfl (Nat.le_of_ble_eq_true rfl) ex6 rfl ?_
  refine EV.goto (tgt := 4) dX7_breaksOfKind_29 (by decide) ?_
  refine EV.weak (L2 := [some (.inr (.inr (this))), some (.inl (a1)), some (.inl (v2)), some (.inl (x6))]) (And.intro rfl (And.intro rfl (And.intro rfl (And.intro rfl trivial)))) ?_
  exact hk4 _ _   hf

set_option maxHeartbeats 4000000 in
set_option maxRecDepth 20000 in
theorem tX7_breaksOfKind_4 {d N : Nat}  {this : Nat} {a1 : Int} {h : pv_H} {r : Int} (hd : 2 ≤ d)  (mthis : this ∈ pv_l7) : ∀ (n : Nat) (v2 : Int) (v3 : Int) , fX7_breaksOfKind_4 N  this a1 n v2 v3 h = some r → EV RX7 cX7_breaksOfKind 4 (some .int) false d pv_SC (MC h) (some (.inl r)) 4 [some (.inr (.inr (this))), some (.inl (a1)), some (.inl (v2)), some (.inl (v3))] [] pv_SC (MC h) := by
  intro n
  induction n with
  | zero =>
    intro v2 v3   hf
    cases hf
  | succ n ih =>
    intro v2 v3   hf
    rw [fX7_breaksOfKind_4] at hf
    refine EV.iload_n dX7_breaksOfKind_4 rfl rfl ?_
    refine EV.aload_n dX7_breaksOfKind_5 rfl rfl ?_
    refine FV.getF (v := this + 1) dX7_breaksOfKind_6 (sl7_0 _ mthis) fl_7_9 rfl (mu7_0 _ mthis _) (hl7_0_1 _ mthis) ?_
    refine EV.iconst dX7_breaksOfKind_9 (by decide) (by decide) ?_
    refine FV.iald dX7_breaksOfKind_10 (sl7_1 _ mthis) (by decide) (by decide) (j := 0) rfl ?_
    refine EV.icmp_ge (tgt := 32) dX7_breaksOfKind_11 (by decide) (fun q1 => ?_) (fun q1 => ?_)
    · have hf := pv_gp hf q1
      refine EV.iload_n dX7_breaksOfKind_32 rfl rfl ?_
      exact FV.iretp dX7_breaksOfKind_33 hf
    · have hf := pv_gn hf q1
      refine EV.aload_n dX7_breaksOfKind_14 rfl rfl ?_
      refine EV.iload_n dX7_breaksOfKind_15 rfl rfl ?_
      obtain ⟨r3, hc2, hf⟩ := pv_c1o hf
      refine EV.invV (As := [.inl (v3)]) (st := []) (d1 := d - 1) (sh1 := pv_SC) (h1 := MC h) (r1 := (some (.inl r3))) dX7_breaksOfKind_16 (sl7_0 _ mthis) (by decide) md_X7_kindOf ml_X7_34 im_X7_kindOf se_X7_kindOf (tX7_kindOf (by omega) (mthis) hc2) (by omega) rfl rfl (Nat.le_of_ble_eq_true rfl) ⟨[], (List.append_nil _).symm⟩ ?_
      refine EV.eqS (st2 := [.inl (r3)]) rfl ?_
      refine EV.iload_n dX7_breaksOfKind_19 rfl rfl ?_
      refine EV.icmp_ne (tgt := 26) dX7_breaksOfKind_20 (by decide) (fun q4 => ?_) (fun q4 => ?_)
      · have hf := pv_gn hf q4
        refine EV.weak (L2 := [some (.inr (.inr (this))), some (.inl (a1)), some (.inl (v2)), some (.inl (v3))]) (And.intro rfl (And.intro rfl (And.intro rfl (And.intro rfl trivial)))) ?_
        exact tX7_breaksOfKind_26 hd (ih) mthis  hf
      · have hf := pv_gp hf q4
        obtain ⟨x5, ex5, hf⟩ := pv_bo hf
        refine FV.inc (L2 := [some (.inr (.inr (this))), some (.inl (a1)), some (.inl (x5)), some (.inl (v3))]) dX7_breaksOfKind_23 rfl (Nat.le_of_ble_eq_true rfl) ex5 rfl ?_
        refine EV.weak (L2 := [some (.inr (.inr (this))), some (.inl (a1)), some (.inl (x5)), some (.inl (v3))]) (And.intro rfl (And.intro rfl (And.intro rfl (And.intro rfl trivial)))) ?_
        exact tX7_breaksOfKind_26 hd (ih) mthis  hf

set_option maxHeartbeats 4000000 in
set_option maxRecDepth 20000 in
theorem tX7_breaksOfKind {d N : Nat} {this : Nat} {a1 : Int} {h : pv_H} {r : Int} (hd : 2 ≤ d) (mthis : this ∈ pv_l7) (hf : fX7_breaksOfKind N this a1 h = some r) : CALL yX7_breaksOfKind cX7_breaksOfKind 4 (some .int) d pv_SC (MC h) [.inr (.inr (this)), .inl (a1)] pv_SC (MC h) (some (.inl r)) := by
  unfold fX7_breaksOfKind at hf
  refine EV.call (own := RX7) (ini := false) rfl rfl (fun q => by cases q) ⟨[], (List.append_nil _).symm⟩ (Nat.le_of_ble_eq_true rfl) ?_
  refine EV.eqL (L2 := [some (.inr (.inr (this))), some (.inl (a1)), none, none]) rfl ?_
  refine EV.iconst dX7_breaksOfKind_0 (by decide) (by decide) ?_
  refine FV.sti (L2 := [some (.inr (.inr (this))), some (.inl (a1)), some (.inl (0)), none]) dX7_breaksOfKind_1 rfl (Nat.le_of_ble_eq_true rfl) rfl rfl ?_
  refine EV.iconst dX7_breaksOfKind_2 (by decide) (by decide) ?_
  refine FV.sti (L2 := [some (.inr (.inr (this))), some (.inl (a1)), some (.inl (0)), some (.inl (0))]) dX7_breaksOfKind_3 rfl (Nat.le_of_ble_eq_true rfl) rfl rfl ?_
  refine EV.weak (L2 := [some (.inr (.inr (this))), some (.inl (a1)), some (.inl (0)), some (.inl (0))]) (And.intro rfl (And.intro rfl (And.intro rfl (And.intro rfl trivial)))) ?_
  exact tX7_breaksOfKind_4 hd  mthis _ _ _   hf

noncomputable def fX7_breakAt_2 (N : Nat)  (this : Nat) (a1 : Int) : Nat → Int → pv_H → Option (Int)
  | 0, _, _ => none
  | n + 1, v2, h => if (h (this + 1) 0) ≤ v2 then (some (-1)) else (pv_c1 (fX7_cellOf N this v2 h) fun r3 => if r3 = a1 then (some (v2)) else (pv_b (pv_w (v2 + 1)) fun x5 => fX7_breakAt_2 N  this a1 n (x5) h))

noncomputable def fX7_breakAt (N : Nat) (this : Nat) (a1 : Int) (h : pv_H) : Option (Int) :=
  fX7_breakAt_2 N  this a1 N (0) h

set_option maxHeartbeats 4000000 in
set_option maxRecDepth 20000 in
theorem tX7_breakAt_2 {d N : Nat}  {this : Nat} {a1 : Int} {h : pv_H} {r : Int} (hd : 2 ≤ d)  (mthis : this ∈ pv_l7) : ∀ (n : Nat) (v2 : Int) , fX7_breakAt_2 N  this a1 n v2 h = some r → EV RX7 cX7_breakAt 3 (some .int) false d pv_SC (MC h) (some (.inl r)) 2 [some (.inr (.inr (this))), some (.inl (a1)), some (.inl (v2))] [] pv_SC (MC h) := by
  intro n
  induction n with
  | zero =>
    intro v2   hf
    cases hf
  | succ n ih =>
    intro v2   hf
    rw [fX7_breakAt_2] at hf
    refine EV.iload_n dX7_breakAt_2 rfl rfl ?_
    refine EV.aload_n dX7_breakAt_3 rfl rfl ?_
    refine FV.getF (v := this + 1) dX7_breakAt_4 (sl7_0 _ mthis) fl_7_9 rfl (mu7_0 _ mthis _) (hl7_0_1 _ mthis) ?_
    refine EV.iconst dX7_breakAt_7 (by decide) (by decide) ?_
    refine FV.iald dX7_breakAt_8 (sl7_1 _ mthis) (by decide) (by decide) (j := 0) rfl ?_
    refine EV.icmp_ge (tgt := 29) dX7_breakAt_9 (by decide) (fun q1 => ?_) (fun q1 => ?_)
    · have hf := pv_gp hf q1
      refine EV.iconst dX7_breakAt_29 (by decide) (by decide) ?_
      exact FV.iretp dX7_breakAt_30 hf
    · have hf := pv_gn hf q1
      refine EV.aload_n dX7_breakAt_12 rfl rfl ?_
      refine EV.iload_n dX7_breakAt_13 rfl rfl ?_
      obtain ⟨r3, hc2, hf⟩ := pv_c1o hf
      refine EV.invV (As := [.inl (v2)]) (st := []) (d1 := d - 1) (sh1 := pv_SC) (h1 := MC h) (r1 := (some (.inl r3))) dX7_breakAt_14 (sl7_0 _ mthis) (by decide) md_X7_cellOf ml_X7_38 im_X7_cellOf se_X7_cellOf (tX7_cellOf (by omega) (mthis) hc2) (by omega) rfl rfl (Nat.le_of_ble_eq_true rfl) ⟨[], (List.append_nil _).symm⟩ ?_
      refine EV.eqS (st2 := [.inl (r3)]) rfl ?_
      refine EV.iload_n dX7_breakAt_17 rfl rfl ?_
      refine EV.icmp_ne (tgt := 23) dX7_breakAt_18 (by decide) (fun q4 => ?_) (fun q4 => ?_)
      · have hf := pv_gn hf q4
        obtain ⟨x5, ex5, hf⟩ := pv_bo hf
        refine FV.inc (L2 := [some (.inr (.inr (this))), some (.inl (a1)), some (.inl (x5))]) dX7_breakAt_23 rfl (Nat.le_of_ble_eq_true rfl) ex5 rfl ?_
        refine EV.goto (tgt := 2) dX7_breakAt_26 (by decide) ?_
        refine EV.weak (L2 := [some (.inr (.inr (this))), some (.inl (a1)), some (.inl (x5))]) (And.intro rfl (And.intro rfl (And.intro rfl trivial))) ?_
        exact ih _   hf
      · have hf := pv_gp hf q4
        refine EV.iload_n dX7_breakAt_21 rfl rfl ?_
        exact FV.iretp dX7_breakAt_22 hf

set_option maxHeartbeats 4000000 in
set_option maxRecDepth 20000 in
theorem tX7_breakAt {d N : Nat} {this : Nat} {a1 : Int} {h : pv_H} {r : Int} (hd : 2 ≤ d) (mthis : this ∈ pv_l7) (hf : fX7_breakAt N this a1 h = some r) : CALL yX7_breakAt cX7_breakAt 3 (some .int) d pv_SC (MC h) [.inr (.inr (this)), .inl (a1)] pv_SC (MC h) (some (.inl r)) := by
  unfold fX7_breakAt at hf
  refine EV.call (own := RX7) (ini := false) rfl rfl (fun q => by cases q) ⟨[], (List.append_nil _).symm⟩ (Nat.le_of_ble_eq_true rfl) ?_
  refine EV.eqL (L2 := [some (.inr (.inr (this))), some (.inl (a1)), none]) rfl ?_
  refine EV.iconst dX7_breakAt_0 (by decide) (by decide) ?_
  refine FV.sti (L2 := [some (.inr (.inr (this))), some (.inl (a1)), some (.inl (0))]) dX7_breakAt_1 rfl (Nat.le_of_ble_eq_true rfl) rfl rfl ?_
  refine EV.weak (L2 := [some (.inr (.inr (this))), some (.inl (a1)), some (.inl (0))]) (And.intro rfl (And.intro rfl (And.intro rfl trivial))) ?_
  exact tX7_breakAt_2 hd  mthis _ _   hf

noncomputable def fX7_causeAt_25 (N : Nat)  (this : Nat) (a1 : Int) (s0 : Int) (h : pv_H) : Option (Int) :=
  some (s0)

noncomputable def fX7_causeAt (N : Nat) (this : Nat) (a1 : Int) (h : pv_H) : Option (Int) :=
  pv_c1 (fX7_breakAt N this a1 h) fun r2 => if r2 = (-1) then (fX7_causeAt_25 N  this a1 (0) h) else (if 0 ≤ pv_w (180 + r2) ∧ pv_w (180 + r2) < 240 then (fX7_causeAt_25 N  this a1 (h (this + 2) (Int.toNat (pv_w (180 + r2)))) h) else none)

set_option maxHeartbeats 4000000 in
set_option maxRecDepth 20000 in
theorem tX7_causeAt_25 {d N : Nat}  {this : Nat} {a1 : Int} {s0 : Int} {h : pv_H} {r : Int} (hd : 3 ≤ d)  (mthis : this ∈ pv_l7)  (hf : fX7_causeAt_25 N  this a1 s0 h = some r) : EV RX7 cX7_causeAt 3 (some .int) false d pv_SC (MC h) (some (.inl r)) 25 [none, none, none] [.inl (s0)] pv_SC (MC h) := by
  unfold fX7_causeAt_25 at hf
  exact FV.iretp dX7_causeAt_25 hf

set_option maxHeartbeats 4000000 in
set_option maxRecDepth 20000 in
theorem tX7_causeAt {d N : Nat} {this : Nat} {a1 : Int} {h : pv_H} {r : Int} (hd : 3 ≤ d) (mthis : this ∈ pv_l7) (hf : fX7_causeAt N this a1 h = some r) : CALL yX7_causeAt cX7_causeAt 3 (some .int) d pv_SC (MC h) [.inr (.inr (this)), .inl (a1)] pv_SC (MC h) (some (.inl r)) := by
  unfold fX7_causeAt at hf
  refine EV.call (own := RX7) (ini := false) rfl rfl (fun q => by cases q) ⟨[], (List.append_nil _).symm⟩ (Nat.le_of_ble_eq_true rfl) ?_
  refine EV.eqL (L2 := [some (.inr (.inr (this))), some (.inl (a1)), none]) rfl ?_
  refine EV.aload_n dX7_causeAt_0 rfl rfl ?_
  refine EV.iload_n dX7_causeAt_1 rfl rfl ?_
  obtain ⟨r2, hc1, hf⟩ := pv_c1o hf
  refine EV.invV (As := [.inl (a1)]) (st := []) (d1 := d - 1) (sh1 := pv_SC) (h1 := MC h) (r1 := (some (.inl r2))) dX7_causeAt_2 (sl7_0 _ mthis) (by decide) md_X7_breakAt ml_X7_41 im_X7_breakAt se_X7_breakAt (tX7_breakAt (by omega) (mthis) hc1) (by omega) rfl rfl (Nat.le_of_ble_eq_true rfl) ⟨[], (List.append_nil _).symm⟩ ?_
  refine EV.eqS (st2 := [.inl (r2)]) rfl ?_
  refine FV.sti (L2 := [some (.inr (.inr (this))), some (.inl (a1)), some (.inl (r2))]) dX7_causeAt_5 rfl (Nat.le_of_ble_eq_true rfl) rfl rfl ?_
  refine EV.iload_n dX7_causeAt_6 rfl rfl ?_
  refine EV.iconst dX7_causeAt_7 (by decide) (by decide) ?_
  refine EV.icmp_ne (tgt := 15) dX7_causeAt_8 (by decide) (fun q3 => ?_) (fun q3 => ?_)
  · have hf := pv_gn hf q3
    refine EV.aload_n dX7_causeAt_15 rfl rfl ?_
    refine FV.getF (v := this + 2) dX7_causeAt_16 (sl7_0 _ mthis) fl_7_15 rfl (mu7_0 _ mthis _) (hl7_0_2 _ mthis) ?_
    refine EV.sipush dX7_causeAt_19 (by decide) (by decide) ?_
    refine EV.iload_n dX7_causeAt_22 rfl rfl ?_
    refine EV.iadd dX7_causeAt_23 ?_
    obtain ⟨g4, hf⟩ := pv_gd hf
    refine FV.iald dX7_causeAt_24 (sl7_2 _ mthis) g4.1 g4.2 (j := (Int.toNat (pv_w (180 + r2)))) rfl ?_
    refine EV.weak (L2 := [none, none, none]) trivial ?_
    exact tX7_causeAt_25 hd  mthis  hf
  · have hf := pv_gp hf q3
    refine EV.iconst dX7_causeAt_11 (by decide) (by decide) ?_
    refine EV.goto (tgt := 25) dX7_causeAt_12 (by decide) ?_
    refine EV.weak (L2 := [none, none, none]) trivial ?_
    exact tX7_causeAt_25 hd  mthis  hf

noncomputable def fX7_flightOf_4 (N : Nat)  (this : Nat) (a1 : Int) : Nat → Int → Int → pv_H → Option (Int)
  | 0, _, _, _ => none
  | n + 1, v2, v3, h => if a1 ≤ v3 then (if 0 ≤ a1 ∧ a1 < 60 then (pv_b (max 1 (h (this + 4) (Int.toNat (a1)))) fun x3 => pv_c1 (fX7_causeAt N this (pv_w (v2 - 1)) h) fun r5 => pv_c1 (fX7_causeAt N this (pv_w ((pv_w (v2 + x3)) - 1)) h) fun r7 => if ¬ x3 = 0 then (some (pv_w (Int.tdiv (pv_w (r5 + r7)) x3))) else none) else none) else (if 0 ≤ v3 ∧ v3 < 60 then (pv_b (pv_w (v2 + (h (this + 4) (Int.toNat (v3))))) fun x10 => pv_b (pv_w (v3 + 1)) fun x11 => fX7_flightOf_4 N  this a1 n (x10) (x11) h) else none)

noncomputable def fX7_flightOf (N : Nat) (this : Nat) (a1 : Int) (h : pv_H) : Option (Int) :=
  fX7_flightOf_4 N  this a1 N (0) (0) h

set_option maxHeartbeats 4000000 in
set_option maxRecDepth 20000 in
theorem tX7_flightOf_4 {d N : Nat}  {this : Nat} {a1 : Int} {h : pv_H} {r : Int} (hd : 4 ≤ d)  (mthis : this ∈ pv_l7) : ∀ (n : Nat) (v2 : Int) (v3 : Int) , fX7_flightOf_4 N  this a1 n v2 v3 h = some r → EV RX7 cX7_flightOf 4 (some .int) false d pv_SC (MC h) (some (.inl r)) 4 [some (.inr (.inr (this))), some (.inl (a1)), some (.inl (v2)), some (.inl (v3))] [] pv_SC (MC h) := by
  intro n
  induction n with
  | zero =>
    intro v2 v3   hf
    cases hf
  | succ n ih =>
    intro v2 v3   hf
    rw [fX7_flightOf_4] at hf
    refine EV.iload_n dX7_flightOf_4 rfl rfl ?_
    refine EV.iload_n dX7_flightOf_5 rfl rfl ?_
    refine EV.icmp_ge (tgt := 24) dX7_flightOf_6 (by decide) (fun q1 => ?_) (fun q1 => ?_)
    · have hf := pv_gp hf q1
      refine EV.iconst dX7_flightOf_24 (by decide) (by decide) ?_
      refine EV.aload_n dX7_flightOf_25 rfl rfl ?_
      refine FV.getF (v := this + 4) dX7_flightOf_26 (sl7_0 _ mthis) fl_7_21 rfl (mu7_0 _ mthis _) (hl7_0_4 _ mthis) ?_
      refine EV.iload_n dX7_flightOf_29 rfl rfl ?_
      obtain ⟨g2, hf⟩ := pv_gd hf
      refine FV.iald dX7_flightOf_30 (sl7_4 _ mthis) g2.1 g2.2 (j := (Int.toNat (a1))) rfl ?_
      refine EV.mmax dX7_flightOf_31 ml_X7_44 w_maxs w_mai w_maxc (by omega) (Nat.le_of_ble_eq_true rfl) ?_
      obtain ⟨x3, ex3, hf⟩ := pv_bo hf
      refine FV.sti (L2 := [some (.inr (.inr (this))), some (.inl (a1)), some (.inl (v2)), some (.inl (x3))]) dX7_flightOf_34 rfl (Nat.le_of_ble_eq_true rfl) ex3 rfl ?_
      refine EV.aload_n dX7_flightOf_35 rfl rfl ?_
      refine EV.iload_n dX7_flightOf_36 rfl rfl ?_
      refine EV.iconst dX7_flightOf_37 (by decide) (by decide) ?_
      refine EV.isub dX7_flightOf_38 ?_
      obtain ⟨r5, hc4, hf⟩ := pv_c1o hf
      refine EV.invV (As := [.inl (pv_w (v2 - 1))]) (st := []) (d1 := d - 1) (sh1 := pv_SC) (h1 := MC h) (r1 := (some (.inl r5))) dX7_flightOf_39 (sl7_0 _ mthis) (by decide) md_X7_causeAt ml_X7_50 im_X7_causeAt se_X7_causeAt (tX7_causeAt (by omega) (mthis) hc4) (by omega) rfl rfl (Nat.le_of_ble_eq_true rfl) ⟨[], (List.append_nil _).symm⟩ ?_
      refine EV.eqS (st2 := [.inl (r5)]) rfl ?_
      refine EV.aload_n dX7_flightOf_42 rfl rfl ?_
      refine EV.iload_n dX7_flightOf_43 rfl rfl ?_
      refine EV.iload_n dX7_flightOf_44 rfl rfl ?_
      refine EV.iadd dX7_flightOf_45 ?_
      refine EV.iconst dX7_flightOf_46 (by decide) (by decide) ?_
      refine EV.isub dX7_flightOf_47 ?_
      obtain ⟨r7, hc6, hf⟩ := pv_c1o hf
      refine EV.invV (As := [.inl (pv_w ((pv_w (v2 + x3)) - 1))]) (st := [.inl (r5)]) (d1 := d - 1) (sh1 := pv_SC) (h1 := MC h) (r1 := (some (.inl r7))) dX7_flightOf_48 (sl7_0 _ mthis) (by decide) md_X7_causeAt ml_X7_50 im_X7_causeAt se_X7_causeAt (tX7_causeAt (by omega) (mthis) hc6) (by omega) rfl rfl (Nat.le_of_ble_eq_true rfl) ⟨[], (List.append_nil _).symm⟩ ?_
      refine EV.eqS (st2 := [.inl (r7), .inl (r5)]) rfl ?_
      refine EV.iadd dX7_flightOf_51 ?_
      refine EV.iload_n dX7_flightOf_52 rfl rfl ?_
      obtain ⟨g8, hf⟩ := pv_gd hf
      refine EV.idiv dX7_flightOf_53 g8 ?_
      exact FV.iretp dX7_flightOf_54 hf
    · have hf := pv_gn hf q1
      refine EV.iload_n dX7_flightOf_9 rfl rfl ?_
      refine EV.aload_n dX7_flightOf_10 rfl rfl ?_
      refine FV.getF (v := this + 4) dX7_flightOf_11 (sl7_0 _ mthis) fl_7_21 rfl (mu7_0 _ mthis _) (hl7_0_4 _ mthis) ?_
      refine EV.iload_n dX7_flightOf_14 rfl rfl ?_
      obtain ⟨g9, hf⟩ := pv_gd hf
      refine FV.iald dX7_flightOf_15 (sl7_4 _ mthis) g9.1 g9.2 (j := (Int.toNat (v3))) rfl ?_
      refine EV.iadd dX7_flightOf_16 ?_
      obtain ⟨x10, ex10, hf⟩ := pv_bo hf
      refine FV.sti (L2 := [some (.inr (.inr (this))), some (.inl (a1)), some (.inl (x10)), some (.inl (v3))]) dX7_flightOf_17 rfl (Nat.le_of_ble_eq_true rfl) ex10 rfl ?_
      obtain ⟨x11, ex11, hf⟩ := pv_bo hf
      refine FV.inc (L2 := [some (.inr (.inr (this))), some (.inl (a1)), some (.inl (x10)), some (.inl (x11))]) dX7_flightOf_18 rfl (Nat.le_of_ble_eq_true rfl) ex11 rfl ?_
      refine EV.goto (tgt := 4) dX7_flightOf_21 (by decide) ?_
      refine EV.weak (L2 := [some (.inr (.inr (this))), some (.inl (a1)), some (.inl (x10)), some (.inl (x11))]) (And.intro rfl (And.intro rfl (And.intro rfl (And.intro rfl trivial)))) ?_
      exact ih _ _   hf

set_option maxHeartbeats 4000000 in
set_option maxRecDepth 20000 in
theorem tX7_flightOf {d N : Nat} {this : Nat} {a1 : Int} {h : pv_H} {r : Int} (hd : 4 ≤ d) (mthis : this ∈ pv_l7) (hf : fX7_flightOf N this a1 h = some r) : CALL yX7_flightOf cX7_flightOf 4 (some .int) d pv_SC (MC h) [.inr (.inr (this)), .inl (a1)] pv_SC (MC h) (some (.inl r)) := by
  unfold fX7_flightOf at hf
  refine EV.call (own := RX7) (ini := false) rfl rfl (fun q => by cases q) ⟨[], (List.append_nil _).symm⟩ (Nat.le_of_ble_eq_true rfl) ?_
  refine EV.eqL (L2 := [some (.inr (.inr (this))), some (.inl (a1)), none, none]) rfl ?_
  refine EV.iconst dX7_flightOf_0 (by decide) (by decide) ?_
  refine FV.sti (L2 := [some (.inr (.inr (this))), some (.inl (a1)), some (.inl (0)), none]) dX7_flightOf_1 rfl (Nat.le_of_ble_eq_true rfl) rfl rfl ?_
  refine EV.iconst dX7_flightOf_2 (by decide) (by decide) ?_
  refine FV.sti (L2 := [some (.inr (.inr (this))), some (.inl (a1)), some (.inl (0)), some (.inl (0))]) dX7_flightOf_3 rfl (Nat.le_of_ble_eq_true rfl) rfl rfl ?_
  refine EV.weak (L2 := [some (.inr (.inr (this))), some (.inl (a1)), some (.inl (0)), some (.inl (0))]) (And.intro rfl (And.intro rfl (And.intro rfl (And.intro rfl trivial)))) ?_
  exact tX7_flightOf_4 hd  mthis _ _ _   hf

noncomputable def fX7_turnAhead_33 (N : Nat)  (this : Nat) (s0 : Int) (h : pv_H) : Option (Int) :=
  some (s0)

noncomputable def fX7_turnAhead (N : Nat) (this : Nat) (h : pv_H) : Option (Int) :=
  if 2 ≤ (h (this + 1) 0) then (pv_c1 (fX7_cellOf N this 1 h) fun r3 => pv_c1 (fX7_cellOf N this 0 h) fun r5 => fX7_turnAhead_33 N  this (pv_w ((h this 0) * (if 0 ≤ (pv_w (r3 - r5)) then (pv_w (r3 - r5)) else pv_w (0 - (pv_w (r3 - r5)))))) h) else (fX7_turnAhead_33 N  this (0) h)

set_option maxHeartbeats 4000000 in
set_option maxRecDepth 20000 in
theorem tX7_turnAhead_33 {d N : Nat}  {this : Nat} {s0 : Int} {h : pv_H} {r : Int} (hd : 2 ≤ d)  (mthis : this ∈ pv_l7)  (hf : fX7_turnAhead_33 N  this s0 h = some r) : EV RX7 cX7_turnAhead 1 (some .int) false d pv_SC (MC h) (some (.inl r)) 33 [none] [.inl (s0)] pv_SC (MC h) := by
  unfold fX7_turnAhead_33 at hf
  exact FV.iretp dX7_turnAhead_33 hf

set_option maxHeartbeats 4000000 in
set_option maxRecDepth 20000 in
theorem tX7_turnAhead {d N : Nat} {this : Nat} {h : pv_H} {r : Int} (hd : 2 ≤ d) (mthis : this ∈ pv_l7) (hf : fX7_turnAhead N this h = some r) : CALL yX7_turnAhead cX7_turnAhead 1 (some .int) d pv_SC (MC h) [.inr (.inr (this))] pv_SC (MC h) (some (.inl r)) := by
  unfold fX7_turnAhead at hf
  refine EV.call (own := RX7) (ini := false) rfl rfl (fun q => by cases q) ⟨[], (List.append_nil _).symm⟩ (Nat.le_of_ble_eq_true rfl) ?_
  refine EV.eqL (L2 := [some (.inr (.inr (this)))]) rfl ?_
  refine EV.aload_n dX7_turnAhead_0 rfl rfl ?_
  refine FV.getF (v := this + 1) dX7_turnAhead_1 (sl7_0 _ mthis) fl_7_9 rfl (mu7_0 _ mthis _) (hl7_0_1 _ mthis) ?_
  refine EV.iconst dX7_turnAhead_4 (by decide) (by decide) ?_
  refine FV.iald dX7_turnAhead_5 (sl7_1 _ mthis) (by decide) (by decide) (j := 0) rfl ?_
  refine EV.iconst dX7_turnAhead_6 (by decide) (by decide) ?_
  refine EV.icmp_ge (tgt := 14) dX7_turnAhead_7 (by decide) (fun q1 => ?_) (fun q1 => ?_)
  · have hf := pv_gp hf q1
    refine EV.aload_n dX7_turnAhead_14 rfl rfl ?_
    refine FV.getI dX7_turnAhead_15 (sl7_0 _ mthis) fl_7_24 rfl ?_
    refine EV.aload_n dX7_turnAhead_18 rfl rfl ?_
    refine EV.iconst dX7_turnAhead_19 (by decide) (by decide) ?_
    obtain ⟨r3, hc2, hf⟩ := pv_c1o hf
    refine EV.invV (As := [.inl (1)]) (st := [.inl (h this 0)]) (d1 := d - 1) (sh1 := pv_SC) (h1 := MC h) (r1 := (some (.inl r3))) dX7_turnAhead_20 (sl7_0 _ mthis) (by decide) md_X7_cellOf ml_X7_38 im_X7_cellOf se_X7_cellOf (tX7_cellOf (by omega) (mthis) hc2) (by omega) rfl rfl (Nat.le_of_ble_eq_true rfl) ⟨[], (List.append_nil _).symm⟩ ?_
    refine EV.eqS (st2 := [.inl (r3), .inl (h this 0)]) rfl ?_
    refine EV.aload_n dX7_turnAhead_23 rfl rfl ?_
    refine EV.iconst dX7_turnAhead_24 (by decide) (by decide) ?_
    obtain ⟨r5, hc4, hf⟩ := pv_c1o hf
    refine EV.invV (As := [.inl (0)]) (st := [.inl (r3), .inl (h this 0)]) (d1 := d - 1) (sh1 := pv_SC) (h1 := MC h) (r1 := (some (.inl r5))) dX7_turnAhead_25 (sl7_0 _ mthis) (by decide) md_X7_cellOf ml_X7_38 im_X7_cellOf se_X7_cellOf (tX7_cellOf (by omega) (mthis) hc4) (by omega) rfl rfl (Nat.le_of_ble_eq_true rfl) ⟨[], (List.append_nil _).symm⟩ ?_
    refine EV.eqS (st2 := [.inl (r5), .inl (r3), .inl (h this 0)]) rfl ?_
    refine EV.isub dX7_turnAhead_28 ?_
    refine EV.mabs dX7_turnAhead_29 ml_X7_53 w_abss w_mai w_absc (by omega) (Nat.le_of_ble_eq_true rfl) ?_
    refine EV.imul dX7_turnAhead_32 ?_
    refine EV.weak (L2 := [none]) trivial ?_
    exact tX7_turnAhead_33 hd  mthis  hf
  · have hf := pv_gn hf q1
    refine EV.iconst dX7_turnAhead_10 (by decide) (by decide) ?_
    refine EV.goto (tgt := 33) dX7_turnAhead_11 (by decide) ?_
    refine EV.weak (L2 := [none]) trivial ?_
    exact tX7_turnAhead_33 hd  mthis  hf

noncomputable def fX7_longestPiece_9 (N : Nat)  (this : Nat) : Nat → Int → Int → pv_H → Option (Int)
  | 0, _, _, _ => none
  | n + 1, v1, v2, h => if (h (this + 1) 1) ≤ v2 then (some (v1)) else (if 0 ≤ v2 ∧ v2 < 60 then (pv_b (max v1 (h (this + 4) (Int.toNat (v2)))) fun x4 => pv_b (pv_w (v2 + 1)) fun x5 => fX7_longestPiece_9 N  this n (x4) (x5) h) else none)

noncomputable def fX7_longestPiece (N : Nat) (this : Nat) (h : pv_H) : Option (Int) :=
  pv_b (h (this + 4) 0) fun x1 => fX7_longestPiece_9 N  this N (x1) (1) h

set_option maxHeartbeats 4000000 in
set_option maxRecDepth 20000 in
theorem tX7_longestPiece_9 {d N : Nat}  {this : Nat} {h : pv_H} {r : Int} (hd : 2 ≤ d)  (mthis : this ∈ pv_l7) : ∀ (n : Nat) (v1 : Int) (v2 : Int) , fX7_longestPiece_9 N  this n v1 v2 h = some r → EV RX7 cX7_longestPiece 3 (some .int) false d pv_SC (MC h) (some (.inl r)) 9 [some (.inr (.inr (this))), some (.inl (v1)), some (.inl (v2))] [] pv_SC (MC h) := by
  intro n
  induction n with
  | zero =>
    intro v1 v2   hf
    cases hf
  | succ n ih =>
    intro v1 v2   hf
    rw [fX7_longestPiece_9] at hf
    refine EV.iload_n dX7_longestPiece_9 rfl rfl ?_
    refine EV.aload_n dX7_longestPiece_10 rfl rfl ?_
    refine FV.getF (v := this + 1) dX7_longestPiece_11 (sl7_0 _ mthis) fl_7_9 rfl (mu7_0 _ mthis _) (hl7_0_1 _ mthis) ?_
    refine EV.iconst dX7_longestPiece_14 (by decide) (by decide) ?_
    refine FV.iald dX7_longestPiece_15 (sl7_1 _ mthis) (by decide) (by decide) (j := 1) rfl ?_
    refine EV.icmp_ge (tgt := 36) dX7_longestPiece_16 (by decide) (fun q2 => ?_) (fun q2 => ?_)
    · have hf := pv_gp hf q2
      refine EV.iload_n dX7_longestPiece_36 rfl rfl ?_
      exact FV.iretp dX7_longestPiece_37 hf
    · have hf := pv_gn hf q2
      refine EV.iload_n dX7_longestPiece_19 rfl rfl ?_
      refine EV.aload_n dX7_longestPiece_20 rfl rfl ?_
      refine FV.getF (v := this + 4) dX7_longestPiece_21 (sl7_0 _ mthis) fl_7_21 rfl (mu7_0 _ mthis _) (hl7_0_4 _ mthis) ?_
      refine EV.iload_n dX7_longestPiece_24 rfl rfl ?_
      obtain ⟨g3, hf⟩ := pv_gd hf
      refine FV.iald dX7_longestPiece_25 (sl7_4 _ mthis) g3.1 g3.2 (j := (Int.toNat (v2))) rfl ?_
      refine EV.mmax dX7_longestPiece_26 ml_X7_44 w_maxs w_mai w_maxc (by omega) (Nat.le_of_ble_eq_true rfl) ?_
      obtain ⟨x4, ex4, hf⟩ := pv_bo hf
      refine FV.sti (L2 := [some (.inr (.inr (this))), some (.inl (x4)), some (.inl (v2))]) dX7_longestPiece_29 rfl (Nat.le_of_ble_eq_true rfl) ex4 rfl ?_
      obtain ⟨x5, ex5, hf⟩ := pv_bo hf
      refine FV.inc (L2 := [some (.inr (.inr (this))), some (.inl (x4)), some (.inl (x5))]) dX7_longestPiece_30 rfl (Nat.le_of_ble_eq_true rfl) ex5 rfl ?_
      refine EV.goto (tgt := 9) dX7_longestPiece_33 (by decide) ?_
      refine EV.weak (L2 := [some (.inr (.inr (this))), some (.inl (x4)), some (.inl (x5))]) (And.intro rfl (And.intro rfl (And.intro rfl trivial))) ?_
      exact ih _ _   hf

set_option maxHeartbeats 4000000 in
set_option maxRecDepth 20000 in
theorem tX7_longestPiece {d N : Nat} {this : Nat} {h : pv_H} {r : Int} (hd : 2 ≤ d) (mthis : this ∈ pv_l7) (hf : fX7_longestPiece N this h = some r) : CALL yX7_longestPiece cX7_longestPiece 3 (some .int) d pv_SC (MC h) [.inr (.inr (this))] pv_SC (MC h) (some (.inl r)) := by
  unfold fX7_longestPiece at hf
  refine EV.call (own := RX7) (ini := false) rfl rfl (fun q => by cases q) ⟨[], (List.append_nil _).symm⟩ (Nat.le_of_ble_eq_true rfl) ?_
  refine EV.eqL (L2 := [some (.inr (.inr (this))), none, none]) rfl ?_
  refine EV.aload_n dX7_longestPiece_0 rfl rfl ?_
  refine FV.getF (v := this + 4) dX7_longestPiece_1 (sl7_0 _ mthis) fl_7_21 rfl (mu7_0 _ mthis _) (hl7_0_4 _ mthis) ?_
  refine EV.iconst dX7_longestPiece_4 (by decide) (by decide) ?_
  refine FV.iald dX7_longestPiece_5 (sl7_4 _ mthis) (by decide) (by decide) (j := 0) rfl ?_
  obtain ⟨x1, ex1, hf⟩ := pv_bo hf
  refine FV.sti (L2 := [some (.inr (.inr (this))), some (.inl (x1)), none]) dX7_longestPiece_6 rfl (Nat.le_of_ble_eq_true rfl) ex1 rfl ?_
  refine EV.iconst dX7_longestPiece_7 (by decide) (by decide) ?_
  refine FV.sti (L2 := [some (.inr (.inr (this))), some (.inl (x1)), some (.inl (1))]) dX7_longestPiece_8 rfl (Nat.le_of_ble_eq_true rfl) rfl rfl ?_
  refine EV.weak (L2 := [some (.inr (.inr (this))), some (.inl (x1)), some (.inl (1))]) (And.intro rfl (And.intro rfl (And.intro rfl trivial))) ?_
  exact tX7_longestPiece_9 hd  mthis _ _ _   hf

noncomputable def fX7_shortestPiece_9 (N : Nat)  (this : Nat) : Nat → Int → Int → pv_H → Option (Int)
  | 0, _, _, _ => none
  | n + 1, v1, v2, h => if (h (this + 1) 1) ≤ v2 then (some (v1)) else (if 0 ≤ v2 ∧ v2 < 60 then (pv_b (min v1 (h (this + 4) (Int.toNat (v2)))) fun x4 => pv_b (pv_w (v2 + 1)) fun x5 => fX7_shortestPiece_9 N  this n (x4) (x5) h) else none)

noncomputable def fX7_shortestPiece (N : Nat) (this : Nat) (h : pv_H) : Option (Int) :=
  pv_b (h (this + 4) 0) fun x1 => fX7_shortestPiece_9 N  this N (x1) (1) h

set_option maxHeartbeats 4000000 in
set_option maxRecDepth 20000 in
theorem tX7_shortestPiece_9 {d N : Nat}  {this : Nat} {h : pv_H} {r : Int} (hd : 2 ≤ d)  (mthis : this ∈ pv_l7) : ∀ (n : Nat) (v1 : Int) (v2 : Int) , fX7_shortestPiece_9 N  this n v1 v2 h = some r → EV RX7 cX7_shortestPiece 3 (some .int) false d pv_SC (MC h) (some (.inl r)) 9 [some (.inr (.inr (this))), some (.inl (v1)), some (.inl (v2))] [] pv_SC (MC h) := by
  intro n
  induction n with
  | zero =>
    intro v1 v2   hf
    cases hf
  | succ n ih =>
    intro v1 v2   hf
    rw [fX7_shortestPiece_9] at hf
    refine EV.iload_n dX7_shortestPiece_9 rfl rfl ?_
    refine EV.aload_n dX7_shortestPiece_10 rfl rfl ?_
    refine FV.getF (v := this + 1) dX7_shortestPiece_11 (sl7_0 _ mthis) fl_7_9 rfl (mu7_0 _ mthis _) (hl7_0_1 _ mthis) ?_
    refine EV.iconst dX7_shortestPiece_14 (by decide) (by decide) ?_
    refine FV.iald dX7_shortestPiece_15 (sl7_1 _ mthis) (by decide) (by decide) (j := 1) rfl ?_
    refine EV.icmp_ge (tgt := 36) dX7_shortestPiece_16 (by decide) (fun q2 => ?_) (fun q2 => ?_)
    · have hf := pv_gp hf q2
      refine EV.iload_n dX7_shortestPiece_36 rfl rfl ?_
      exact FV.iretp dX7_shortestPiece_37 hf
    · have hf := pv_gn hf q2
      refine EV.iload_n dX7_shortestPiece_19 rfl rfl ?_
      refine EV.aload_n dX7_shortestPiece_20 rfl rfl ?_
      refine FV.getF (v := this + 4) dX7_shortestPiece_21 (sl7_0 _ mthis) fl_7_21 rfl (mu7_0 _ mthis _) (hl7_0_4 _ mthis) ?_
      refine EV.iload_n dX7_shortestPiece_24 rfl rfl ?_
      obtain ⟨g3, hf⟩ := pv_gd hf
      refine FV.iald dX7_shortestPiece_25 (sl7_4 _ mthis) g3.1 g3.2 (j := (Int.toNat (v2))) rfl ?_
      refine EV.mmin dX7_shortestPiece_26 ml_X7_56 w_mins w_mai w_minc (by omega) (Nat.le_of_ble_eq_true rfl) ?_
      obtain ⟨x4, ex4, hf⟩ := pv_bo hf
      refine FV.sti (L2 := [some (.inr (.inr (this))), some (.inl (x4)), some (.inl (v2))]) dX7_shortestPiece_29 rfl (Nat.le_of_ble_eq_true rfl) ex4 rfl ?_
      obtain ⟨x5, ex5, hf⟩ := pv_bo hf
      refine FV.inc (L2 := [some (.inr (.inr (this))), some (.inl (x4)), some (.inl (x5))]) dX7_shortestPiece_30 rfl (Nat.le_of_ble_eq_true rfl) ex5 rfl ?_
      refine EV.goto (tgt := 9) dX7_shortestPiece_33 (by decide) ?_
      refine EV.weak (L2 := [some (.inr (.inr (this))), some (.inl (x4)), some (.inl (x5))]) (And.intro rfl (And.intro rfl (And.intro rfl trivial))) ?_
      exact ih _ _   hf

set_option maxHeartbeats 4000000 in
set_option maxRecDepth 20000 in
theorem tX7_shortestPiece {d N : Nat} {this : Nat} {h : pv_H} {r : Int} (hd : 2 ≤ d) (mthis : this ∈ pv_l7) (hf : fX7_shortestPiece N this h = some r) : CALL yX7_shortestPiece cX7_shortestPiece 3 (some .int) d pv_SC (MC h) [.inr (.inr (this))] pv_SC (MC h) (some (.inl r)) := by
  unfold fX7_shortestPiece at hf
  refine EV.call (own := RX7) (ini := false) rfl rfl (fun q => by cases q) ⟨[], (List.append_nil _).symm⟩ (Nat.le_of_ble_eq_true rfl) ?_
  refine EV.eqL (L2 := [some (.inr (.inr (this))), none, none]) rfl ?_
  refine EV.aload_n dX7_shortestPiece_0 rfl rfl ?_
  refine FV.getF (v := this + 4) dX7_shortestPiece_1 (sl7_0 _ mthis) fl_7_21 rfl (mu7_0 _ mthis _) (hl7_0_4 _ mthis) ?_
  refine EV.iconst dX7_shortestPiece_4 (by decide) (by decide) ?_
  refine FV.iald dX7_shortestPiece_5 (sl7_4 _ mthis) (by decide) (by decide) (j := 0) rfl ?_
  obtain ⟨x1, ex1, hf⟩ := pv_bo hf
  refine FV.sti (L2 := [some (.inr (.inr (this))), some (.inl (x1)), none]) dX7_shortestPiece_6 rfl (Nat.le_of_ble_eq_true rfl) ex1 rfl ?_
  refine EV.iconst dX7_shortestPiece_7 (by decide) (by decide) ?_
  refine FV.sti (L2 := [some (.inr (.inr (this))), some (.inl (x1)), some (.inl (1))]) dX7_shortestPiece_8 rfl (Nat.le_of_ble_eq_true rfl) rfl rfl ?_
  refine EV.weak (L2 := [some (.inr (.inr (this))), some (.inl (x1)), some (.inl (1))]) (And.intro rfl (And.intro rfl (And.intro rfl trivial))) ?_
  exact tX7_shortestPiece_9 hd  mthis _ _ _   hf

noncomputable def fX7_holdsTicks_75 (N : Nat)  (this : Nat) (a1 : Nat) (s0 : Int) (h : pv_H) : Option (Int) :=
  if s0 = 0 ∨ s0 = 1 then (some (s0)) else none

noncomputable def fX7_holdsTicks_60 (N : Nat)  (this : Nat) (a1 : Nat) (v2 : Int) (h : pv_H) : Option (Int) :=
  if v2 = (h (this + 1) 0) then (fX7_holdsTicks_75 N  this a1 (1) h) else (fX7_holdsTicks_75 N  this a1 (0) h)

noncomputable def fX7_holdsTicks_49 (N : Nat)  (this : Nat) (a1 : Nat)  (h : pv_H) : Option (Int) :=
  some (0)

noncomputable def fX7_holdsTicks_4 (N : Nat)  (this : Nat) (a1 : Nat) : Nat → Int → Int → pv_H → Option (Int)
  | 0, _, _, _ => none
  | n + 1, v2, v3, h => if (h a1 1) ≤ v3 then (fX7_holdsTicks_60 N  this a1 (v2) h) else (if 0 ≤ v3 ∧ v3 < 60 then (if (pv_cmp (h (a1 + 1) (Int.toNat (v3))) 0) < 0 then (fX7_holdsTicks_60 N  this a1 (v2) h) else (if (h (this + 1) 0) ≤ v3 then (fX7_holdsTicks_49 N  this a1  h) else (if 0 ≤ v3 ∧ v3 < 60 then (pv_c1 (fX7_tickOf N this v3 h) fun r7 => if (pv_cmp (h (a1 + 1) (Int.toNat (v3))) r7) = 0 then (pv_b (pv_w (v2 + 1)) fun x9 => pv_b (pv_w (v3 + 1)) fun x10 => fX7_holdsTicks_4 N  this a1 n (x9) (x10) h) else (fX7_holdsTicks_49 N  this a1  h)) else none))) else none)

noncomputable def fX7_holdsTicks (N : Nat) (this : Nat) (a1 : Nat) (h : pv_H) : Option (Int) :=
  fX7_holdsTicks_4 N  this a1 N (0) (0) h

set_option maxHeartbeats 4000000 in
set_option maxRecDepth 20000 in
theorem tX7_holdsTicks_75 {d N : Nat}  {this : Nat} {a1 : Nat} {s0 : Int} {h : pv_H} {r : Int} (hd : 2 ≤ d)  (mthis : this ∈ pv_l7) (ma1 : a1 ∈ pv_l6)  (hf : fX7_holdsTicks_75 N  this a1 s0 h = some r) : EV RX7 cX7_holdsTicks 4 (some .boolean) false d pv_SC (MC h) (some (.inl r)) 75 [none, none, none, none] [.inl (s0)] pv_SC (MC h) := by
  unfold fX7_holdsTicks_75 at hf
  obtain ⟨g12, hf⟩ := pv_gd hf
  exact FV.zretp dX7_holdsTicks_75 g12 hf

set_option maxHeartbeats 4000000 in
set_option maxRecDepth 20000 in
theorem tX7_holdsTicks_60 {d N : Nat}  {this : Nat} {a1 : Nat} {v2 : Int} {h : pv_H} {r : Int} (hd : 2 ≤ d)  (mthis : this ∈ pv_l7) (ma1 : a1 ∈ pv_l6)  (hf : fX7_holdsTicks_60 N  this a1 v2 h = some r) : EV RX7 cX7_holdsTicks 4 (some .boolean) false d pv_SC (MC h) (some (.inl r)) 60 [some (.inr (.inr (this))), none, some (.inl (v2)), none] [] pv_SC (MC h) := by
  unfold fX7_holdsTicks_60 at hf
  refine EV.iload_n dX7_holdsTicks_60 rfl rfl ?_
  refine EV.aload_n dX7_holdsTicks_61 rfl rfl ?_
  refine FV.getF (v := this + 1) dX7_holdsTicks_62 (sl7_0 _ mthis) fl_7_9 rfl (mu7_0 _ mthis _) (hl7_0_1 _ mthis) ?_
  refine EV.iconst dX7_holdsTicks_65 (by decide) (by decide) ?_
  refine FV.iald dX7_holdsTicks_66 (sl7_1 _ mthis) (by decide) (by decide) (j := 0) rfl ?_
  refine EV.icmp_ne (tgt := 74) dX7_holdsTicks_67 (by decide) (fun q11 => ?_) (fun q11 => ?_)
  · have hf := pv_gn hf q11
    refine EV.iconst dX7_holdsTicks_74 (by decide) (by decide) ?_
    refine EV.weak (L2 := [none, none, none, none]) trivial ?_
    exact tX7_holdsTicks_75 hd  mthis ma1  hf
  · have hf := pv_gp hf q11
    refine EV.iconst dX7_holdsTicks_70 (by decide) (by decide) ?_
    refine EV.goto (tgt := 75) dX7_holdsTicks_71 (by decide) ?_
    refine EV.weak (L2 := [none, none, none, none]) trivial ?_
    exact tX7_holdsTicks_75 hd  mthis ma1  hf

set_option maxHeartbeats 4000000 in
set_option maxRecDepth 20000 in
theorem tX7_holdsTicks_49 {d N : Nat}  {this : Nat} {a1 : Nat}  {h : pv_H} {r : Int} (hd : 2 ≤ d)  (mthis : this ∈ pv_l7) (ma1 : a1 ∈ pv_l6)  (hf : fX7_holdsTicks_49 N  this a1  h = some r) : EV RX7 cX7_holdsTicks 4 (some .boolean) false d pv_SC (MC h) (some (.inl r)) 49 [none, none, none, none] [] pv_SC (MC h) := by
  unfold fX7_holdsTicks_49 at hf
  refine EV.iconst dX7_holdsTicks_49 (by decide) (by decide) ?_
  exact FV.zretp dX7_holdsTicks_50 (by decide) hf

set_option maxHeartbeats 4000000 in
set_option maxRecDepth 20000 in
theorem tX7_holdsTicks_4 {d N : Nat}  {this : Nat} {a1 : Nat} {h : pv_H} {r : Int} (hd : 2 ≤ d)  (mthis : this ∈ pv_l7) (ma1 : a1 ∈ pv_l6) : ∀ (n : Nat) (v2 : Int) (v3 : Int) , fX7_holdsTicks_4 N  this a1 n v2 v3 h = some r → EV RX7 cX7_holdsTicks 4 (some .boolean) false d pv_SC (MC h) (some (.inl r)) 4 [some (.inr (.inr (this))), some (.inr (.inr (a1))), some (.inl (v2)), some (.inl (v3))] [] pv_SC (MC h) := by
  intro n
  induction n with
  | zero =>
    intro v2 v3   hf
    cases hf
  | succ n ih =>
    intro v2 v3   hf
    rw [fX7_holdsTicks_4] at hf
    refine EV.iload_n dX7_holdsTicks_4 rfl rfl ?_
    refine EV.aload_n dX7_holdsTicks_5 rfl rfl ?_
    refine FV.getI dX7_holdsTicks_6 (sl6_0 _ ma1) fl_7_59 rfl ?_
    refine EV.icmp_ge (tgt := 60) dX7_holdsTicks_9 (by decide) (fun q1 => ?_) (fun q1 => ?_)
    · have hf := pv_gp hf q1
      refine EV.weak (L2 := [some (.inr (.inr (this))), none, some (.inl (v2)), none]) (And.intro rfl (And.intro rfl trivial)) ?_
      exact tX7_holdsTicks_60 hd  mthis ma1  hf
    · have hf := pv_gn hf q1
      refine EV.aload_n dX7_holdsTicks_12 rfl rfl ?_
      refine FV.getF (v := a1 + 1) dX7_holdsTicks_13 (sl6_0 _ ma1) fl_7_64 rfl (mu6_0 _ ma1 _) (hl6_0_2 _ ma1) ?_
      refine EV.iload_n dX7_holdsTicks_16 rfl rfl ?_
      obtain ⟨g2, hf⟩ := pv_gd hf
      refine FV.lald dX7_holdsTicks_17 (sl6_1 _ ma1) g2.1 g2.2 (j := (Int.toNat (v3))) rfl ?_
      refine EV.lconst (x := 0) dX7_holdsTicks_18 (by decide) (by decide) (by decide) ?_
      refine EV.lcmp dX7_holdsTicks_19 ?_
      refine EV.if_lt (tgt := 60) dX7_holdsTicks_20 (by decide) (fun q3 => ?_) (fun q3 => ?_)
      · have hf := pv_gp hf q3
        refine EV.weak (L2 := [some (.inr (.inr (this))), none, some (.inl (v2)), none]) (And.intro rfl (And.intro rfl trivial)) ?_
        exact tX7_holdsTicks_60 hd  mthis ma1  hf
      · have hf := pv_gn hf q3
        refine EV.iload_n dX7_holdsTicks_23 rfl rfl ?_
        refine EV.aload_n dX7_holdsTicks_24 rfl rfl ?_
        refine FV.getF (v := this + 1) dX7_holdsTicks_25 (sl7_0 _ mthis) fl_7_9 rfl (mu7_0 _ mthis _) (hl7_0_1 _ mthis) ?_
        refine EV.iconst dX7_holdsTicks_28 (by decide) (by decide) ?_
        refine FV.iald dX7_holdsTicks_29 (sl7_1 _ mthis) (by decide) (by decide) (j := 0) rfl ?_
        refine EV.icmp_ge (tgt := 49) dX7_holdsTicks_30 (by decide) (fun q4 => ?_) (fun q4 => ?_)
        · have hf := pv_gp hf q4
          refine EV.weak (L2 := [none, none, none, none]) trivial ?_
          exact tX7_holdsTicks_49 hd  mthis ma1  hf
        · have hf := pv_gn hf q4
          refine EV.aload_n dX7_holdsTicks_33 rfl rfl ?_
          refine FV.getF (v := a1 + 1) dX7_holdsTicks_34 (sl6_0 _ ma1) fl_7_64 rfl (mu6_0 _ ma1 _) (hl6_0_2 _ ma1) ?_
          refine EV.iload_n dX7_holdsTicks_37 rfl rfl ?_
          obtain ⟨g5, hf⟩ := pv_gd hf
          refine FV.lald dX7_holdsTicks_38 (sl6_1 _ ma1) g5.1 g5.2 (j := (Int.toNat (v3))) rfl ?_
          refine EV.aload_n dX7_holdsTicks_39 rfl rfl ?_
          refine EV.iload_n dX7_holdsTicks_40 rfl rfl ?_
          obtain ⟨r7, hc6, hf⟩ := pv_c1o hf
          refine EV.invV (As := [.inl (v3)]) (st := [.inr (.inl (h (a1 + 1) (Int.toNat (v3))))]) (d1 := d - 1) (sh1 := pv_SC) (h1 := MC h) (r1 := (some (.inl r7))) dX7_holdsTicks_41 (sl7_0 _ mthis) (by decide) md_X7_tickOf ml_X7_68 im_X7_tickOf se_X7_tickOf (tX7_tickOf (by omega) (mthis) hc6) (by omega) rfl rfl (Nat.le_of_ble_eq_true rfl) ⟨[], (List.append_nil _).symm⟩ ?_
          refine EV.eqS (st2 := [.inl (r7), .inr (.inl (h (a1 + 1) (Int.toNat (v3))))]) rfl ?_
          refine EV.i2l dX7_holdsTicks_44 ?_
          refine EV.lcmp dX7_holdsTicks_45 ?_
          refine EV.if_eq (tgt := 51) dX7_holdsTicks_46 (by decide) (fun q8 => ?_) (fun q8 => ?_)
          · have hf := pv_gp hf q8
            obtain ⟨x9, ex9, hf⟩ := pv_bo hf
            refine FV.inc (L2 := [some (.inr (.inr (this))), some (.inr (.inr (a1))), some (.inl (x9)), some (.inl (v3))]) dX7_holdsTicks_51 rfl (Nat.le_of_ble_eq_true rfl) ex9 rfl ?_
            obtain ⟨x10, ex10, hf⟩ := pv_bo hf
            refine FV.inc (L2 := [some (.inr (.inr (this))), some (.inr (.inr (a1))), some (.inl (x9)), some (.inl (x10))]) dX7_holdsTicks_54 rfl (Nat.le_of_ble_eq_true rfl) ex10 rfl ?_
            refine EV.goto (tgt := 4) dX7_holdsTicks_57 (by decide) ?_
            refine EV.weak (L2 := [some (.inr (.inr (this))), some (.inr (.inr (a1))), some (.inl (x9)), some (.inl (x10))]) (And.intro rfl (And.intro rfl (And.intro rfl (And.intro rfl trivial)))) ?_
            exact ih _ _   hf
          · have hf := pv_gn hf q8
            refine EV.weak (L2 := [none, none, none, none]) trivial ?_
            exact tX7_holdsTicks_49 hd  mthis ma1  hf

set_option maxHeartbeats 4000000 in
set_option maxRecDepth 20000 in
theorem tX7_holdsTicks {d N : Nat} {this : Nat} {a1 : Nat} {h : pv_H} {r : Int} (hd : 2 ≤ d) (mthis : this ∈ pv_l7) (ma1 : a1 ∈ pv_l6) (hf : fX7_holdsTicks N this a1 h = some r) : CALL yX7_holdsTicks cX7_holdsTicks 4 (some .boolean) d pv_SC (MC h) [.inr (.inr (this)), .inr (.inr (a1))] pv_SC (MC h) (some (.inl r)) := by
  unfold fX7_holdsTicks at hf
  refine EV.call (own := RX7) (ini := false) rfl rfl (fun q => by cases q) ⟨[], (List.append_nil _).symm⟩ (Nat.le_of_ble_eq_true rfl) ?_
  refine EV.eqL (L2 := [some (.inr (.inr (this))), some (.inr (.inr (a1))), none, none]) rfl ?_
  refine EV.iconst dX7_holdsTicks_0 (by decide) (by decide) ?_
  refine FV.sti (L2 := [some (.inr (.inr (this))), some (.inr (.inr (a1))), some (.inl (0)), none]) dX7_holdsTicks_1 rfl (Nat.le_of_ble_eq_true rfl) rfl rfl ?_
  refine EV.iconst dX7_holdsTicks_2 (by decide) (by decide) ?_
  refine FV.sti (L2 := [some (.inr (.inr (this))), some (.inr (.inr (a1))), some (.inl (0)), some (.inl (0))]) dX7_holdsTicks_3 rfl (Nat.le_of_ble_eq_true rfl) rfl rfl ?_
  refine EV.weak (L2 := [some (.inr (.inr (this))), some (.inr (.inr (a1))), some (.inl (0)), some (.inl (0))]) (And.intro rfl (And.intro rfl (And.intro rfl (And.intro rfl trivial)))) ?_
  exact tX7_holdsTicks_4 hd  mthis ma1 _ _ _   hf

noncomputable def fX7_hasPieces_76 (N : Nat)  (this : Nat) (a1 : Nat) (s0 : Int) (h : pv_H) : Option (Int) :=
  if s0 = 0 ∨ s0 = 1 then (some (s0)) else none

noncomputable def fX7_hasPieces_61 (N : Nat)  (this : Nat) (a1 : Nat) (v2 : Int) (h : pv_H) : Option (Int) :=
  if v2 = (h (this + 1) 1) then (fX7_hasPieces_76 N  this a1 (1) h) else (fX7_hasPieces_76 N  this a1 (0) h)

noncomputable def fX7_hasPieces_50 (N : Nat)  (this : Nat) (a1 : Nat)  (h : pv_H) : Option (Int) :=
  some (0)

noncomputable def fX7_hasPieces_4 (N : Nat)  (this : Nat) (a1 : Nat) : Nat → Int → Int → pv_H → Option (Int)
  | 0, _, _, _ => none
  | n + 1, v2, v3, h => if (h a1 1) ≤ v3 then (fX7_hasPieces_61 N  this a1 (v2) h) else (if 0 ≤ v3 ∧ v3 < 60 then (if (pv_cmp (h (a1 + 1) (Int.toNat (v3))) 0) = 0 then (fX7_hasPieces_61 N  this a1 (v2) h) else (if (h (this + 1) 1) ≤ v3 then (fX7_hasPieces_50 N  this a1  h) else (if 0 ≤ v3 ∧ v3 < 60 then (if 0 ≤ v3 ∧ v3 < 60 then (if (pv_cmp (h (a1 + 1) (Int.toNat (v3))) (h (this + 4) (Int.toNat (v3)))) = 0 then (pv_b (pv_w (v2 + 1)) fun x8 => pv_b (pv_w (v3 + 1)) fun x9 => fX7_hasPieces_4 N  this a1 n (x8) (x9) h) else (fX7_hasPieces_50 N  this a1  h)) else none) else none))) else none)

noncomputable def fX7_hasPieces (N : Nat) (this : Nat) (a1 : Nat) (h : pv_H) : Option (Int) :=
  fX7_hasPieces_4 N  this a1 N (0) (0) h

set_option maxHeartbeats 4000000 in
set_option maxRecDepth 20000 in
theorem tX7_hasPieces_76 {d N : Nat}  {this : Nat} {a1 : Nat} {s0 : Int} {h : pv_H} {r : Int} (hd : 1 ≤ d)  (mthis : this ∈ pv_l7) (ma1 : a1 ∈ pv_l6)  (hf : fX7_hasPieces_76 N  this a1 s0 h = some r) : EV RX7 cX7_hasPieces 4 (some .boolean) false d pv_SC (MC h) (some (.inl r)) 76 [none, none, none, none] [.inl (s0)] pv_SC (MC h) := by
  unfold fX7_hasPieces_76 at hf
  obtain ⟨g11, hf⟩ := pv_gd hf
  exact FV.zretp dX7_hasPieces_76 g11 hf

set_option maxHeartbeats 4000000 in
set_option maxRecDepth 20000 in
theorem tX7_hasPieces_61 {d N : Nat}  {this : Nat} {a1 : Nat} {v2 : Int} {h : pv_H} {r : Int} (hd : 1 ≤ d)  (mthis : this ∈ pv_l7) (ma1 : a1 ∈ pv_l6)  (hf : fX7_hasPieces_61 N  this a1 v2 h = some r) : EV RX7 cX7_hasPieces 4 (some .boolean) false d pv_SC (MC h) (some (.inl r)) 61 [some (.inr (.inr (this))), none, some (.inl (v2)), none] [] pv_SC (MC h) := by
  unfold fX7_hasPieces_61 at hf
  refine EV.iload_n dX7_hasPieces_61 rfl rfl ?_
  refine EV.aload_n dX7_hasPieces_62 rfl rfl ?_
  refine FV.getF (v := this + 1) dX7_hasPieces_63 (sl7_0 _ mthis) fl_7_9 rfl (mu7_0 _ mthis _) (hl7_0_1 _ mthis) ?_
  refine EV.iconst dX7_hasPieces_66 (by decide) (by decide) ?_
  refine FV.iald dX7_hasPieces_67 (sl7_1 _ mthis) (by decide) (by decide) (j := 1) rfl ?_
  refine EV.icmp_ne (tgt := 75) dX7_hasPieces_68 (by decide) (fun q10 => ?_) (fun q10 => ?_)
  · have hf := pv_gn hf q10
    refine EV.iconst dX7_hasPieces_75 (by decide) (by decide) ?_
    refine EV.weak (L2 := [none, none, none, none]) trivial ?_
    exact tX7_hasPieces_76 hd  mthis ma1  hf
  · have hf := pv_gp hf q10
    refine EV.iconst dX7_hasPieces_71 (by decide) (by decide) ?_
    refine EV.goto (tgt := 76) dX7_hasPieces_72 (by decide) ?_
    refine EV.weak (L2 := [none, none, none, none]) trivial ?_
    exact tX7_hasPieces_76 hd  mthis ma1  hf

set_option maxHeartbeats 4000000 in
set_option maxRecDepth 20000 in
theorem tX7_hasPieces_50 {d N : Nat}  {this : Nat} {a1 : Nat}  {h : pv_H} {r : Int} (hd : 1 ≤ d)  (mthis : this ∈ pv_l7) (ma1 : a1 ∈ pv_l6)  (hf : fX7_hasPieces_50 N  this a1  h = some r) : EV RX7 cX7_hasPieces 4 (some .boolean) false d pv_SC (MC h) (some (.inl r)) 50 [none, none, none, none] [] pv_SC (MC h) := by
  unfold fX7_hasPieces_50 at hf
  refine EV.iconst dX7_hasPieces_50 (by decide) (by decide) ?_
  exact FV.zretp dX7_hasPieces_51 (by decide) hf

set_option maxHeartbeats 4000000 in
set_option maxRecDepth 20000 in
theorem tX7_hasPieces_4 {d N : Nat}  {this : Nat} {a1 : Nat} {h : pv_H} {r : Int} (hd : 1 ≤ d)  (mthis : this ∈ pv_l7) (ma1 : a1 ∈ pv_l6) : ∀ (n : Nat) (v2 : Int) (v3 : Int) , fX7_hasPieces_4 N  this a1 n v2 v3 h = some r → EV RX7 cX7_hasPieces 4 (some .boolean) false d pv_SC (MC h) (some (.inl r)) 4 [some (.inr (.inr (this))), some (.inr (.inr (a1))), some (.inl (v2)), some (.inl (v3))] [] pv_SC (MC h) := by
  intro n
  induction n with
  | zero =>
    intro v2 v3   hf
    cases hf
  | succ n ih =>
    intro v2 v3   hf
    rw [fX7_hasPieces_4] at hf
    refine EV.iload_n dX7_hasPieces_4 rfl rfl ?_
    refine EV.aload_n dX7_hasPieces_5 rfl rfl ?_
    refine FV.getI dX7_hasPieces_6 (sl6_0 _ ma1) fl_7_59 rfl ?_
    refine EV.icmp_ge (tgt := 61) dX7_hasPieces_9 (by decide) (fun q1 => ?_) (fun q1 => ?_)
    · have hf := pv_gp hf q1
      refine EV.weak (L2 := [some (.inr (.inr (this))), none, some (.inl (v2)), none]) (And.intro rfl (And.intro rfl trivial)) ?_
      exact tX7_hasPieces_61 hd  mthis ma1  hf
    · have hf := pv_gn hf q1
      refine EV.aload_n dX7_hasPieces_12 rfl rfl ?_
      refine FV.getF (v := a1 + 1) dX7_hasPieces_13 (sl6_0 _ ma1) fl_7_64 rfl (mu6_0 _ ma1 _) (hl6_0_2 _ ma1) ?_
      refine EV.iload_n dX7_hasPieces_16 rfl rfl ?_
      obtain ⟨g2, hf⟩ := pv_gd hf
      refine FV.lald dX7_hasPieces_17 (sl6_1 _ ma1) g2.1 g2.2 (j := (Int.toNat (v3))) rfl ?_
      refine EV.lconst (x := 0) dX7_hasPieces_18 (by decide) (by decide) (by decide) ?_
      refine EV.lcmp dX7_hasPieces_19 ?_
      refine EV.if_eq (tgt := 61) dX7_hasPieces_20 (by decide) (fun q3 => ?_) (fun q3 => ?_)
      · have hf := pv_gp hf q3
        refine EV.weak (L2 := [some (.inr (.inr (this))), none, some (.inl (v2)), none]) (And.intro rfl (And.intro rfl trivial)) ?_
        exact tX7_hasPieces_61 hd  mthis ma1  hf
      · have hf := pv_gn hf q3
        refine EV.iload_n dX7_hasPieces_23 rfl rfl ?_
        refine EV.aload_n dX7_hasPieces_24 rfl rfl ?_
        refine FV.getF (v := this + 1) dX7_hasPieces_25 (sl7_0 _ mthis) fl_7_9 rfl (mu7_0 _ mthis _) (hl7_0_1 _ mthis) ?_
        refine EV.iconst dX7_hasPieces_28 (by decide) (by decide) ?_
        refine FV.iald dX7_hasPieces_29 (sl7_1 _ mthis) (by decide) (by decide) (j := 1) rfl ?_
        refine EV.icmp_ge (tgt := 50) dX7_hasPieces_30 (by decide) (fun q4 => ?_) (fun q4 => ?_)
        · have hf := pv_gp hf q4
          refine EV.weak (L2 := [none, none, none, none]) trivial ?_
          exact tX7_hasPieces_50 hd  mthis ma1  hf
        · have hf := pv_gn hf q4
          refine EV.aload_n dX7_hasPieces_33 rfl rfl ?_
          refine FV.getF (v := a1 + 1) dX7_hasPieces_34 (sl6_0 _ ma1) fl_7_64 rfl (mu6_0 _ ma1 _) (hl6_0_2 _ ma1) ?_
          refine EV.iload_n dX7_hasPieces_37 rfl rfl ?_
          obtain ⟨g5, hf⟩ := pv_gd hf
          refine FV.lald dX7_hasPieces_38 (sl6_1 _ ma1) g5.1 g5.2 (j := (Int.toNat (v3))) rfl ?_
          refine EV.aload_n dX7_hasPieces_39 rfl rfl ?_
          refine FV.getF (v := this + 4) dX7_hasPieces_40 (sl7_0 _ mthis) fl_7_21 rfl (mu7_0 _ mthis _) (hl7_0_4 _ mthis) ?_
          refine EV.iload_n dX7_hasPieces_43 rfl rfl ?_
          obtain ⟨g6, hf⟩ := pv_gd hf
          refine FV.iald dX7_hasPieces_44 (sl7_4 _ mthis) g6.1 g6.2 (j := (Int.toNat (v3))) rfl ?_
          refine EV.i2l dX7_hasPieces_45 ?_
          refine EV.lcmp dX7_hasPieces_46 ?_
          refine EV.if_eq (tgt := 52) dX7_hasPieces_47 (by decide) (fun q7 => ?_) (fun q7 => ?_)
          · have hf := pv_gp hf q7
            obtain ⟨x8, ex8, hf⟩ := pv_bo hf
            refine FV.inc (L2 := [some (.inr (.inr (this))), some (.inr (.inr (a1))), some (.inl (x8)), some (.inl (v3))]) dX7_hasPieces_52 rfl (Nat.le_of_ble_eq_true rfl) ex8 rfl ?_
            obtain ⟨x9, ex9, hf⟩ := pv_bo hf
            refine FV.inc (L2 := [some (.inr (.inr (this))), some (.inr (.inr (a1))), some (.inl (x8)), some (.inl (x9))]) dX7_hasPieces_55 rfl (Nat.le_of_ble_eq_true rfl) ex9 rfl ?_
            refine EV.goto (tgt := 4) dX7_hasPieces_58 (by decide) ?_
            refine EV.weak (L2 := [some (.inr (.inr (this))), some (.inr (.inr (a1))), some (.inl (x8)), some (.inl (x9))]) (And.intro rfl (And.intro rfl (And.intro rfl (And.intro rfl trivial)))) ?_
            exact ih _ _   hf
          · have hf := pv_gn hf q7
            refine EV.weak (L2 := [none, none, none, none]) trivial ?_
            exact tX7_hasPieces_50 hd  mthis ma1  hf

set_option maxHeartbeats 4000000 in
set_option maxRecDepth 20000 in
theorem tX7_hasPieces {d N : Nat} {this : Nat} {a1 : Nat} {h : pv_H} {r : Int} (hd : 1 ≤ d) (mthis : this ∈ pv_l7) (ma1 : a1 ∈ pv_l6) (hf : fX7_hasPieces N this a1 h = some r) : CALL yX7_hasPieces cX7_hasPieces 4 (some .boolean) d pv_SC (MC h) [.inr (.inr (this)), .inr (.inr (a1))] pv_SC (MC h) (some (.inl r)) := by
  unfold fX7_hasPieces at hf
  refine EV.call (own := RX7) (ini := false) rfl rfl (fun q => by cases q) ⟨[], (List.append_nil _).symm⟩ (Nat.le_of_ble_eq_true rfl) ?_
  refine EV.eqL (L2 := [some (.inr (.inr (this))), some (.inr (.inr (a1))), none, none]) rfl ?_
  refine EV.iconst dX7_hasPieces_0 (by decide) (by decide) ?_
  refine FV.sti (L2 := [some (.inr (.inr (this))), some (.inr (.inr (a1))), some (.inl (0)), none]) dX7_hasPieces_1 rfl (Nat.le_of_ble_eq_true rfl) rfl rfl ?_
  refine EV.iconst dX7_hasPieces_2 (by decide) (by decide) ?_
  refine FV.sti (L2 := [some (.inr (.inr (this))), some (.inr (.inr (a1))), some (.inl (0)), some (.inl (0))]) dX7_hasPieces_3 rfl (Nat.le_of_ble_eq_true rfl) rfl rfl ?_
  refine EV.weak (L2 := [some (.inr (.inr (this))), some (.inr (.inr (a1))), some (.inl (0)), some (.inl (0))]) (And.intro rfl (And.intro rfl (And.intro rfl (And.intro rfl trivial)))) ?_
  exact tX7_hasPieces_4 hd  mthis ma1 _ _ _   hf
