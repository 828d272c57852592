noncomputable def fX5_begin_35 (N : Nat)  (this : Nat) (a1 : Int) : Nat → Int → Int → pv_H → Option (pv_H)
  | 0, _, _, _ => none
  | n + 1, v2, v3, h => if (h this 0) ≤ v3 then (some h) else (if 0 ≤ v3 ∧ v3 < 60 then (pv_b (pv_up h (this + 1) (Int.toNat (v3)) 10) fun h6 => if 0 ≤ v3 ∧ v3 < 60 then (pv_b (pv_up h6 (this + 2) (Int.toNat (v3)) 100) fun h8 => if 0 ≤ v3 ∧ v3 < 60 then (pv_b (pv_up h8 (this + 3) (Int.toNat (v3)) 0) fun h10 => if 0 ≤ v3 ∧ v3 < 60 then (pv_b (pv_up h10 (this + 4) (Int.toNat (v3)) 0) fun h12 => if ¬ v2 = 0 then (if 0 ≤ v3 ∧ v3 < 60 then (pv_b (pv_up h12 (this + 5) (Int.toNat (v3)) (pv_w (Int.tdiv (pv_w ((pv_w ((pv_w (v3 + 1)) * (pv_w ((h12 this 0) - v3)))) * 400)) v2))) fun h15 => pv_b (pv_w (v3 + 1)) fun x16 => fX5_begin_35 N  this a1 n (v2) (x16) h15) else none) else none) else none) else none) else none) else none)

noncomputable def fX5_begin (N : Nat) (this : Nat) (a1 : Int) (h : pv_H) : Option (pv_H) :=
  pv_b (pv_up h this 0 (min (max a1 0) 60)) fun h1 => pv_b (pv_up h1 this 1 0) fun h2 => pv_b (pv_w ((pv_w ((h2 this 0) + 1)) * (pv_w ((h2 this 0) + 1)))) fun x3 => fX5_begin_35 N  this a1 N (x3) (0) h2

set_option maxHeartbeats 4000000 in
set_option maxRecDepth 20000 in
theorem tX5_begin_35 {d N : Nat}  {this : Nat} {a1 : Int} {h' : pv_H}  (hd : 2 ≤ d)  (mthis : this ∈ pv_l5) : ∀ (n : Nat) (v2 : Int) (v3 : Int)  (h : pv_H), fX5_begin_35 N  this a1 n v2 v3 h = some h' → EV RX5 cX5_begin 4 none false d pv_SC (MC h') none 35 [some (.inr (.inr (this))), none, some (.inl (v2)), some (.inl (v3))] [] pv_SC (MC h) := by
  intro n
  induction n with
  | zero =>
    intro v2 v3  h hf
    cases hf
  | succ n ih =>
    intro v2 v3  h hf
    rw [fX5_begin_35] at hf
    refine EV.iload_n dX5_begin_35 rfl rfl ?_
    refine EV.aload_n dX5_begin_36 rfl rfl ?_
    refine FV.getI dX5_begin_37 (sl5_0 _ mthis) fl_5_36 rfl ?_
    refine EV.icmp_ge (tgt := 101) dX5_begin_40 (by decide) (fun q4 => ?_) (fun q4 => ?_)
    · have hf := pv_gp hf q4
      exact FV.vret dX5_begin_101 hf
    · have hf := pv_gn hf q4
      refine EV.aload_n dX5_begin_43 rfl rfl ?_
      refine FV.getF (v := this + 1) dX5_begin_44 (sl5_0 _ mthis) fl_5_9 rfl (mu5_0 _ mthis _) (hl5_0_2 _ mthis) ?_
      refine EV.iload_n dX5_begin_47 rfl rfl ?_
      refine EV.bipush dX5_begin_48 (by decide) (by decide) ?_
      obtain ⟨g5, hf⟩ := pv_gd hf
      obtain ⟨h6, eh6, hf⟩ := pv_bo hf
      refine FV.iast dX5_begin_50 (sl5_1 _ mthis) g5.1 g5.2 (j := (Int.toNat (v3))) rfl eh6 ?_
      refine EV.aload_n dX5_begin_51 rfl rfl ?_
      refine FV.getF (v := this + 2) dX5_begin_52 (sl5_0 _ mthis) fl_5_15 rfl (mu5_0 _ mthis _) (hl5_0_3 _ mthis) ?_
      refine EV.iload_n dX5_begin_55 rfl rfl ?_
      refine EV.bipush dX5_begin_56 (by decide) (by decide) ?_
      obtain ⟨g7, hf⟩ := pv_gd hf
      obtain ⟨h8, eh8, hf⟩ := pv_bo hf
      refine FV.iast dX5_begin_58 (sl5_2 _ mthis) g7.1 g7.2 (j := (Int.toNat (v3))) rfl eh8 ?_
      refine EV.aload_n dX5_begin_59 rfl rfl ?_
      refine FV.getF (v := this + 3) dX5_begin_60 (sl5_0 _ mthis) fl_5_18 rfl (mu5_0 _ mthis _) (hl5_0_4 _ mthis) ?_
      refine EV.iload_n dX5_begin_63 rfl rfl ?_
      refine EV.iconst dX5_begin_64 (by decide) (by decide) ?_
      obtain ⟨g9, hf⟩ := pv_gd hf
      obtain ⟨h10, eh10, hf⟩ := pv_bo hf
      refine FV.iast dX5_begin_65 (sl5_3 _ mthis) g9.1 g9.2 (j := (Int.toNat (v3))) rfl eh10 ?_
      refine EV.aload_n dX5_begin_66 rfl rfl ?_
      refine FV.getF (v := this + 4) dX5_begin_67 (sl5_0 _ mthis) fl_5_21 rfl (mu5_0 _ mthis _) (hl5_0_5 _ mthis) ?_
      refine EV.iload_n dX5_begin_70 rfl rfl ?_
      refine EV.iconst dX5_begin_71 (by decide) (by decide) ?_
      obtain ⟨g11, hf⟩ := pv_gd hf
      obtain ⟨h12, eh12, hf⟩ := pv_bo hf
      refine FV.iast dX5_begin_72 (sl5_4 _ mthis) g11.1 g11.2 (j := (Int.toNat (v3))) rfl eh12 ?_
      refine EV.aload_n dX5_begin_73 rfl rfl ?_
      refine FV.getF (v := this + 5) dX5_begin_74 (sl5_0 _ mthis) fl_5_24 rfl (mu5_0 _ mthis _) (hl5_0_6 _ mthis) ?_
      refine EV.iload_n dX5_begin_77 rfl rfl ?_
      refine EV.iload_n dX5_begin_78 rfl rfl ?_
      refine EV.iconst dX5_begin_79 (by decide) (by decide) ?_
      refine EV.iadd dX5_begin_80 ?_
      refine EV.aload_n dX5_begin_81 rfl rfl ?_
      refine FV.getI dX5_begin_82 (sl5_0 _ mthis) fl_5_36 rfl ?_
      refine EV.iload_n dX5_begin_85 rfl rfl ?_
      refine EV.isub dX5_begin_86 ?_
      refine EV.imul dX5_begin_87 ?_
      refine EV.sipush dX5_begin_88 (by decide) (by decide) ?_
      refine EV.imul dX5_begin_91 ?_
      refine EV.iload_n dX5_begin_92 rfl rfl ?_
      obtain ⟨g13, hf⟩ := pv_gd hf
      refine EV.idiv dX5_begin_93 g13 ?_
      obtain ⟨g14, hf⟩ := pv_gd hf
      obtain ⟨h15, eh15, hf⟩ := pv_bo hf
      refine FV.iast dX5_begin_94 (sl5_5 _ mthis) g14.1 g14.2 (j := (Int.toNat (v3))) rfl eh15 ?_
      obtain ⟨x16, ex16, hf⟩ := pv_bo hf
      refine FV.inc (L2 := [some (.inr (.inr (this))), none, some (.inl (v2)), some (.inl (x16))]) dX5_begin_95 rfl (Nat.le_of_ble_eq_true rfl) ex16 rfl ?_
      refine EV.goto (tgt := 35) dX5_begin_98 (by decide) ?_
      refine EV.weak (L2 := [some (.inr (.inr (this))), none, some (.inl (v2)), some (.inl (x16))]) (And.intro rfl (And.intro rfl (And.intro rfl trivial))) ?_
      exact ih _ _  _ hf

set_option maxHeartbeats 4000000 in
set_option maxRecDepth 20000 in
theorem tX5_begin {d N : Nat} {this : Nat} {a1 : Int} {h h' : pv_H}  (hd : 2 ≤ d) (mthis : this ∈ pv_l5) (hf : fX5_begin N this a1 h = some h') : CALL yX5_begin cX5_begin 4 none d pv_SC (MC h) [.inr (.inr (this)), .inl (a1)] pv_SC (MC h') none := by
  unfold fX5_begin at hf
  refine EV.call (own := RX5) (ini := false) rfl rfl (fun q => by cases q) ⟨[], (List.append_nil _).symm⟩ (Nat.le_of_ble_eq_true rfl) ?_
  refine EV.eqL (L2 := [some (.inr (.inr (this))), some (.inl (a1)), none, none]) rfl ?_
  refine EV.aload_n dX5_begin_0 rfl rfl ?_
  refine EV.iload_n dX5_begin_1 rfl rfl ?_
  refine EV.iconst dX5_begin_2 (by decide) (by decide) ?_
  refine EV.mmax dX5_begin_3 ml_X5_27 w_maxs w_mai w_maxc (by omega) (Nat.le_of_ble_eq_true rfl) ?_
  refine EV.bipush dX5_begin_6 (by decide) (by decide) ?_
  refine EV.mmin dX5_begin_8 ml_X5_33 w_mins w_mai w_minc (by omega) (Nat.le_of_ble_eq_true rfl) ?_
  obtain ⟨h1, eh1, hf⟩ := pv_bo hf
  refine FV.putI dX5_begin_11 (sl5_0 _ mthis) fl_5_36 rfl rfl eh1 ?_
  refine EV.aload_n dX5_begin_14 rfl rfl ?_
  refine EV.iconst dX5_begin_15 (by decide) (by decide) ?_
  obtain ⟨h2, eh2, hf⟩ := pv_bo hf
  refine FV.putI dX5_begin_16 (sl5_0 _ mthis) fl_5_40 rfl rfl eh2 ?_
  refine EV.aload_n dX5_begin_19 rfl rfl ?_
  refine FV.getI dX5_begin_20 (sl5_0 _ mthis) fl_5_36 rfl ?_
  refine EV.iconst dX5_begin_23 (by decide) (by decide) ?_
  refine EV.iadd dX5_begin_24 ?_
  refine EV.aload_n dX5_begin_25 rfl rfl ?_
  refine FV.getI dX5_begin_26 (sl5_0 _ mthis) fl_5_36 rfl ?_
  refine EV.iconst dX5_begin_29 (by decide) (by decide) ?_
  refine EV.iadd dX5_begin_30 ?_
  refine EV.imul dX5_begin_31 ?_
  obtain ⟨x3, ex3, hf⟩ := pv_bo hf
  refine FV.sti (L2 := [some (.inr (.inr (this))), some (.inl (a1)), some (.inl (x3)), none]) dX5_begin_32 rfl (Nat.le_of_ble_eq_true rfl) ex3 rfl ?_
  refine EV.iconst dX5_begin_33 (by decide) (by decide) ?_
  refine FV.sti (L2 := [some (.inr (.inr (this))), some (.inl (a1)), some (.inl (x3)), some (.inl (0))]) dX5_begin_34 rfl (Nat.le_of_ble_eq_true rfl) rfl rfl ?_
  refine EV.weak (L2 := [some (.inr (.inr (this))), none, some (.inl (x3)), some (.inl (0))]) (And.intro rfl (And.intro rfl (And.intro rfl trivial))) ?_
  exact tX5_begin_35 hd  mthis _ _ _  _ hf

noncomputable def fX5_copyFrom (N : Nat) (this : Nat) (a1 : Nat) (h : pv_H) : Option (pv_H) :=
  pv_b (pv_up h this 0 (h a1 0)) fun h1 => pv_b (pv_up h1 this 1 (h1 a1 1)) fun h2 => pv_b (pv_ur h2 (this + 1) (pv_cp (h2 (a1 + 1)) (h2 (this + 1)) (Int.toNat (0)) (Int.toNat (0)) (Int.toNat (60)))) fun h3 => pv_b (pv_ur h3 (this + 2) (pv_cp (h3 (a1 + 2)) (h3 (this + 2)) (Int.toNat (0)) (Int.toNat (0)) (Int.toNat (60)))) fun h4 => pv_b (pv_ur h4 (this + 3) (pv_cp (h4 (a1 + 3)) (h4 (this + 3)) (Int.toNat (0)) (Int.toNat (0)) (Int.toNat (60)))) fun h5 => pv_b (pv_ur h5 (this + 4) (pv_cp (h5 (a1 + 4)) (h5 (this + 4)) (Int.toNat (0)) (Int.toNat (0)) (Int.toNat (60)))) fun h6 => pv_b (pv_ur h6 (this + 5) (pv_cp (h6 (a1 + 5)) (h6 (this + 5)) (Int.toNat (0)) (Int.toNat (0)) (Int.toNat (60)))) fun h7 => some h7

set_option maxHeartbeats 4000000 in
set_option maxRecDepth 20000 in
theorem tX5_copyFrom {d N : Nat} {this : Nat} {a1 : Nat} {h h' : pv_H}  (hd : 2 ≤ d) (mthis : this ∈ pv_l5) (ma1 : a1 ∈ pv_l5) (hf : fX5_copyFrom N this a1 h = some h') : CALL yX5_copyFrom cX5_copyFrom 2 none d pv_SC (MC h) [.inr (.inr (this)), .inr (.inr (a1))] pv_SC (MC h') none := by
  unfold fX5_copyFrom at hf
  refine EV.call (own := RX5) (ini := false) rfl rfl (fun q => by cases q) ⟨[], (List.append_nil _).symm⟩ (Nat.le_of_ble_eq_true rfl) ?_
  refine EV.eqL (L2 := [some (.inr (.inr (this))), some (.inr (.inr (a1)))]) rfl ?_
  refine EV.aload_n dX5_copyFrom_0 rfl rfl ?_
  refine EV.aload_n dX5_copyFrom_1 rfl rfl ?_
  refine FV.getI dX5_copyFrom_2 (sl5_0 _ ma1) fl_5_36 rfl ?_
  obtain ⟨h1, eh1, hf⟩ := pv_bo hf
  refine FV.putI dX5_copyFrom_5 (sl5_0 _ mthis) fl_5_36 rfl rfl eh1 ?_
  refine EV.aload_n dX5_copyFrom_8 rfl rfl ?_
  refine EV.aload_n dX5_copyFrom_9 rfl rfl ?_
  refine FV.getI dX5_copyFrom_10 (sl5_0 _ ma1) fl_5_40 rfl ?_
  obtain ⟨h2, eh2, hf⟩ := pv_bo hf
  refine FV.putI dX5_copyFrom_13 (sl5_0 _ mthis) fl_5_40 rfl rfl eh2 ?_
  refine EV.aload_n dX5_copyFrom_16 rfl rfl ?_
  refine FV.getF (v := a1 + 1) dX5_copyFrom_17 (sl5_0 _ ma1) fl_5_9 rfl (mu5_0 _ ma1 _) (hl5_0_2 _ ma1) ?_
  refine EV.iconst dX5_copyFrom_20 (by decide) (by decide) ?_
  refine EV.aload_n dX5_copyFrom_21 rfl rfl ?_
  refine FV.getF (v := this + 1) dX5_copyFrom_22 (sl5_0 _ mthis) fl_5_9 rfl (mu5_0 _ mthis _) (hl5_0_2 _ mthis) ?_
  refine EV.iconst dX5_copyFrom_25 (by decide) (by decide) ?_
  refine EV.bipush dX5_copyFrom_26 (by decide) (by decide) ?_
  obtain ⟨h3, eh3, hf⟩ := pv_bo hf
  refine FV.copy dX5_copyFrom_28 ml_X5_43 (by omega) (Nat.le_of_ble_eq_true rfl) (sl5_1 _ ma1) (sl5_1 _ mthis) (by decide) (by decide) (by decide) (by decide) (by decide) eh3 ?_
  refine EV.aload_n dX5_copyFrom_31 rfl rfl ?_
  refine FV.getF (v := a1 + 2) dX5_copyFrom_32 (sl5_0 _ ma1) fl_5_15 rfl (mu5_0 _ ma1 _) (hl5_0_3 _ ma1) ?_
  refine EV.iconst dX5_copyFrom_35 (by decide) (by decide) ?_
  refine EV.aload_n dX5_copyFrom_36 rfl rfl ?_
  refine FV.getF (v := this + 2) dX5_copyFrom_37 (sl5_0 _ mthis) fl_5_15 rfl (mu5_0 _ mthis _) (hl5_0_3 _ mthis) ?_
  refine EV.iconst dX5_copyFrom_40 (by decide) (by decide) ?_
  refine EV.bipush dX5_copyFrom_41 (by decide) (by decide) ?_
  obtain ⟨h4, eh4, hf⟩ := pv_bo hf
  refine FV.copy dX5_copyFrom_43 ml_X5_43 (by omega) (Nat.le_of_ble_eq_true rfl) (sl5_2 _ ma1) (sl5_2 _ mthis) (by decide) (by decide) (by decide) (by decide) (by decide) eh4 ?_
  refine EV.aload_n dX5_copyFrom_46 rfl rfl ?_
  refine FV.getF (v := a1 + 3) dX5_copyFrom_47 (sl5_0 _ ma1) fl_5_18 rfl (mu5_0 _ ma1 _) (hl5_0_4 _ ma1) ?_
  refine EV.iconst dX5_copyFrom_50 (by decide) (by decide) ?_
  refine EV.aload_n dX5_copyFrom_51 rfl rfl ?_
  refine FV.getF (v := this + 3) dX5_copyFrom_52 (sl5_0 _ mthis) fl_5_18 rfl (mu5_0 _ mthis _) (hl5_0_4 _ mthis) ?_
  refine EV.iconst dX5_copyFrom_55 (by decide) (by decide) ?_
  refine EV.bipush dX5_copyFrom_56 (by decide) (by decide) ?_
  obtain ⟨h5, eh5, hf⟩ := pv_bo hf
  refine FV.copy dX5_copyFrom_58 ml_X5_43 (by omega) (Nat.le_of_ble_eq_true rfl) (sl5_3 _ ma1) (sl5_3 _ mthis) (by decide) (by decide) (by decide) (by decide) (by decide) eh5 ?_
  refine EV.aload_n dX5_copyFrom_61 rfl rfl ?_
  refine FV.getF (v := a1 + 4) dX5_copyFrom_62 (sl5_0 _ ma1) fl_5_21 rfl (mu5_0 _ ma1 _) (hl5_0_5 _ ma1) ?_
  refine EV.iconst dX5_copyFrom_65 (by decide) (by decide) ?_
  refine EV.aload_n dX5_copyFrom_66 rfl rfl ?_
  refine FV.getF (v := this + 4) dX5_copyFrom_67 (sl5_0 _ mthis) fl_5_21 rfl (mu5_0 _ mthis _) (hl5_0_5 _ mthis) ?_
  refine EV.iconst dX5_copyFrom_70 (by decide) (by decide) ?_
  refine EV.bipush dX5_copyFrom_71 (by decide) (by decide) ?_
  obtain ⟨h6, eh6, hf⟩ := pv_bo hf
  refine FV.copy dX5_copyFrom_73 ml_X5_43 (by omega) (Nat.le_of_ble_eq_true rfl) (sl5_4 _ ma1) (sl5_4 _ mthis) (by decide) (by decide) (by decide) (by decide) (by decide) eh6 ?_
  refine EV.aload_n dX5_copyFrom_76 rfl rfl ?_
  refine FV.getF (v := a1 + 5) dX5_copyFrom_77 (sl5_0 _ ma1) fl_5_24 rfl (mu5_0 _ ma1 _) (hl5_0_6 _ ma1) ?_
  refine EV.iconst dX5_copyFrom_80 (by decide) (by decide) ?_
  refine EV.aload_n dX5_copyFrom_81 rfl rfl ?_
  refine FV.getF (v := this + 5) dX5_copyFrom_82 (sl5_0 _ mthis) fl_5_24 rfl (mu5_0 _ mthis _) (hl5_0_6 _ mthis) ?_
  refine EV.iconst dX5_copyFrom_85 (by decide) (by decide) ?_
  refine EV.bipush dX5_copyFrom_86 (by decide) (by decide) ?_
  obtain ⟨h7, eh7, hf⟩ := pv_bo hf
  refine FV.copy dX5_copyFrom_88 ml_X5_43 (by omega) (Nat.le_of_ble_eq_true rfl) (sl5_5 _ ma1) (sl5_5 _ mthis) (by decide) (by decide) (by decide) (by decide) (by decide) eh7 ?_
  exact FV.vret dX5_copyFrom_91 hf

noncomputable def fX5_takeCell (N : Nat) (this : Nat) (a1 : Int) (a2 : Nat) (a3 : Int) (h : pv_H) : Option (pv_H) :=
  if 0 ≤ a3 ∧ a3 < 60 then (if 0 ≤ a1 ∧ a1 < 60 then (pv_b (pv_up h (this + 1) (Int.toNat (a1)) (h (a2 + 1) (Int.toNat (a3)))) fun h3 => if 0 ≤ a3 ∧ a3 < 60 then (if 0 ≤ a1 ∧ a1 < 60 then (pv_b (pv_up h3 (this + 2) (Int.toNat (a1)) (h3 (a2 + 2) (Int.toNat (a3)))) fun h6 => if 0 ≤ a3 ∧ a3 < 60 then (if 0 ≤ a1 ∧ a1 < 60 then (pv_b (pv_up h6 (this + 3) (Int.toNat (a1)) (h6 (a2 + 3) (Int.toNat (a3)))) fun h9 => if 0 ≤ a3 ∧ a3 < 60 then (if 0 ≤ a1 ∧ a1 < 60 then (pv_b (pv_up h9 (this + 4) (Int.toNat (a1)) (h9 (a2 + 4) (Int.toNat (a3)))) fun h12 => some h12) else none) else none) else none) else none) else none) else none) else none) else none

set_option maxHeartbeats 4000000 in
set_option maxRecDepth 20000 in
theorem tX5_takeCell {d N : Nat} {this : Nat} {a1 : Int} {a2 : Nat} {a3 : Int} {h h' : pv_H}  (hd : 1 ≤ d) (mthis : this ∈ pv_l5) (ma2 : a2 ∈ pv_l5) (hf : fX5_takeCell N this a1 a2 a3 h = some h') : CALL yX5_takeCell cX5_takeCell 4 none d pv_SC (MC h) [.inr (.inr (this)), .inl (a1), .inr (.inr (a2)), .inl (a3)] pv_SC (MC h') none := by
  unfold fX5_takeCell at hf
  refine EV.call (own := RX5) (ini := false) rfl rfl (fun q => by cases q) ⟨[], (List.append_nil _).symm⟩ (Nat.le_of_ble_eq_true rfl) ?_
  refine EV.eqL (L2 := [some (.inr (.inr (this))), some (.inl (a1)), some (.inr (.inr (a2))), some (.inl (a3))]) rfl ?_
  refine EV.aload_n dX5_takeCell_0 rfl rfl ?_
  refine FV.getF (v := this + 1) dX5_takeCell_1 (sl5_0 _ mthis) fl_5_9 rfl (mu5_0 _ mthis _) (hl5_0_2 _ mthis) ?_
  refine EV.iload_n dX5_takeCell_4 rfl rfl ?_
  refine EV.aload_n dX5_takeCell_5 rfl rfl ?_
  refine FV.getF (v := a2 + 1) dX5_takeCell_6 (sl5_0 _ ma2) fl_5_9 rfl (mu5_0 _ ma2 _) (hl5_0_2 _ ma2) ?_
  refine EV.iload_n dX5_takeCell_9 rfl rfl ?_
  obtain ⟨g1, hf⟩ := pv_gd hf
  refine FV.iald dX5_takeCell_10 (sl5_1 _ ma2) g1.1 g1.2 (j := (Int.toNat (a3))) rfl ?_
  obtain ⟨g2, hf⟩ := pv_gd hf
  obtain ⟨h3, eh3, hf⟩ := pv_bo hf
  refine FV.iast dX5_takeCell_11 (sl5_1 _ mthis) g2.1 g2.2 (j := (Int.toNat (a1))) rfl eh3 ?_
  refine EV.aload_n dX5_takeCell_12 rfl rfl ?_
  refine FV.getF (v := this + 2) dX5_takeCell_13 (sl5_0 _ mthis) fl_5_15 rfl (mu5_0 _ mthis _) (hl5_0_3 _ mthis) ?_
  refine EV.iload_n dX5_takeCell_16 rfl rfl ?_
  refine EV.aload_n dX5_takeCell_17 rfl rfl ?_
  refine FV.getF (v := a2 + 2) dX5_takeCell_18 (sl5_0 _ ma2) fl_5_15 rfl (mu5_0 _ ma2 _) (hl5_0_3 _ ma2) ?_
  refine EV.iload_n dX5_takeCell_21 rfl rfl ?_
  obtain ⟨g4, hf⟩ := pv_gd hf
  refine FV.iald dX5_takeCell_22 (sl5_2 _ ma2) g4.1 g4.2 (j := (Int.toNat (a3))) rfl ?_
  obtain ⟨g5, hf⟩ := pv_gd hf
  obtain ⟨h6, eh6, hf⟩ := pv_bo hf
  refine FV.iast dX5_takeCell_23 (sl5_2 _ mthis) g5.1 g5.2 (j := (Int.toNat (a1))) rfl eh6 ?_
  refine EV.aload_n dX5_takeCell_24 rfl rfl ?_
  refine FV.getF (v := this + 3) dX5_takeCell_25 (sl5_0 _ mthis) fl_5_18 rfl (mu5_0 _ mthis _) (hl5_0_4 _ mthis) ?_
  refine EV.iload_n dX5_takeCell_28 rfl rfl ?_
  refine EV.aload_n dX5_takeCell_29 rfl rfl ?_
  refine FV.getF (v := a2 + 3) dX5_takeCell_30 (sl5_0 _ ma2) fl_5_18 rfl (mu5_0 _ ma2 _) (hl5_0_4 _ ma2) ?_
  refine EV.iload_n dX5_takeCell_33 rfl rfl ?_
  obtain ⟨g7, hf⟩ := pv_gd hf
  refine FV.iald dX5_takeCell_34 (sl5_3 _ ma2) g7.1 g7.2 (j := (Int.toNat (a3))) rfl ?_
  obtain ⟨g8, hf⟩ := pv_gd hf
  obtain ⟨h9, eh9, hf⟩ := pv_bo hf
  refine FV.iast dX5_takeCell_35 (sl5_3 _ mthis) g8.1 g8.2 (j := (Int.toNat (a1))) rfl eh9 ?_
  refine EV.aload_n dX5_takeCell_36 rfl rfl ?_
  refine FV.getF (v := this + 4) dX5_takeCell_37 (sl5_0 _ mthis) fl_5_21 rfl (mu5_0 _ mthis _) (hl5_0_5 _ mthis) ?_
  refine EV.iload_n dX5_takeCell_40 rfl rfl ?_
  refine EV.aload_n dX5_takeCell_41 rfl rfl ?_
  refine FV.getF (v := a2 + 4) dX5_takeCell_42 (sl5_0 _ ma2) fl_5_21 rfl (mu5_0 _ ma2 _) (hl5_0_5 _ ma2) ?_
  refine EV.iload_n dX5_takeCell_45 rfl rfl ?_
  obtain ⟨g10, hf⟩ := pv_gd hf
  refine FV.iald dX5_takeCell_46 (sl5_4 _ ma2) g10.1 g10.2 (j := (Int.toNat (a3))) rfl ?_
  obtain ⟨g11, hf⟩ := pv_gd hf
  obtain ⟨h12, eh12, hf⟩ := pv_bo hf
  refine FV.iast dX5_takeCell_47 (sl5_4 _ mthis) g11.1 g11.2 (j := (Int.toNat (a1))) rfl eh12 ?_
  exact FV.vret dX5_takeCell_48 hf

noncomputable def fX5_tell_80 (N : Nat)  (this : Nat) (a1 : Int) (a2 : Int) (a3 : Int) (a4 : Int)  (h : pv_H) : Option (pv_H) :=
  some h

noncomputable def fX5_tell_52 (N : Nat)  (this : Nat) (a1 : Int) (a2 : Int) (a3 : Int) (a4 : Int) : Nat → Nat → Int → pv_H → Option (pv_H)
  | 0, _, _, _ => none
  | n + 1, v5, v6, h => if a3 < v6 then (fX5_tell_80 N  this a1 a2 a3 a4  h) else (if (h this 0) ≤ v6 then (fX5_tell_80 N  this a1 a2 a3 a4  h) else (if 0 ≤ v6 ∧ v6 < 60 then (pv_b (pv_up h v5 (Int.toNat (v6)) a4) fun h12 => pv_b (pv_w (v6 + 1)) fun x13 => fX5_tell_52 N  this a1 a2 a3 a4 n (v5) (x13) h12) else none))

noncomputable def fX5_tell_45 (N : Nat)  (this : Nat) (a1 : Int) (a2 : Int) (a3 : Int) (a4 : Int) (v5 : Nat) (h : pv_H) : Option (pv_H) :=
  pv_b (max a2 0) fun x8 => fX5_tell_52 N  this a1 a2 a3 a4 N (v5) (x8) h

noncomputable def fX5_tell (N : Nat) (this : Nat) (a1 : Int) (a2 : Int) (a3 : Int) (a4 : Int) (h : pv_H) : Option (pv_H) :=
  pv_b (this + 4) fun x1 => if a1 = 1 then (pv_b (this + 1) fun x7 => fX5_tell_45 N  this a1 a2 a3 a4 (x7) h) else (if a1 = 2 then (pv_b (this + 2) fun x6 => fX5_tell_45 N  this a1 a2 a3 a4 (x6) h) else (if a1 = 5 then (pv_b (this + 3) fun x5 => fX5_tell_45 N  this a1 a2 a3 a4 (x5) h) else (fX5_tell_45 N  this a1 a2 a3 a4 (x1) h)))

set_option maxHeartbeats 4000000 in
set_option maxRecDepth 20000 in
theorem tX5_tell_80 {d N : Nat}  {this : Nat} {a1 : Int} {a2 : Int} {a3 : Int} {a4 : Int}  {h h' : pv_H}  (hd : 2 ≤ d)  (mthis : this ∈ pv_l5)  (hf : fX5_tell_80 N  this a1 a2 a3 a4  h = some h') : EV RX5 cX5_tell 7 none false d pv_SC (MC h') none 80 [none, none, none, none, none, none, none] [] pv_SC (MC h) := by
  unfold fX5_tell_80 at hf
  exact FV.vret dX5_tell_80 hf

set_option maxHeartbeats 4000000 in
set_option maxRecDepth 20000 in
theorem tX5_tell_52 {d N : Nat}  {this : Nat} {a1 : Int} {a2 : Int} {a3 : Int} {a4 : Int} {h' : pv_H}  (hd : 2 ≤ d)  (mthis : this ∈ pv_l5) : ∀ (n : Nat) (v5 : Nat) (v6 : Int) (ev5 : pv_SC[v5]? = some (1, 60)) (h : pv_H), fX5_tell_52 N  this a1 a2 a3 a4 n v5 v6 h = some h' → EV RX5 cX5_tell 7 none false d pv_SC (MC h') none 52 [some (.inr (.inr (this))), none, none, some (.inl (a3)), some (.inl (a4)), some (.inr (.inr (v5))), some (.inl (v6))] [] pv_SC (MC h) := by
  intro n
  induction n with
  | zero =>
    intro v5 v6 ev5 h hf
    cases hf
  | succ n ih =>
    intro v5 v6 ev5 h hf
    rw [fX5_tell_52] at hf
    refine EV.iload dX5_tell_52 rfl ?_
    refine EV.iload_n dX5_tell_54 rfl rfl ?_
    refine EV.icmp_gt (tgt := 80) dX5_tell_55 (by decide) (fun q9 => ?_) (fun q9 => ?_)
    · have hf := pv_gp hf q9
      refine EV.weak (L2 := [none, none, none, none, none, none, none]) trivial ?_
      exact tX5_tell_80 hd  mthis  hf
    · have hf := pv_gn hf q9
      refine EV.iload dX5_tell_58 rfl ?_
      refine EV.aload_n dX5_tell_60 rfl rfl ?_
      refine FV.getI dX5_tell_61 (sl5_0 _ mthis) fl_5_36 rfl ?_
      refine EV.icmp_ge (tgt := 80) dX5_tell_64 (by decide) (fun q10 => ?_) (fun q10 => ?_)
      · have hf := pv_gp hf q10
        refine EV.weak (L2 := [none, none, none, none, none, none, none]) trivial ?_
        exact tX5_tell_80 hd  mthis  hf
      · have hf := pv_gn hf q10
        refine EV.aload dX5_tell_67 rfl ?_
        refine EV.iload dX5_tell_69 rfl ?_
        refine EV.iload dX5_tell_71 rfl ?_
        obtain ⟨g11, hf⟩ := pv_gd hf
        obtain ⟨h12, eh12, hf⟩ := pv_bo hf
        refine FV.iast dX5_tell_73 ev5 g11.1 g11.2 (j := (Int.toNat (v6))) rfl eh12 ?_
        obtain ⟨x13, ex13, hf⟩ := pv_bo hf
        refine FV.inc (L2 := [some (.inr (.inr (this))), none, none, some (.inl (a3)), some (.inl (a4)), some (.inr (.inr (v5))), some (.inl (x13))]) dX5_tell_74 rfl (Nat.le_of_ble_eq_true rfl) ex13 rfl ?_
        refine EV.goto (tgt := 52) dX5_tell_77 (by decide) ?_
        refine EV.weak (L2 := [some (.inr (.inr (this))), none, none, some (.inl (a3)), some (.inl (a4)), some (.inr (.inr (v5))), some (.inl (x13))]) (And.intro rfl (And.intro rfl (And.intro rfl (And.intro rfl (And.intro rfl trivial))))) ?_
        exact ih _ _ (ev5) _ hf

set_option maxHeartbeats 4000000 in
set_option maxRecDepth 20000 in
theorem tX5_tell_45 {d N : Nat}  {this : Nat} {a1 : Int} {a2 : Int} {a3 : Int} {a4 : Int} {v5 : Nat} {h h' : pv_H}  (hd : 2 ≤ d)  (mthis : this ∈ pv_l5) (ev5 : pv_SC[v5]? = some (1, 60)) (hf : fX5_tell_45 N  this a1 a2 a3 a4 v5 h = some h') : EV RX5 cX5_tell 7 none false d pv_SC (MC h') none 45 [some (.inr (.inr (this))), none, some (.inl (a2)), some (.inl (a3)), some (.inl (a4)), some (.inr (.inr (v5))), none] [] pv_SC (MC h) := by
  unfold fX5_tell_45 at hf
  refine EV.iload_n dX5_tell_45 rfl rfl ?_
  refine EV.iconst dX5_tell_46 (by decide) (by decide) ?_
  refine EV.mmax dX5_tell_47 ml_X5_27 w_maxs w_mai w_maxc (by omega) (Nat.le_of_ble_eq_true rfl) ?_
  obtain ⟨x8, ex8, hf⟩ := pv_bo hf
  refine FV.stiw (L2 := [some (.inr (.inr (this))), none, some (.inl (a2)), some (.inl (a3)), some (.inl (a4)), some (.inr (.inr (v5))), some (.inl (x8))]) dX5_tell_50 (Nat.le_of_ble_eq_true rfl) ex8 rfl ?_
  refine EV.weak (L2 := [some (.inr (.inr (this))), none, none, some (.inl (a3)), some (.inl (a4)), some (.inr (.inr (v5))), some (.inl (x8))]) (And.intro rfl (And.intro rfl (And.intro rfl (And.intro rfl (And.intro rfl trivial))))) ?_
  exact tX5_tell_52 hd  mthis _ _ _ (ev5) _ hf

set_option maxHeartbeats 4000000 in
set_option maxRecDepth 20000 in
theorem tX5_tell {d N : Nat} {this : Nat} {a1 : Int} {a2 : Int} {a3 : Int} {a4 : Int} {h h' : pv_H}  (hd : 2 ≤ d) (mthis : this ∈ pv_l5) (hf : fX5_tell N this a1 a2 a3 a4 h = some h') : CALL yX5_tell cX5_tell 7 none d pv_SC (MC h) [.inr (.inr (this)), .inl (a1), .inl (a2), .inl (a3), .inl (a4)] pv_SC (MC h') none := by
  unfold fX5_tell at hf
  refine EV.call (own := RX5) (ini := false) rfl rfl (fun q => by cases q) ⟨[], (List.append_nil _).symm⟩ (Nat.le_of_ble_eq_true rfl) ?_
  refine EV.eqL (L2 := [some (.inr (.inr (this))), some (.inl (a1)), some (.inl (a2)), some (.inl (a3)), some (.inl (a4)), none, none]) rfl ?_
  refine EV.aload_n dX5_tell_0 rfl rfl ?_
  refine FV.getF (v := this + 4) dX5_tell_1 (sl5_0 _ mthis) fl_5_21 rfl (mu5_0 _ mthis _) (hl5_0_5 _ mthis) ?_
  obtain ⟨x1, ex1, hf⟩ := pv_bo hf
  have fx1 : pv_SC[x1]? = some (1, 60) := ex1 ▸ (sl5_4 _ mthis)
  refine FV.staw (L2 := [some (.inr (.inr (this))), some (.inl (a1)), some (.inl (a2)), some (.inl (a3)), some (.inl (a4)), some (.inr (.inr (x1))), none]) dX5_tell_4 (Nat.le_of_ble_eq_true rfl) ex1 rfl ?_
  refine EV.iload_n dX5_tell_6 rfl rfl ?_
  refine EV.iconst dX5_tell_7 (by decide) (by decide) ?_
  refine EV.icmp_ne (tgt := 20) dX5_tell_8 (by decide) (fun q2 => ?_) (fun q2 => ?_)
  · have hf := pv_gn hf q2
    refine EV.iload_n dX5_tell_20 rfl rfl ?_
    refine EV.iconst dX5_tell_21 (by decide) (by decide) ?_
    refine EV.icmp_ne (tgt := 34) dX5_tell_22 (by decide) (fun q3 => ?_) (fun q3 => ?_)
    · have hf := pv_gn hf q3
      refine EV.iload_n dX5_tell_34 rfl rfl ?_
      refine EV.iconst dX5_tell_35 (by decide) (by decide) ?_
      refine EV.icmp_ne (tgt := 45) dX5_tell_36 (by decide) (fun q4 => ?_) (fun q4 => ?_)
      · have hf := pv_gn hf q4
        refine EV.weak (L2 := [some (.inr (.inr (this))), none, some (.inl (a2)), some (.inl (a3)), some (.inl (a4)), some (.inr (.inr (x1))), none]) (And.intro rfl (And.intro rfl (And.intro rfl (And.intro rfl (And.intro rfl trivial))))) ?_
        exact tX5_tell_45 hd  mthis (fx1) hf
      · have hf := pv_gp hf q4
        refine EV.aload_n dX5_tell_39 rfl rfl ?_
        refine FV.getF (v := this + 3) dX5_tell_40 (sl5_0 _ mthis) fl_5_18 rfl (mu5_0 _ mthis _) (hl5_0_4 _ mthis) ?_
        obtain ⟨x5, ex5, hf⟩ := pv_bo hf
        have fx5 : pv_SC[x5]? = some (1, 60) := ex5 ▸ (sl5_3 _ mthis)
        refine FV.staw (L2 := [some (.inr (.inr (this))), some (.inl (a1)), some (.inl (a2)), some (.inl (a3)), some (.inl (a4)), some (.inr (.inr (x5))), none]) dX5_tell_43 (Nat.le_of_ble_eq_true rfl) ex5 rfl ?_
        refine EV.weak (L2 := [some (.inr (.inr (this))), none, some (.inl (a2)), some (.inl (a3)), some (.inl (a4)), some (.inr (.inr (x5))), none]) (And.intro rfl (And.intro rfl (And.intro rfl (And.intro rfl (And.intro rfl trivial))))) ?_
        exact tX5_tell_45 hd  mthis (fx5) hf
    · have hf := pv_gp hf q3
      refine EV.aload_n dX5_tell_25 rfl rfl ?_
      refine FV.getF (v := this + 2) dX5_tell_26 (sl5_0 _ mthis) fl_5_15 rfl (mu5_0 _ mthis _) (hl5_0_3 _ mthis) ?_
      obtain ⟨x6, ex6, hf⟩ := pv_bo hf
      have fx6 : pv_SC[x6]? = some (1, 60) := ex6 ▸ (sl5_2 _ mthis)
      refine FV.staw (L2 := [some (.inr (.inr (this))), some (.inl (a1)), some (.inl (a2)), some (.inl (a3)), some (.inl (a4)), some (.inr (.inr (x6))), none]) dX5_tell_29 (Nat.le_of_ble_eq_true rfl) ex6 rfl ?_
      refine EV.goto (tgt := 45) dX5_tell_31 (by decide) ?_
      refine EV.weak (L2 := [some (.inr (.inr (this))), none, some (.inl (a2)), some (.inl (a3)), some (.inl (a4)), some (.inr (.inr (x6))), none]) (And.intro rfl (And.intro rfl (And.intro rfl (And.intro rfl (And.intro rfl trivial))))) ?_
      exact tX5_tell_45 hd  mthis (fx6) hf
  · have hf := pv_gp hf q2
    refine EV.aload_n dX5_tell_11 rfl rfl ?_
    refine FV.getF (v := this + 1) dX5_tell_12 (sl5_0 _ mthis) fl_5_9 rfl (mu5_0 _ mthis _) (hl5_0_2 _ mthis) ?_
    obtain ⟨x7, ex7, hf⟩ := pv_bo hf
    have fx7 : pv_SC[x7]? = some (1, 60) := ex7 ▸ (sl5_1 _ mthis)
    refine FV.staw (L2 := [some (.inr (.inr (this))), some (.inl (a1)), some (.inl (a2)), some (.inl (a3)), some (.inl (a4)), some (.inr (.inr (x7))), none]) dX5_tell_15 (Nat.le_of_ble_eq_true rfl) ex7 rfl ?_
    refine EV.goto (tgt := 45) dX5_tell_17 (by decide) ?_
    refine EV.weak (L2 := [some (.inr (.inr (this))), none, some (.inl (a2)), some (.inl (a3)), some (.inl (a4)), some (.inr (.inr (x7))), none]) (And.intro rfl (And.intro rfl (And.intro rfl (And.intro rfl (And.intro rfl trivial))))) ?_
    exact tX5_tell_45 hd  mthis (fx7) hf

noncomputable def fX5_drawStrengths_99 (N : Nat)  (this : Nat) (a1 : Int) (a2 : Nat)  (h : pv_H) : Option (pv_H) :=
  some h

noncomputable def fX5_drawStrengths_61 (N : Nat) (k17 : Int → Int → Int → pv_H → Option (pv_H)) (this : Nat) (a1 : Int) (a2 : Nat) (v3 : Int) (v4 : Int) (v5 : Int) (v6 : Int) (h : pv_H) : Option (pv_H) :=
  if 0 ≤ v5 ∧ v5 < 60 then (if 0 ≤ v5 ∧ v5 < 60 then (if 0 ≤ v5 ∧ v5 < 60 then (pv_b (pv_up h a2 (Int.toNat (v5)) (max 1 (pv_w ((pv_w (Int.tdiv (pv_w ((h (this + 2) (Int.toNat (v5))) * (pv_w (100 - (h (this + 3) (Int.toNat (v5))))))) 100)) - v6)))) fun h11 => pv_b (pv_w (v5 + 1)) fun x12 => k17 (v3) (v4) (x12) h11) else none) else none) else none

noncomputable def fX5_drawStrengths_17 (N : Nat)  (this : Nat) (a1 : Int) (a2 : Nat) : Nat → Int → Int → Int → pv_H → Option (pv_H)
  | 0, _, _, _, _ => none
  | n + 1, v3, v4, v5, h => if (h this 0) ≤ v5 then (fX5_drawStrengths_99 N  this a1 a2  h) else (if 60 ≤ v5 then (fX5_drawStrengths_99 N  this a1 a2  h) else (if (h this 1) ≤ 0 then (fX5_drawStrengths_61 N (fun v3_ v4_ v5_ hh => fX5_drawStrengths_17 N  this a1 a2 n v3_ v4_ v5_ hh) this a1 a2 (v3) (v4) (v5) (0) h) else (pv_b (pv_w ((pv_w (1103515245 * v3)) + 12345)) fun x5 => if ¬ v4 = 0 then (pv_b (pv_w (Int.tmod (pv_ushr x5 16) v4)) fun x7 => fX5_drawStrengths_61 N (fun v3_ v4_ v5_ hh => fX5_drawStrengths_17 N  this a1 a2 n v3_ v4_ v5_ hh) this a1 a2 (x5) (v4) (v5) (x7) h) else none)))

noncomputable def fX5_drawStrengths (N : Nat) (this : Nat) (a1 : Int) (a2 : Nat) (h : pv_H) : Option (pv_H) :=
  pv_b (pv_w ((max (h this 1) 0) + 1)) fun x1 => fX5_drawStrengths_17 N  this a1 a2 N (a1) (x1) (0) h

set_option maxHeartbeats 4000000 in
set_option maxRecDepth 20000 in
theorem tX5_drawStrengths_99 {d N : Nat}  {this : Nat} {a1 : Int} {a2 : Nat}  {h h' : pv_H}  (hd : 2 ≤ d)  (mthis : this ∈ pv_l5) (ea2 : pv_SC[a2]? = some (1, 60))  (hf : fX5_drawStrengths_99 N  this a1 a2  h = some h') : EV RX5 cX5_drawStrengths 7 none false d pv_SC (MC h') none 99 [none, none, none, none, none, none, none] [] pv_SC (MC h) := by
  unfold fX5_drawStrengths_99 at hf
  exact FV.vret dX5_drawStrengths_99 hf

set_option maxHeartbeats 4000000 in
set_option maxRecDepth 20000 in
theorem tX5_drawStrengths_61 {d N : Nat} {k17 : Int → Int → Int → pv_H → Option (pv_H)} {this : Nat} {a1 : Int} {a2 : Nat} {v3 : Int} {v4 : Int} {v5 : Int} {v6 : Int} {h h' : pv_H}  (hd : 2 ≤ d) (hk17 : ∀ (v3 : Int) (v4 : Int) (v5 : Int)  (hh : pv_H), k17 v3 v4 v5 hh = some h' → EV RX5 cX5_drawStrengths 7 none false d pv_SC (MC h') none 17 [some (.inr (.inr (this))), none, some (.inr (.inr (a2))), some (.inl (v3)), some (.inl (v4)), some (.inl (v5)), none] [] pv_SC (MC hh)) (mthis : this ∈ pv_l5) (ea2 : pv_SC[a2]? = some (1, 60))  (hf : fX5_drawStrengths_61 N k17 this a1 a2 v3 v4 v5 v6 h = some h') : EV RX5 cX5_drawStrengths 7 none false d pv_SC (MC h') none 61 [some (.inr (.inr (this))), none, some (.inr (.inr (a2))), some (.inl (v3)), some (.inl (v4)), some (.inl (v5)), some (.inl (v6))] [] pv_SC (MC h) := by
  unfold fX5_drawStrengths_61 at hf
  refine EV.aload_n dX5_drawStrengths_61 rfl rfl ?_
  refine EV.iload dX5_drawStrengths_62 rfl ?_
  refine EV.iconst dX5_drawStrengths_64 (by decide) (by decide) ?_
  refine EV.aload_n dX5_drawStrengths_65 rfl rfl ?_
  refine FV.getF (v := this + 2) dX5_drawStrengths_66 (sl5_0 _ mthis) fl_5_15 rfl (mu5_0 _ mthis _) (hl5_0_3 _ mthis) ?_
  refine EV.iload dX5_drawStrengths_69 rfl ?_
  obtain ⟨g8, hf⟩ := pv_gd hf
  refine FV.iald dX5_drawStrengths_71 (sl5_2 _ mthis) g8.1 g8.2 (j := (Int.toNat (v5))) rfl ?_
  refine EV.bipush dX5_drawStrengths_72 (by decide) (by decide) ?_
  refine EV.aload_n dX5_drawStrengths_74 rfl rfl ?_
  refine FV.getF (v := this + 3) dX5_drawStrengths_75 (sl5_0 _ mthis) fl_5_18 rfl (mu5_0 _ mthis _) (hl5_0_4 _ mthis) ?_
  refine EV.iload dX5_drawStrengths_78 rfl ?_
  obtain ⟨g9, hf⟩ := pv_gd hf
  refine FV.iald dX5_drawStrengths_80 (sl5_3 _ mthis) g9.1 g9.2 (j := (Int.toNat (v5))) rfl ?_
  refine EV.isub dX5_drawStrengths_81 ?_
  refine EV.imul dX5_drawStrengths_82 ?_
  refine EV.bipush dX5_drawStrengths_83 (by decide) (by decide) ?_
  refine EV.idiv dX5_drawStrengths_85 (by decide) ?_
  refine EV.iload dX5_drawStrengths_86 rfl ?_
  refine EV.isub dX5_drawStrengths_88 ?_
  refine EV.mmax dX5_drawStrengths_89 ml_X5_27 w_maxs w_mai w_maxc (by omega) (Nat.le_of_ble_eq_true rfl) ?_
  obtain ⟨g10, hf⟩ := pv_gd hf
  obtain ⟨h11, eh11, hf⟩ := pv_bo hf
  refine FV.iast dX5_drawStrengths_92 ea2 g10.1 g10.2 (j := (Int.toNat (v5))) rfl eh11 ?_
  obtain ⟨x12, ex12, hf⟩ := pv_bo hf
  refine FV.inc (L2 := [some (.inr (.inr (this))), none, some (.inr (.inr (a2))), some (.inl (v3)), some (.inl (v4)), some (.inl (x12)), some (.inl (v6))]) dX5_drawStrengths_93 rfl (Nat.le_of_ble_eq_true rfl) ex12 rfl ?_
  refine EV.goto (tgt := 17) dX5_drawStrengths_96 (by decide) ?_
  refine EV.weak (L2 := [some (.inr (.inr (this))), none, some (.inr (.inr (a2))), some (.inl (v3)), some (.inl (v4)), some (.inl (x12)), none]) (And.intro rfl (And.intro rfl (And.intro rfl (And.intro rfl (And.intro rfl trivial))))) ?_
  exact hk17 _ _ _  _ hf

set_option maxHeartbeats 4000000 in
set_option maxRecDepth 20000 in
theorem tX5_drawStrengths_17 {d N : Nat}  {this : Nat} {a1 : Int} {a2 : Nat} {h' : pv_H}  (hd : 2 ≤ d)  (mthis : this ∈ pv_l5) (ea2 : pv_SC[a2]? = some (1, 60)) : ∀ (n : Nat) (v3 : Int) (v4 : Int) (v5 : Int)  (h : pv_H), fX5_drawStrengths_17 N  this a1 a2 n v3 v4 v5 h = some h' → EV RX5 cX5_drawStrengths 7 none false d pv_SC (MC h') none 17 [some (.inr (.inr (this))), none, some (.inr (.inr (a2))), some (.inl (v3)), some (.inl (v4)), some (.inl (v5)), none] [] pv_SC (MC h) := by
  intro n
  induction n with
  | zero =>
    intro v3 v4 v5  h hf
    cases hf
  | succ n ih =>
    intro v3 v4 v5  h hf
    rw [fX5_drawStrengths_17] at hf
    refine EV.iload dX5_drawStrengths_17 rfl ?_
    refine EV.aload_n dX5_drawStrengths_19 rfl rfl ?_
    refine FV.getI dX5_drawStrengths_20 (sl5_0 _ mthis) fl_5_36 rfl ?_
    refine EV.icmp_ge (tgt := 99) dX5_drawStrengths_23 (by decide) (fun q2 => ?_) (fun q2 => ?_)
    · have hf := pv_gp hf q2
      refine EV.weak (L2 := [none, none, none, none, none, none, none]) trivial ?_
      exact tX5_drawStrengths_99 hd  mthis ea2  hf
    · have hf := pv_gn hf q2
      refine EV.iload dX5_drawStrengths_26 rfl ?_
      refine EV.aload_n dX5_drawStrengths_28 rfl rfl ?_
      refine EV.alen dX5_drawStrengths_29 ea2 (Nat.le_of_ble_eq_true rfl) ?_
      refine EV.icmp_ge (tgt := 99) dX5_drawStrengths_30 (by decide) (fun q3 => ?_) (fun q3 => ?_)
      · have hf := pv_gp hf q3
        refine EV.weak (L2 := [none, none, none, none, none, none, none]) trivial ?_
        exact tX5_drawStrengths_99 hd  mthis ea2  hf
      · have hf := pv_gn hf q3
        refine EV.iconst dX5_drawStrengths_33 (by decide) (by decide) ?_
        refine FV.stiw (L2 := [some (.inr (.inr (this))), none, some (.inr (.inr (a2))), some (.inl (v3)), some (.inl (v4)), some (.inl (v5)), some (.inl (0))]) dX5_drawStrengths_34 (Nat.le_of_ble_eq_true rfl) rfl rfl ?_
        refine EV.aload_n dX5_drawStrengths_36 rfl rfl ?_
        refine FV.getI dX5_drawStrengths_37 (sl5_0 _ mthis) fl_5_40 rfl ?_
        refine EV.if_le (tgt := 61) dX5_drawStrengths_40 (by decide) (fun q4 => ?_) (fun q4 => ?_)
        · have hf := pv_gp hf q4
          refine EV.weak (L2 := [some (.inr (.inr (this))), none, some (.inr (.inr (a2))), some (.inl (v3)), some (.inl (v4)), some (.inl (v5)), some (.inl (0))]) (And.intro rfl (And.intro rfl (And.intro rfl (And.intro rfl (And.intro rfl (And.intro rfl trivial)))))) ?_
          exact tX5_drawStrengths_61 hd (ih) mthis ea2  hf
        · have hf := pv_gn hf q4
          refine EV.ldc (n := 1103515245) dX5_drawStrengths_43 kc_X5_49 (by decide) (by decide) ?_
          refine EV.iload_n dX5_drawStrengths_45 rfl rfl ?_
          refine EV.imul dX5_drawStrengths_46 ?_
          refine EV.sipush dX5_drawStrengths_47 (by decide) (by decide) ?_
          refine EV.iadd dX5_drawStrengths_50 ?_
          obtain ⟨x5, ex5, hf⟩ := pv_bo hf
          refine FV.sti (L2 := [some (.inr (.inr (this))), none, some (.inr (.inr (a2))), some (.inl (x5)), some (.inl (v4)), some (.inl (v5)), some (.inl (0))]) dX5_drawStrengths_51 rfl (Nat.le_of_ble_eq_true rfl) ex5 rfl ?_
          refine EV.iload_n dX5_drawStrengths_52 rfl rfl ?_
          refine EV.bipush dX5_drawStrengths_53 (by decide) (by decide) ?_
          refine EV.iushr dX5_drawStrengths_55 ?_
          refine EV.iload dX5_drawStrengths_56 rfl ?_
          obtain ⟨g6, hf⟩ := pv_gd hf
          refine EV.irem dX5_drawStrengths_58 g6 ?_
          obtain ⟨x7, ex7, hf⟩ := pv_bo hf
          refine FV.stiw (L2 := [some (.inr (.inr (this))), none, some (.inr (.inr (a2))), some (.inl (x5)), some (.inl (v4)), some (.inl (v5)), some (.inl (x7))]) dX5_drawStrengths_59 (Nat.le_of_ble_eq_true rfl) ex7 rfl ?_
          refine EV.weak (L2 := [some (.inr (.inr (this))), none, some (.inr (.inr (a2))), some (.inl (x5)), some (.inl (v4)), some (.inl (v5)), some (.inl (x7))]) (And.intro rfl (And.intro rfl (And.intro rfl (And.intro rfl (And.intro rfl (And.intro rfl trivial)))))) ?_
          exact tX5_drawStrengths_61 hd (ih) mthis ea2  hf

set_option maxHeartbeats 4000000 in
set_option maxRecDepth 20000 in
theorem tX5_drawStrengths {d N : Nat} {this : Nat} {a1 : Int} {a2 : Nat} {h h' : pv_H}  (hd : 2 ≤ d) (mthis : this ∈ pv_l5) (ea2 : pv_SC[a2]? = some (1, 60)) (hf : fX5_drawStrengths N this a1 a2 h = some h') : CALL yX5_drawStrengths cX5_drawStrengths 7 none d pv_SC (MC h) [.inr (.inr (this)), .inl (a1), .inr (.inr (a2))] pv_SC (MC h') none := by
  unfold fX5_drawStrengths at hf
  refine EV.call (own := RX5) (ini := false) rfl rfl (fun q => by cases q) ⟨[], (List.append_nil _).symm⟩ (Nat.le_of_ble_eq_true rfl) ?_
  refine EV.eqL (L2 := [some (.inr (.inr (this))), some (.inl (a1)), some (.inr (.inr (a2))), none, none, none, none]) rfl ?_
  refine EV.iload_n dX5_drawStrengths_0 rfl rfl ?_
  refine FV.sti (L2 := [some (.inr (.inr (this))), some (.inl (a1)), some (.inr (.inr (a2))), some (.inl (a1)), none, none, none]) dX5_drawStrengths_1 rfl (Nat.le_of_ble_eq_true rfl) rfl rfl ?_
  refine EV.aload_n dX5_drawStrengths_2 rfl rfl ?_
  refine FV.getI dX5_drawStrengths_3 (sl5_0 _ mthis) fl_5_40 rfl ?_
  refine EV.iconst dX5_drawStrengths_6 (by decide) (by decide) ?_
  refine EV.mmax dX5_drawStrengths_7 ml_X5_27 w_maxs w_mai w_maxc (by omega) (Nat.le_of_ble_eq_true rfl) ?_
  refine EV.iconst dX5_drawStrengths_10 (by decide) (by decide) ?_
  refine EV.iadd dX5_drawStrengths_11 ?_
  obtain ⟨x1, ex1, hf⟩ := pv_bo hf
  refine FV.stiw (L2 := [some (.inr (.inr (this))), some (.inl (a1)), some (.inr (.inr (a2))), some (.inl (a1)), some (.inl (x1)), none, none]) dX5_drawStrengths_12 (Nat.le_of_ble_eq_true rfl) ex1 rfl ?_
  refine EV.iconst dX5_drawStrengths_14 (by decide) (by decide) ?_
  refine FV.stiw (L2 := [some (.inr (.inr (this))), some (.inl (a1)), some (.inr (.inr (a2))), some (.inl (a1)), some (.inl (x1)), some (.inl (0)), none]) dX5_drawStrengths_15 (Nat.le_of_ble_eq_true rfl) rfl rfl ?_
  refine EV.weak (L2 := [some (.inr (.inr (this))), none, some (.inr (.inr (a2))), some (.inl (a1)), some (.inl (x1)), some (.inl (0)), none]) (And.intro rfl (And.intro rfl (And.intro rfl (And.intro rfl (And.intro rfl trivial))))) ?_
  exact tX5_drawStrengths_17 hd  mthis ea2 _ _ _ _  _ hf

noncomputable def fX6_begin (N : Nat) (this : Nat) (a1 : Int) (a2 : Int) (h : pv_H) : Option (pv_H) :=
  pv_b (pv_up h this 0 1) fun h1 => pv_b (pv_up h1 this 3 a1) fun h2 => pv_b (pv_up h2 this 1 a2) fun h3 => pv_b (pv_ur h3 (this + 1) (fun k => if k < 60 then 0 else h3 (this + 1) k)) fun h4 => some h4

set_option maxHeartbeats 4000000 in
set_option maxRecDepth 20000 in
theorem tX6_begin {d N : Nat} {this : Nat} {a1 : Int} {a2 : Int} {h h' : pv_H}  (hd : 2 ≤ d) (mthis : this ∈ pv_l6) (hf : fX6_begin N this a1 a2 h = some h') : CALL yX6_begin cX6_begin 3 none d pv_SC (MC h) [.inr (.inr (this)), .inl (a1), .inl (a2)] pv_SC (MC h') none := by
  unfold fX6_begin at hf
  refine EV.call (own := RX6) (ini := false) rfl rfl (fun q => by cases q) ⟨[], (List.append_nil _).symm⟩ (Nat.le_of_ble_eq_true rfl) ?_
  refine EV.eqL (L2 := [some (.inr (.inr (this))), some (.inl (a1)), some (.inl (a2))]) rfl ?_
  refine EV.aload_n dX6_begin_0 rfl rfl ?_
  refine EV.iconst dX6_begin_1 (by decide) (by decide) ?_
  obtain ⟨h1, eh1, hf⟩ := pv_bo hf
  refine FV.putZ dX6_begin_2 (sl6_0 _ mthis) fl_6_15 rfl rfl (by decide) eh1 ?_
  refine EV.aload_n dX6_begin_5 rfl rfl ?_
  refine EV.iload_n dX6_begin_6 rfl rfl ?_
  obtain ⟨h2, eh2, hf⟩ := pv_bo hf
  refine FV.putI dX6_begin_7 (sl6_0 _ mthis) fl_6_19 rfl rfl eh2 ?_
  refine EV.aload_n dX6_begin_10 rfl rfl ?_
  refine EV.iload_n dX6_begin_11 rfl rfl ?_
  obtain ⟨h3, eh3, hf⟩ := pv_bo hf
  refine FV.putI dX6_begin_12 (sl6_0 _ mthis) fl_6_23 rfl rfl eh3 ?_
  refine EV.aload_n dX6_begin_15 rfl rfl ?_
  refine FV.getF (v := this + 1) dX6_begin_16 (sl6_0 _ mthis) fl_6_9 rfl (mu6_0 _ mthis _) (hl6_0_2 _ mthis) ?_
  refine EV.lconst (x := 0) dX6_begin_19 (by decide) (by decide) (by decide) ?_
  obtain ⟨h4, eh4, hf⟩ := pv_bo hf
  refine EV.invS (As := [.inr (.inr (this + 1)), .inr (.inl (0))]) (st := []) (d1 := d - 1) (sh1 := pv_SC) (h1 := MC h4) (r1 := none) dX6_begin_20 md_J7_fill_d0a16 ml_X6_26 st_J7_fill_d0a16 (t_fillL (by omega) (sl6_1 _ mthis) (by decide) eh4) (by omega) rfl rfl (Nat.le_of_ble_eq_true rfl) ⟨[], (List.append_nil _).symm⟩ ?_
  exact FV.vret dX6_begin_23 hf

noncomputable def fX6_put_49 (N : Nat)  (this : Nat) (a1 : Int) (a2 : Int) (v4 : Int) (h : pv_H) : Option (pv_H × Int) :=
  if 0 ≤ a1 ∧ a1 < 60 then (pv_b (pv_up h (this + 1) (Int.toNat (a1)) v4) fun h8 => some (h8, v4)) else none

noncomputable def fX6_put (N : Nat) (this : Nat) (a1 : Int) (a2 : Int) (h : pv_H) : Option (pv_H × Int) :=
  if (h this 3) = 0 then (pv_b (pv_w8 (pv_w a2)) fun x6 => fX6_put_49 N  this a1 a2 (x6) h) else (if (h this 3) = 1 then (pv_b (pv_w16 (pv_w a2)) fun x5 => fX6_put_49 N  this a1 a2 (x5) h) else (if (h this 3) = 2 then (pv_b (pv_w a2) fun x4 => fX6_put_49 N  this a1 a2 (x4) h) else (fX6_put_49 N  this a1 a2 (a2) h)))

set_option maxHeartbeats 4000000 in
set_option maxRecDepth 20000 in
theorem tX6_put_49 {d N : Nat}  {this : Nat} {a1 : Int} {a2 : Int} {v4 : Int} {h h' : pv_H} {r : Int} (hd : 1 ≤ d)  (mthis : this ∈ pv_l6)  (hf : fX6_put_49 N  this a1 a2 v4 h = some (h', r)) : EV RX6 cX6_put 6 (some .long) false d pv_SC (MC h') (some (.inr (.inl r))) 49 [some (.inr (.inr (this))), some (.inl (a1)), none, none, some (.inr (.inl (v4))), none] [] pv_SC (MC h) := by
  unfold fX6_put_49 at hf
  refine EV.aload_n dX6_put_49 rfl rfl ?_
  refine FV.getF (v := this + 1) dX6_put_50 (sl6_0 _ mthis) fl_6_9 rfl (mu6_0 _ mthis _) (hl6_0_2 _ mthis) ?_
  refine EV.iload_n dX6_put_53 rfl rfl ?_
  refine EV.lload dX6_put_54 rfl ?_
  obtain ⟨g7, hf⟩ := pv_gd hf
  obtain ⟨h8, eh8, hf⟩ := pv_bo hf
  refine FV.last dX6_put_56 (sl6_1 _ mthis) g7.1 g7.2 (j := (Int.toNat (a1))) rfl eh8 ?_
  refine EV.lload dX6_put_57 rfl ?_
  exact FV.lret dX6_put_59 hf

set_option maxHeartbeats 4000000 in
set_option maxRecDepth 20000 in
theorem tX6_put {d N : Nat} {this : Nat} {a1 : Int} {a2 : Int} {h h' : pv_H} {r : Int} (hd : 1 ≤ d) (mthis : this ∈ pv_l6) (hf : fX6_put N this a1 a2 h = some (h', r)) : CALL yX6_put cX6_put 6 (some .long) d pv_SC (MC h) [.inr (.inr (this)), .inl (a1), .inr (.inl (a2))] pv_SC (MC h') (some (.inr (.inl r))) := by
  unfold fX6_put at hf
  refine EV.call (own := RX6) (ini := false) rfl rfl (fun q => by cases q) ⟨[], (List.append_nil _).symm⟩ (Nat.le_of_ble_eq_true rfl) ?_
  refine EV.eqL (L2 := [some (.inr (.inr (this))), some (.inl (a1)), some (.inr (.inl (a2))), none, none, none]) rfl ?_
  refine EV.lload_n dX6_put_0 rfl rfl ?_
  refine FV.stlw (L2 := [some (.inr (.inr (this))), some (.inl (a1)), some (.inr (.inl (a2))), none, some (.inr (.inl (a2))), none]) dX6_put_1 (Nat.le_of_ble_eq_true rfl) rfl rfl ?_
  refine EV.aload_n dX6_put_3 rfl rfl ?_
  refine FV.getI dX6_put_4 (sl6_0 _ mthis) fl_6_19 rfl ?_
  refine EV.if_ne (tgt := 19) dX6_put_7 (by decide) (fun q1 => ?_) (fun q1 => ?_)
  · have hf := pv_gn hf q1
    refine EV.aload_n dX6_put_19 rfl rfl ?_
    refine FV.getI dX6_put_20 (sl6_0 _ mthis) fl_6_19 rfl ?_
    refine EV.iconst dX6_put_23 (by decide) (by decide) ?_
    refine EV.icmp_ne (tgt := 36) dX6_put_24 (by decide) (fun q2 => ?_) (fun q2 => ?_)
    · have hf := pv_gn hf q2
      refine EV.aload_n dX6_put_36 rfl rfl ?_
      refine FV.getI dX6_put_37 (sl6_0 _ mthis) fl_6_19 rfl ?_
      refine EV.iconst dX6_put_40 (by decide) (by decide) ?_
      refine EV.icmp_ne (tgt := 49) dX6_put_41 (by decide) (fun q3 => ?_) (fun q3 => ?_)
      · have hf := pv_gn hf q3
        refine EV.weak (L2 := [some (.inr (.inr (this))), some (.inl (a1)), none, none, some (.inr (.inl (a2))), none]) (And.intro rfl (And.intro rfl (And.intro rfl trivial))) ?_
        exact tX6_put_49 hd  mthis  hf
      · have hf := pv_gp hf q3
        refine EV.lload_n dX6_put_44 rfl rfl ?_
        refine EV.l2i dX6_put_45 ?_
        refine EV.i2l dX6_put_46 ?_
        obtain ⟨x4, ex4, hf⟩ := pv_bo hf
        refine FV.stlw (L2 := [some (.inr (.inr (this))), some (.inl (a1)), some (.inr (.inl (a2))), none, some (.inr (.inl (x4))), none]) dX6_put_47 (Nat.le_of_ble_eq_true rfl) ex4 rfl ?_
        refine EV.weak (L2 := [some (.inr (.inr (this))), some (.inl (a1)), none, none, some (.inr (.inl (x4))), none]) (And.intro rfl (And.intro rfl (And.intro rfl trivial))) ?_
        exact tX6_put_49 hd  mthis  hf
    · have hf := pv_gp hf q2
      refine EV.lload_n dX6_put_27 rfl rfl ?_
      refine EV.l2i dX6_put_28 ?_
      refine EV.i2s dX6_put_29 ?_
      refine EV.i2l dX6_put_30 ?_
      obtain ⟨x5, ex5, hf⟩ := pv_bo hf
      refine FV.stlw (L2 := [some (.inr (.inr (this))), some (.inl (a1)), some (.inr (.inl (a2))), none, some (.inr (.inl (x5))), none]) dX6_put_31 (Nat.le_of_ble_eq_true rfl) ex5 rfl ?_
      refine EV.goto (tgt := 49) dX6_put_33 (by decide) ?_
      refine EV.weak (L2 := [some (.inr (.inr (this))), some (.inl (a1)), none, none, some (.inr (.inl (x5))), none]) (And.intro rfl (And.intro rfl (And.intro rfl trivial))) ?_
      exact tX6_put_49 hd  mthis  hf
  · have hf := pv_gp hf q1
    refine EV.lload_n dX6_put_10 rfl rfl ?_
    refine EV.l2i dX6_put_11 ?_
    refine EV.i2b dX6_put_12 ?_
    refine EV.i2l dX6_put_13 ?_
    obtain ⟨x6, ex6, hf⟩ := pv_bo hf
    refine FV.stlw (L2 := [some (.inr (.inr (this))), some (.inl (a1)), some (.inr (.inl (a2))), none, some (.inr (.inl (x6))), none]) dX6_put_14 (Nat.le_of_ble_eq_true rfl) ex6 rfl ?_
    refine EV.goto (tgt := 49) dX6_put_16 (by decide) ?_
    refine EV.weak (L2 := [some (.inr (.inr (this))), some (.inl (a1)), none, none, some (.inr (.inl (x6))), none]) (And.intro rfl (And.intro rfl (And.intro rfl trivial))) ?_
    exact tX6_put_49 hd  mthis  hf

noncomputable def fX3_copyFrom (N : Nat) (this : Nat) (a1 : Nat) (h : pv_H) : Option (pv_H) :=
  pv_b (pv_up h this 0 (h a1 0)) fun h1 => pv_b (pv_ur h1 (this + 1) (pv_cp (h1 (a1 + 1)) (h1 (this + 1)) (Int.toNat (0)) (Int.toNat (0)) (Int.toNat (9)))) fun h2 => pv_b (pv_ur h2 (this + 2) (pv_cp (h2 (a1 + 2)) (h2 (this + 2)) (Int.toNat (0)) (Int.toNat (0)) (Int.toNat (400)))) fun h3 => pv_b (pv_ur h3 (this + 3) (pv_cp (h3 (a1 + 3)) (h3 (this + 3)) (Int.toNat (0)) (Int.toNat (0)) (Int.toNat (400)))) fun h4 => some h4

set_option maxHeartbeats 4000000 in
set_option maxRecDepth 20000 in
theorem tX3_copyFrom {d N : Nat} {this : Nat} {a1 : Nat} {h h' : pv_H}  (hd : 2 ≤ d) (mthis : this ∈ pv_l3) (ma1 : a1 ∈ pv_l3) (hf : fX3_copyFrom N this a1 h = some h') : CALL yX3_copyFrom cX3_copyFrom 2 none d pv_SC (MC h) [.inr (.inr (this)), .inr (.inr (a1))] pv_SC (MC h') none := by
  unfold fX3_copyFrom at hf
  refine EV.call (own := RX3) (ini := false) rfl rfl (fun q => by cases q) ⟨[], (List.append_nil _).symm⟩ (Nat.le_of_ble_eq_true rfl) ?_
  refine EV.eqL (L2 := [some (.inr (.inr (this))), some (.inr (.inr (a1)))]) rfl ?_
  refine EV.aload_n dX3_copyFrom_0 rfl rfl ?_
  refine EV.aload_n dX3_copyFrom_1 rfl rfl ?_
  refine FV.getI dX3_copyFrom_2 (sl3_0 _ ma1) fl_3_24 rfl ?_
  obtain ⟨h1, eh1, hf⟩ := pv_bo hf
  refine FV.putI dX3_copyFrom_5 (sl3_0 _ mthis) fl_3_24 rfl rfl eh1 ?_
  refine EV.aload_n dX3_copyFrom_8 rfl rfl ?_
  refine FV.getF (v := a1 + 1) dX3_copyFrom_9 (sl3_0 _ ma1) fl_3_9 rfl (mu3_0 _ ma1 _) (hl3_0_1 _ ma1) ?_
  refine EV.iconst dX3_copyFrom_12 (by decide) (by decide) ?_
  refine EV.aload_n dX3_copyFrom_13 rfl rfl ?_
  refine FV.getF (v := this + 1) dX3_copyFrom_14 (sl3_0 _ mthis) fl_3_9 rfl (mu3_0 _ mthis _) (hl3_0_1 _ mthis) ?_
  refine EV.iconst dX3_copyFrom_17 (by decide) (by decide) ?_
  refine EV.bipush dX3_copyFrom_18 (by decide) (by decide) ?_
  obtain ⟨h2, eh2, hf⟩ := pv_bo hf
  refine FV.copy dX3_copyFrom_20 ml_X3_28 (by omega) (Nat.le_of_ble_eq_true rfl) (sl3_1 _ ma1) (sl3_1 _ mthis) (by decide) (by decide) (by decide) (by decide) (by decide) eh2 ?_
  refine EV.aload_n dX3_copyFrom_23 rfl rfl ?_
  refine FV.getF (v := a1 + 2) dX3_copyFrom_24 (sl3_0 _ ma1) fl_3_15 rfl (mu3_0 _ ma1 _) (hl3_0_2 _ ma1) ?_
  refine EV.iconst dX3_copyFrom_27 (by decide) (by decide) ?_
  refine EV.aload_n dX3_copyFrom_28 rfl rfl ?_
  refine FV.getF (v := this + 2) dX3_copyFrom_29 (sl3_0 _ mthis) fl_3_15 rfl (mu3_0 _ mthis _) (hl3_0_2 _ mthis) ?_
  refine EV.iconst dX3_copyFrom_32 (by decide) (by decide) ?_
  refine EV.sipush dX3_copyFrom_33 (by decide) (by decide) ?_
  obtain ⟨h3, eh3, hf⟩ := pv_bo hf
  refine FV.copy dX3_copyFrom_36 ml_X3_28 (by omega) (Nat.le_of_ble_eq_true rfl) (sl3_2 _ ma1) (sl3_2 _ mthis) (by decide) (by decide) (by decide) (by decide) (by decide) eh3 ?_
  refine EV.aload_n dX3_copyFrom_39 rfl rfl ?_
  refine FV.getF (v := a1 + 3) dX3_copyFrom_40 (sl3_0 _ ma1) fl_3_18 rfl (mu3_0 _ ma1 _) (hl3_0_3 _ ma1) ?_
  refine EV.iconst dX3_copyFrom_43 (by decide) (by decide) ?_
  refine EV.aload_n dX3_copyFrom_44 rfl rfl ?_
  refine FV.getF (v := this + 3) dX3_copyFrom_45 (sl3_0 _ mthis) fl_3_18 rfl (mu3_0 _ mthis _) (hl3_0_3 _ mthis) ?_
  refine EV.iconst dX3_copyFrom_48 (by decide) (by decide) ?_
  refine EV.sipush dX3_copyFrom_49 (by decide) (by decide) ?_
  obtain ⟨h4, eh4, hf⟩ := pv_bo hf
  refine FV.copy dX3_copyFrom_52 ml_X3_28 (by omega) (Nat.le_of_ble_eq_true rfl) (sl3_3 _ ma1) (sl3_3 _ mthis) (by decide) (by decide) (by decide) (by decide) (by decide) eh4 ?_
  exact FV.vret dX3_copyFrom_55 hf

noncomputable def fX3_begin (N : Nat) (this : Nat) (h : pv_H) : Option (pv_H) :=
  pv_b (pv_up h this 0 0) fun h1 => pv_b (pv_up h1 (this + 1) 0 0) fun h2 => some h2

set_option maxHeartbeats 4000000 in
set_option maxRecDepth 20000 in
theorem tX3_begin {d N : Nat} {this : Nat} {h h' : pv_H}  (hd : 1 ≤ d) (mthis : this ∈ pv_l3) (hf : fX3_begin N this h = some h') : CALL yX3_begin cX3_begin 1 none d pv_SC (MC h) [.inr (.inr (this))] pv_SC (MC h') none := by
  unfold fX3_begin at hf
  refine EV.call (own := RX3) (ini := false) rfl rfl (fun q => by cases q) ⟨[], (List.append_nil _).symm⟩ (Nat.le_of_ble_eq_true rfl) ?_
  refine EV.eqL (L2 := [some (.inr (.inr (this)))]) rfl ?_
  refine EV.aload_n dX3_begin_0 rfl rfl ?_
  refine EV.iconst dX3_begin_1 (by decide) (by decide) ?_
  obtain ⟨h1, eh1, hf⟩ := pv_bo hf
  refine FV.putI dX3_begin_2 (sl3_0 _ mthis) fl_3_24 rfl rfl eh1 ?_
  refine EV.aload_n dX3_begin_5 rfl rfl ?_
  refine FV.getF (v := this + 1) dX3_begin_6 (sl3_0 _ mthis) fl_3_9 rfl (mu3_0 _ mthis _) (hl3_0_1 _ mthis) ?_
  refine EV.iconst dX3_begin_9 (by decide) (by decide) ?_
  refine EV.iconst dX3_begin_10 (by decide) (by decide) ?_
  obtain ⟨h2, eh2, hf⟩ := pv_bo hf
  refine FV.iast dX3_begin_11 (sl3_1 _ mthis) (by decide) (by decide) (j := 0) rfl eh2 ?_
  exact FV.vret dX3_begin_12 hf

noncomputable def fX3_tell_47 (N : Nat)  (this : Nat) (a1 : Int) (a2 : Int)  (h : pv_H) : Option (pv_H) :=
  some h

noncomputable def fX3_tell (N : Nat) (this : Nat) (a1 : Int) (a2 : Int) (h : pv_H) : Option (pv_H) :=
  if 0 ≤ pv_w ((h this 0) + 1) ∧ pv_w ((h this 0) + 1) < 9 then (pv_b (h (this + 1) (Int.toNat (pv_w ((h this 0) + 1)))) fun x2 => if 400 ≤ x2 then (fX3_tell_47 N  this a1 a2  h) else (if 0 ≤ x2 ∧ x2 < 400 then (pv_b (pv_up h (this + 2) (Int.toNat (x2)) a1) fun h5 => if 0 ≤ x2 ∧ x2 < 400 then (pv_b (pv_up h5 (this + 3) (Int.toNat (x2)) a2) fun h7 => if 0 ≤ pv_w ((h7 this 0) + 1) ∧ pv_w ((h7 this 0) + 1) < 9 then (pv_b (pv_up h7 (this + 1) (Int.toNat (pv_w ((h7 this 0) + 1))) (pv_w (x2 + 1))) fun h9 => fX3_tell_47 N  this a1 a2  h9) else none) else none) else none)) else none

set_option maxHeartbeats 4000000 in
set_option maxRecDepth 20000 in
theorem tX3_tell_47 {d N : Nat}  {this : Nat} {a1 : Int} {a2 : Int}  {h h' : pv_H}  (hd : 1 ≤ d)  (mthis : this ∈ pv_l3)  (hf : fX3_tell_47 N  this a1 a2  h = some h') : EV RX3 cX3_tell 4 none false d pv_SC (MC h') none 47 [none, none, none, none] [] pv_SC (MC h) := by
  unfold fX3_tell_47 at hf
  exact FV.vret dX3_tell_47 hf

set_option maxHeartbeats 4000000 in
set_option maxRecDepth 20000 in
theorem tX3_tell {d N : Nat} {this : Nat} {a1 : Int} {a2 : Int} {h h' : pv_H}  (hd : 1 ≤ d) (mthis : this ∈ pv_l3) (hf : fX3_tell N this a1 a2 h = some h') : CALL yX3_tell cX3_tell 4 none d pv_SC (MC h) [.inr (.inr (this)), .inl (a1), .inl (a2)] pv_SC (MC h') none := by
  unfold fX3_tell at hf
  refine EV.call (own := RX3) (ini := false) rfl rfl (fun q => by cases q) ⟨[], (List.append_nil _).symm⟩ (Nat.le_of_ble_eq_true rfl) ?_
  refine EV.eqL (L2 := [some (.inr (.inr (this))), some (.inl (a1)), some (.inl (a2)), none]) rfl ?_
  refine EV.aload_n dX3_tell_0 rfl rfl ?_
  refine FV.getF (v := this + 1) dX3_tell_1 (sl3_0 _ mthis) fl_3_9 rfl (mu3_0 _ mthis _) (hl3_0_1 _ mthis) ?_
  refine EV.aload_n dX3_tell_4 rfl rfl ?_
  refine FV.getI dX3_tell_5 (sl3_0 _ mthis) fl_3_24 rfl ?_
  refine EV.iconst dX3_tell_8 (by decide) (by decide) ?_
  refine EV.iadd dX3_tell_9 ?_
  obtain ⟨g1, hf⟩ := pv_gd hf
  refine FV.iald dX3_tell_10 (sl3_1 _ mthis) g1.1 g1.2 (j := (Int.toNat (pv_w ((h this 0) + 1)))) rfl ?_
  obtain ⟨x2, ex2, hf⟩ := pv_bo hf
  refine FV.sti (L2 := [some (.inr (.inr (this))), some (.inl (a1)), some (.inl (a2)), some (.inl (x2))]) dX3_tell_11 rfl (Nat.le_of_ble_eq_true rfl) ex2 rfl ?_
  refine EV.iload_n dX3_tell_12 rfl rfl ?_
  refine EV.sipush dX3_tell_13 (by decide) (by decide) ?_
  refine EV.icmp_ge (tgt := 47) dX3_tell_16 (by decide) (fun q3 => ?_) (fun q3 => ?_)
  · have hf := pv_gp hf q3
    refine EV.weak (L2 := [none, none, none, none]) trivial ?_
    exact tX3_tell_47 hd  mthis  hf
  · have hf := pv_gn hf q3
    refine EV.aload_n dX3_tell_19 rfl rfl ?_
    refine FV.getF (v := this + 2) dX3_tell_20 (sl3_0 _ mthis) fl_3_15 rfl (mu3_0 _ mthis _) (hl3_0_2 _ mthis) ?_
    refine EV.iload_n dX3_tell_23 rfl rfl ?_
    refine EV.iload_n dX3_tell_24 rfl rfl ?_
    obtain ⟨g4, hf⟩ := pv_gd hf
    obtain ⟨h5, eh5, hf⟩ := pv_bo hf
    refine FV.iast dX3_tell_25 (sl3_2 _ mthis) g4.1 g4.2 (j := (Int.toNat (x2))) rfl eh5 ?_
    refine EV.aload_n dX3_tell_26 rfl rfl ?_
    refine FV.getF (v := this + 3) dX3_tell_27 (sl3_0 _ mthis) fl_3_18 rfl (mu3_0 _ mthis _) (hl3_0_3 _ mthis) ?_
    refine EV.iload_n dX3_tell_30 rfl rfl ?_
    refine EV.iload_n dX3_tell_31 rfl rfl ?_
    obtain ⟨g6, hf⟩ := pv_gd hf
    obtain ⟨h7, eh7, hf⟩ := pv_bo hf
    refine FV.iast dX3_tell_32 (sl3_3 _ mthis) g6.1 g6.2 (j := (Int.toNat (x2))) rfl eh7 ?_
    refine EV.aload_n dX3_tell_33 rfl rfl ?_
    refine FV.getF (v := this + 1) dX3_tell_34 (sl3_0 _ mthis) fl_3_9 rfl (mu3_0 _ mthis _) (hl3_0_1 _ mthis) ?_
    refine EV.aload_n dX3_tell_37 rfl rfl ?_
    refine FV.getI dX3_tell_38 (sl3_0 _ mthis) fl_3_24 rfl ?_
    refine EV.iconst dX3_tell_41 (by decide) (by decide) ?_
    refine EV.iadd dX3_tell_42 ?_
    refine EV.iload_n dX3_tell_43 rfl rfl ?_
    refine EV.iconst dX3_tell_44 (by decide) (by decide) ?_
    refine EV.iadd dX3_tell_45 ?_
    obtain ⟨g8, hf⟩ := pv_gd hf
    obtain ⟨h9, eh9, hf⟩ := pv_bo hf
    refine FV.iast dX3_tell_46 (sl3_1 _ mthis) g8.1 g8.2 (j := (Int.toNat (pv_w ((h7 this 0) + 1)))) rfl eh9 ?_
    refine EV.weak (L2 := [none, none, none, none]) trivial ?_
    exact tX3_tell_47 hd  mthis  hf

noncomputable def fX3_isFact_90 (N : Nat)  (a0 : Int) (a1 : Int) (a2 : Nat) (s0 : Int) (h : pv_H) : Option (Int) :=
  if s0 = 0 ∨ s0 = 1 then (some (s0)) else none

noncomputable def fX3_isFact_89 (N : Nat)  (a0 : Int) (a1 : Int) (a2 : Nat)  (h : pv_H) : Option (Int) :=
  fX3_isFact_90 N  a0 a1 a2 (0) h

noncomputable def fX3_isFact_109 (N : Nat)  (a0 : Int) (a1 : Int) (a2 : Nat) (s0 : Int) (h : pv_H) : Option (Int) :=
  if s0 = 0 ∨ s0 = 1 then (some (s0)) else none

noncomputable def fX3_isFact_108 (N : Nat)  (a0 : Int) (a1 : Int) (a2 : Nat)  (h : pv_H) : Option (Int) :=
  fX3_isFact_109 N  a0 a1 a2 (0) h

noncomputable def fX3_isFact_125 (N : Nat)  (a0 : Int) (a1 : Int) (a2 : Nat) (s0 : Int) (h : pv_H) : Option (Int) :=
  if s0 = 0 ∨ s0 = 1 then (some (s0)) else none

noncomputable def fX3_isFact_140 (N : Nat)  (a0 : Int) (a1 : Int) (a2 : Nat) (s0 : Int) (h : pv_H) : Option (Int) :=
  if s0 = 0 ∨ s0 = 1 then (some (s0)) else none

noncomputable def fX3_isFact_155 (N : Nat)  (a0 : Int) (a1 : Int) (a2 : Nat) (s0 : Int) (h : pv_H) : Option (Int) :=
  if s0 = 0 ∨ s0 = 1 then (some (s0)) else none

noncomputable def fX3_isFact_171 (N : Nat)  (a0 : Int) (a1 : Int) (a2 : Nat) (s0 : Int) (h : pv_H) : Option (Int) :=
  if s0 = 0 ∨ s0 = 1 then (some (s0)) else none

noncomputable def fX3_isFact_190 (N : Nat)  (a0 : Int) (a1 : Int) (a2 : Nat) (s0 : Int) (h : pv_H) : Option (Int) :=
  if s0 = 0 ∨ s0 = 1 then (some (s0)) else none

noncomputable def fX3_isFact_189 (N : Nat)  (a0 : Int) (a1 : Int) (a2 : Nat)  (h : pv_H) : Option (Int) :=
  fX3_isFact_190 N  a0 a1 a2 (0) h

noncomputable def fX3_isFact_204 (N : Nat)  (a0 : Int) (a1 : Int) (a2 : Nat) (s0 : Int) (h : pv_H) : Option (Int) :=
  if s0 = 0 ∨ s0 = 1 then (some (s0)) else none

noncomputable def fX3_isFact_218 (N : Nat)  (a0 : Int) (a1 : Int) (a2 : Nat) (s0 : Int) (h : pv_H) : Option (Int) :=
  if s0 = 0 ∨ s0 = 1 then (some (s0)) else none

noncomputable def fX3_isFact_237 (N : Nat)  (a0 : Int) (a1 : Int) (a2 : Nat) (s0 : Int) (h : pv_H) : Option (Int) :=
  if s0 = 0 ∨ s0 = 1 then (some (s0)) else none

noncomputable def fX3_isFact_236 (N : Nat)  (a0 : Int) (a1 : Int) (a2 : Nat)  (h : pv_H) : Option (Int) :=
  fX3_isFact_237 N  a0 a1 a2 (0) h

noncomputable def fX3_isFact_14 (N : Nat)  (a0 : Int) (a1 : Int) (a2 : Nat) (s0 : Int) (h : pv_H) : Option (Int) :=
  if a0 = 27 then (if s0 = 0 then (fX3_isFact_89 N  a0 a1 a2  h) else (pv_c1 (fX7_kindOf N a2 0 h) fun r4 => if r4 = 4 then (fX3_isFact_90 N  a0 a1 a2 (1) h) else (fX3_isFact_89 N  a0 a1 a2  h))) else (if a0 = 28 then (if s0 = 0 then (fX3_isFact_108 N  a0 a1 a2  h) else (pv_c1 (fX7_kindOf N a2 0 h) fun r8 => if r8 = 3 then (fX3_isFact_109 N  a0 a1 a2 (1) h) else (fX3_isFact_108 N  a0 a1 a2  h))) else (if a0 = 29 then (if (h (a2 + 1) 1) < a1 then (fX3_isFact_125 N  a0 a1 a2 (0) h) else (fX3_isFact_125 N  a0 a1 a2 (1) h)) else (if a0 = 30 then (pv_c1 (fX7_breaksOfKind N a2 1 h) fun r12 => if r12 < a1 then (fX3_isFact_140 N  a0 a1 a2 (0) h) else (fX3_isFact_140 N  a0 a1 a2 (1) h)) else (if a0 = 31 then (pv_c1 (fX7_breaksOfKind N a2 2 h) fun r15 => if r15 < a1 then (fX3_isFact_155 N  a0 a1 a2 (0) h) else (fX3_isFact_155 N  a0 a1 a2 (1) h)) else (if a0 = 32 then (if (h (a2 + 1) 3) < a1 then (fX3_isFact_171 N  a0 a1 a2 (0) h) else (fX3_isFact_171 N  a0 a1 a2 (1) h)) else (if a0 = 33 then (if s0 = 0 then (fX3_isFact_189 N  a0 a1 a2  h) else (pv_c1 (fX7_cellOf N a2 0 h) fun r20 => if r20 = a1 then (fX3_isFact_190 N  a0 a1 a2 (1) h) else (fX3_isFact_189 N  a0 a1 a2  h))) else (if a0 = 34 then (pv_c1 (fX7_longestPiece N a2 h) fun r23 => if r23 < a1 then (fX3_isFact_204 N  a0 a1 a2 (0) h) else (fX3_isFact_204 N  a0 a1 a2 (1) h)) else (if a0 = 35 then (pv_c1 (fX7_shortestPiece N a2 h) fun r26 => if a1 < r26 then (fX3_isFact_218 N  a0 a1 a2 (0) h) else (fX3_isFact_218 N  a0 a1 a2 (1) h)) else (if a0 = 36 then (if s0 = 0 then (fX3_isFact_236 N  a0 a1 a2  h) else (pv_c1 (fX7_tickOf N a2 0 h) fun r30 => if r30 < a1 then (fX3_isFact_236 N  a0 a1 a2  h) else (fX3_isFact_237 N  a0 a1 a2 (1) h))) else (some (0)))))))))))

noncomputable def fX3_isFact (N : Nat) (a0 : Int) (a1 : Int) (a2 : Nat) (h : pv_H) : Option (Int) :=
  if (h (a2 + 1) 0) ≤ 0 then (fX3_isFact_14 N  a0 a1 a2 (0) h) else (fX3_isFact_14 N  a0 a1 a2 (1) h)

set_option maxHeartbeats 4000000 in
set_option maxRecDepth 20000 in
theorem tX3_isFact_90 {d N : Nat}  {a0 : Int} {a1 : Int} {a2 : Nat} {s0 : Int} {h : pv_H} {r : Int} (hd : 3 ≤ d)  (ma2 : a2 ∈ pv_l7)  (hf : fX3_isFact_90 N  a0 a1 a2 s0 h = some r) : EV RX3 cX3_isFact 4 (some .boolean) false d pv_SC (MC h) (some (.inl r)) 90 [none, none, none, none] [.inl (s0)] pv_SC (MC h) := by
  unfold fX3_isFact_90 at hf
  obtain ⟨g32, hf⟩ := pv_gd hf
  exact FV.zretp dX3_isFact_90 g32 hf

set_option maxHeartbeats 4000000 in
set_option maxRecDepth 20000 in
theorem tX3_isFact_89 {d N : Nat}  {a0 : Int} {a1 : Int} {a2 : Nat}  {h : pv_H} {r : Int} (hd : 3 ≤ d)  (ma2 : a2 ∈ pv_l7)  (hf : fX3_isFact_89 N  a0 a1 a2  h = some r) : EV RX3 cX3_isFact 4 (some .boolean) false d pv_SC (MC h) (some (.inl r)) 89 [none, none, none, none] [] pv_SC (MC h) := by
  unfold fX3_isFact_89 at hf
  refine EV.iconst dX3_isFact_89 (by decide) (by decide) ?_
  refine EV.weak (L2 := [none, none, none, none]) trivial ?_
  exact tX3_isFact_90 hd  ma2  hf

set_option maxHeartbeats 4000000 in
set_option maxRecDepth 20000 in
theorem tX3_isFact_109 {d N : Nat}  {a0 : Int} {a1 : Int} {a2 : Nat} {s0 : Int} {h : pv_H} {r : Int} (hd : 3 ≤ d)  (ma2 : a2 ∈ pv_l7)  (hf : fX3_isFact_109 N  a0 a1 a2 s0 h = some r) : EV RX3 cX3_isFact 4 (some .boolean) false d pv_SC (MC h) (some (.inl r)) 109 [none, none, none, none] [.inl (s0)] pv_SC (MC h) := by
  unfold fX3_isFact_109 at hf
  obtain ⟨g33, hf⟩ := pv_gd hf
  exact FV.zretp dX3_isFact_109 g33 hf

set_option maxHeartbeats 4000000 in
set_option maxRecDepth 20000 in
theorem tX3_isFact_108 {d N : Nat}  {a0 : Int} {a1 : Int} {a2 : Nat}  {h : pv_H} {r : Int} (hd : 3 ≤ d)  (ma2 : a2 ∈ pv_l7)  (hf : fX3_isFact_108 N  a0 a1 a2  h = some r) : EV RX3 cX3_isFact 4 (some .boolean) false d pv_SC (MC h) (some (.inl r)) 108 [none, none, none, none] [] pv_SC (MC h) := by
  unfold fX3_isFact_108 at hf
  refine EV.iconst dX3_isFact_108 (by decide) (by decide) ?_
  refine EV.weak (L2 := [none, none, none, none]) trivial ?_
  exact tX3_isFact_109 hd  ma2  hf

set_option maxHeartbeats 4000000 in
set_option maxRecDepth 20000 in
theorem tX3_isFact_125 {d N : Nat}  {a0 : Int} {a1 : Int} {a2 : Nat} {s0 : Int} {h : pv_H} {r : Int} (hd : 3 ≤ d)  (ma2 : a2 ∈ pv_l7)  (hf : fX3_isFact_125 N  a0 a1 a2 s0 h = some r) : EV RX3 cX3_isFact 4 (some .boolean) false d pv_SC (MC h) (some (.inl r)) 125 [none, none, none, none] [.inl (s0)] pv_SC (MC h) := by
  unfold fX3_isFact_125 at hf
  obtain ⟨g34, hf⟩ := pv_gd hf
  exact FV.zretp dX3_isFact_125 g34 hf

set_option maxHeartbeats 4000000 in
set_option maxRecDepth 20000 in
theorem tX3_isFact_140 {d N : Nat}  {a0 : Int} {a1 : Int} {a2 : Nat} {s0 : Int} {h : pv_H} {r : Int} (hd : 3 ≤ d)  (ma2 : a2 ∈ pv_l7)  (hf : fX3_isFact_140 N  a0 a1 a2 s0 h = some r) : EV RX3 cX3_isFact 4 (some .boolean) false d pv_SC (MC h) (some (.inl r)) 140 [none, none, none, none] [.inl (s0)] pv_SC (MC h) := by
  unfold fX3_isFact_140 at hf
  obtain ⟨g35, hf⟩ := pv_gd hf
  exact FV.zretp dX3_isFact_140 g35 hf

set_option maxHeartbeats 4000000 in
set_option maxRecDepth 20000 in
theorem tX3_isFact_155 {d N : Nat}  {a0 : Int} {a1 : Int} {a2 : Nat} {s0 : Int} {h : pv_H} {r : Int} (hd : 3 ≤ d)  (ma2 : a2 ∈ pv_l7)  (hf : fX3_isFact_155 N  a0 a1 a2 s0 h = some r) : EV RX3 cX3_isFact 4 (some .boolean) false d pv_SC (MC h) (some (.inl r)) 155 [none, none, none, none] [.inl (s0)] pv_SC (MC h) := by
  unfold fX3_isFact_155 at hf
  obtain ⟨g36, hf⟩ := pv_gd hf
  exact FV.zretp dX3_isFact_155 g36 hf

set_option maxHeartbeats 4000000 in
set_option maxRecDepth 20000 in
theorem tX3_isFact_171 {d N : Nat}  {a0 : Int} {a1 : Int} {a2 : Nat} {s0 : Int} {h : pv_H} {r : Int} (hd : 3 ≤ d)  (ma2 : a2 ∈ pv_l7)  (hf : fX3_isFact_171 N  a0 a1 a2 s0 h = some r) : EV RX3 cX3_isFact 4 (some .boolean) false d pv_SC (MC h) (some (.inl r)) 171 [none, none, none, none] [.inl (s0)] pv_SC (MC h) := by
  unfold fX3_isFact_171 at hf
  obtain ⟨g37, hf⟩ := pv_gd hf
  exact FV.zretp dX3_isFact_171 g37 hf

set_option maxHeartbeats 4000000 in
set_option maxRecDepth 20000 in
theorem tX3_isFact_190 {d N : Nat}  {a0 : Int} {a1 : Int} {a2 : Nat} {s0 : Int} {h : pv_H} {r : Int} (hd : 3 ≤ d)  (ma2 : a2 ∈ pv_l7)  (hf : fX3_isFact_190 N  a0 a1 a2 s0 h = some r) : EV RX3 cX3_isFact 4 (some .boolean) false d pv_SC (MC h) (some (.inl r)) 190 [none, none, none, none] [.inl (s0)] pv_SC (MC h) := by
  unfold fX3_isFact_190 at hf
  obtain ⟨g38, hf⟩ := pv_gd hf
  exact FV.zretp dX3_isFact_190 g38 hf

set_option maxHeartbeats 4000000 in
set_option maxRecDepth 20000 in
theorem tX3_isFact_189 {d N : Nat}  {a0 : Int} {a1 : Int} {a2 : Nat}  {h : pv_H} {r : Int} (hd : 3 ≤ d)  (ma2 : a2 ∈ pv_l7)  (hf : fX3_isFact_189 N  a0 a1 a2  h = some r) : EV RX3 cX3_isFact 4 (some .boolean) false d pv_SC (MC h) (some (.inl r)) 189 [none, none, none, none] [] pv_SC (MC h) := by
  unfold fX3_isFact_189 at hf
  refine EV.iconst dX3_isFact_189 (by decide) (by decide) ?_
  refine EV.weak (L2 := [none, none, none, none]) trivial ?_
  exact tX3_isFact_190 hd  ma2  hf

set_option maxHeartbeats 4000000 in
set_option maxRecDepth 20000 in
theorem tX3_isFact_204 {d N : Nat}  {a0 : Int} {a1 : Int} {a2 : Nat} {s0 : Int} {h : pv_H} {r : Int} (hd : 3 ≤ d)  (ma2 : a2 ∈ pv_l7)  (hf : fX3_isFact_204 N  a0 a1 a2 s0 h = some r) : EV RX3 cX3_isFact 4 (some .boolean) false d pv_SC (MC h) (some (.inl r)) 204 [none, none, none, none] [.inl (s0)] pv_SC (MC h) := by
  unfold fX3_isFact_204 at hf
  obtain ⟨g39, hf⟩ := pv_gd hf
  exact FV.zretp dX3_isFact_204 g39 hf

set_option maxHeartbeats 4000000 in
set_option maxRecDepth 20000 in
theorem tX3_isFact_218 {d N : Nat}  {a0 : Int} {a1 : Int} {a2 : Nat} {s0 : Int} {h : pv_H} {r : Int} (hd : 3 ≤ d)  (ma2 : a2 ∈ pv_l7)  (hf : fX3_isFact_218 N  a0 a1 a2 s0 h = some r) : EV RX3 cX3_isFact 4 (some .boolean) false d pv_SC (MC h) (some (.inl r)) 218 [none, none, none, none] [.inl (s0)] pv_SC (MC h) := by
  unfold fX3_isFact_218 at hf
  obtain ⟨g40, hf⟩ := pv_gd hf
  exact FV.zretp dX3_isFact_218 g40 hf

set_option maxHeartbeats 4000000 in
set_option maxRecDepth 20000 in
theorem tX3_isFact_237 {d N : Nat}  {a0 : Int} {a1 : Int} {a2 : Nat} {s0 : Int} {h : pv_H} {r : Int} (hd : 3 ≤ d)  (ma2 : a2 ∈ pv_l7)  (hf : fX3_isFact_237 N  a0 a1 a2 s0 h = some r) : EV RX3 cX3_isFact 4 (some .boolean) false d pv_SC (MC h) (some (.inl r)) 237 [none, none, none, none] [.inl (s0)] pv_SC (MC h) := by
  unfold fX3_isFact_237 at hf
  obtain ⟨g41, hf⟩ := pv_gd hf
  exact FV.zretp dX3_isFact_237 g41 hf

set_option maxHeartbeats 4000000 in
set_option maxRecDepth 20000 in
theorem tX3_isFact_236 {d N : Nat}  {a0 : Int} {a1 : Int} {a2 : Nat}  {h : pv_H} {r : Int} (hd : 3 ≤ d)  (ma2 : a2 ∈ pv_l7)  (hf : fX3_isFact_236 N  a0 a1 a2  h = some r) : EV RX3 cX3_isFact 4 (some .boolean) false d pv_SC (MC h) (some (.inl r)) 236 [none, none, none, none] [] pv_SC (MC h) := by
  unfold fX3_isFact_236 at hf
  refine EV.iconst dX3_isFact_236 (by decide) (by decide) ?_
  refine EV.weak (L2 := [none, none, none, none]) trivial ?_
  exact tX3_isFact_237 hd  ma2  hf

set_option maxHeartbeats 4000000 in
set_option maxRecDepth 20000 in
theorem tX3_isFact_14 {d N : Nat}  {a0 : Int} {a1 : Int} {a2 : Nat} {s0 : Int} {h : pv_H} {r : Int} (hd : 3 ≤ d)  (ma2 : a2 ∈ pv_l7)  (hf : fX3_isFact_14 N  a0 a1 a2 s0 h = some r) : EV RX3 cX3_isFact 4 (some .boolean) false d pv_SC (MC h) (some (.inl r)) 14 [some (.inl (a0)), some (.inl (a1)), some (.inr (.inr (a2))), none] [.inl (s0)] pv_SC (MC h) := by
  unfold fX3_isFact_14 at hf
  refine FV.sti (L2 := [some (.inl (a0)), some (.inl (a1)), some (.inr (.inr (a2))), some (.inl (s0))]) dX3_isFact_14 rfl (Nat.le_of_ble_eq_true rfl) rfl rfl ?_
  refine EV.iload_n dX3_isFact_15 rfl rfl ?_
  by_cases q27 : a0 = 27
  · have hf := pv_gp hf q27
    refine EV.tabIn (tgt := 72) dX3_isFact_16 (by omega) (by omega) (by rw [q27]; rfl) (by decide) ?_
    refine EV.iload_n dX3_isFact_72 rfl rfl ?_
    refine EV.if_eq (tgt := 89) dX3_isFact_73 (by decide) (fun q2 => ?_) (fun q2 => ?_)
    · have hf := pv_gp hf q2
      refine EV.weak (L2 := [none, none, none, none]) trivial ?_
      exact tX3_isFact_89 hd  ma2  hf
    · have hf := pv_gn hf q2
      refine EV.aload_n dX3_isFact_76 rfl rfl ?_
      refine EV.iconst dX3_isFact_77 (by decide) (by decide) ?_
      obtain ⟨r4, hc3, hf⟩ := pv_c1o hf
      refine EV.invV (As := [.inl (0)]) (st := []) (d1 := d - 1) (sh1 := pv_SC) (h1 := MC h) (r1 := (some (.inl r4))) dX3_isFact_78 (sl7_0 _ ma2) (by decide) md_X7_kindOf ml_X3_43 im_X7_kindOf se_X7_kindOf (tX7_kindOf (by omega) (ma2) hc3) (by omega) rfl rfl (Nat.le_of_ble_eq_true rfl) ⟨[], (List.append_nil _).symm⟩ ?_
      refine EV.eqS (st2 := [.inl (r4)]) rfl ?_
      refine EV.iconst dX3_isFact_81 (by decide) (by decide) ?_
      refine EV.icmp_ne (tgt := 89) dX3_isFact_82 (by decide) (fun q5 => ?_) (fun q5 => ?_)
      · have hf := pv_gn hf q5
        refine EV.weak (L2 := [none, none, none, none]) trivial ?_
        exact tX3_isFact_89 hd  ma2  hf
      · have hf := pv_gp hf q5
        refine EV.iconst dX3_isFact_85 (by decide) (by decide) ?_
        refine EV.goto (tgt := 90) dX3_isFact_86 (by decide) ?_
        refine EV.weak (L2 := [none, none, none, none]) trivial ?_
        exact tX3_isFact_90 hd  ma2  hf
  · have hf := pv_gn hf q27
    by_cases q28 : a0 = 28
    · have hf := pv_gp hf q28
      refine EV.tabIn (tgt := 91) dX3_isFact_16 (by omega) (by omega) (by rw [q28]; rfl) (by decide) ?_
      refine EV.iload_n dX3_isFact_91 rfl rfl ?_
      refine EV.if_eq (tgt := 108) dX3_isFact_92 (by decide) (fun q6 => ?_) (fun q6 => ?_)
      · have hf := pv_gp hf q6
        refine EV.weak (L2 := [none, none, none, none]) trivial ?_
        exact tX3_isFact_108 hd  ma2  hf
      · have hf := pv_gn hf q6
        refine EV.aload_n dX3_isFact_95 rfl rfl ?_
        refine EV.iconst dX3_isFact_96 (by decide) (by decide) ?_
        obtain ⟨r8, hc7, hf⟩ := pv_c1o hf
        refine EV.invV (As := [.inl (0)]) (st := []) (d1 := d - 1) (sh1 := pv_SC) (h1 := MC h) (r1 := (some (.inl r8))) dX3_isFact_97 (sl7_0 _ ma2) (by decide) md_X7_kindOf ml_X3_43 im_X7_kindOf se_X7_kindOf (tX7_kindOf (by omega) (ma2) hc7) (by omega) rfl rfl (Nat.le_of_ble_eq_true rfl) ⟨[], (List.append_nil _).symm⟩ ?_
        refine EV.eqS (st2 := [.inl (r8)]) rfl ?_
        refine EV.iconst dX3_isFact_100 (by decide) (by decide) ?_
        refine EV.icmp_ne (tgt := 108) dX3_isFact_101 (by decide) (fun q9 => ?_) (fun q9 => ?_)
        · have hf := pv_gn hf q9
          refine EV.weak (L2 := [none, none, none, none]) trivial ?_
          exact tX3_isFact_108 hd  ma2  hf
        · have hf := pv_gp hf q9
          refine EV.iconst dX3_isFact_104 (by decide) (by decide) ?_
          refine EV.goto (tgt := 109) dX3_isFact_105 (by decide) ?_
          refine EV.weak (L2 := [none, none, none, none]) trivial ?_
          exact tX3_isFact_109 hd  ma2  hf
    · have hf := pv_gn hf q28
      by_cases q29 : a0 = 29
      · have hf := pv_gp hf q29
        refine EV.tabIn (tgt := 110) dX3_isFact_16 (by omega) (by omega) (by rw [q29]; rfl) (by decide) ?_
        refine EV.aload_n dX3_isFact_110 rfl rfl ?_
        refine FV.getF (v := a2 + 1) dX3_isFact_111 (sl7_0 _ ma2) fl_3_38 rfl (mu7_0 _ ma2 _) (hl7_0_1 _ ma2) ?_
        refine EV.iconst dX3_isFact_114 (by decide) (by decide) ?_
        refine FV.iald dX3_isFact_115 (sl7_1 _ ma2) (by decide) (by decide) (j := 1) rfl ?_
        refine EV.iload_n dX3_isFact_116 rfl rfl ?_
        refine EV.icmp_lt (tgt := 124) dX3_isFact_117 (by decide) (fun q10 => ?_) (fun q10 => ?_)
        · have hf := pv_gp hf q10
          refine EV.iconst dX3_isFact_124 (by decide) (by decide) ?_
          refine EV.weak (L2 := [none, none, none, none]) trivial ?_
          exact tX3_isFact_125 hd  ma2  hf
        · have hf := pv_gn hf q10
          refine EV.iconst dX3_isFact_120 (by decide) (by decide) ?_
          refine EV.goto (tgt := 125) dX3_isFact_121 (by decide) ?_
          refine EV.weak (L2 := [none, none, none, none]) trivial ?_
          exact tX3_isFact_125 hd  ma2  hf
      · have hf := pv_gn hf q29
        by_cases q30 : a0 = 30
        · have hf := pv_gp hf q30
          refine EV.tabIn (tgt := 126) dX3_isFact_16 (by omega) (by omega) (by rw [q30]; rfl) (by decide) ?_
          refine EV.aload_n dX3_isFact_126 rfl rfl ?_
          refine EV.iconst dX3_isFact_127 (by decide) (by decide) ?_
          obtain ⟨r12, hc11, hf⟩ := pv_c1o hf
          refine EV.invV (As := [.inl (1)]) (st := []) (d1 := d - 1) (sh1 := pv_SC) (h1 := MC h) (r1 := (some (.inl r12))) dX3_isFact_128 (sl7_0 _ ma2) (by decide) md_X7_breaksOfKind ml_X3_47 im_X7_breaksOfKind se_X7_breaksOfKind (tX7_breaksOfKind (by omega) (ma2) hc11) (by omega) rfl rfl (Nat.le_of_ble_eq_true rfl) ⟨[], (List.append_nil _).symm⟩ ?_
          refine EV.eqS (st2 := [.inl (r12)]) rfl ?_
          refine EV.iload_n dX3_isFact_131 rfl rfl ?_
          refine EV.icmp_lt (tgt := 139) dX3_isFact_132 (by decide) (fun q13 => ?_) (fun q13 => ?_)
          · have hf := pv_gp hf q13
            refine EV.iconst dX3_isFact_139 (by decide) (by decide) ?_
            refine EV.weak (L2 := [none, none, none, none]) trivial ?_
            exact tX3_isFact_140 hd  ma2  hf
          · have hf := pv_gn hf q13
            refine EV.iconst dX3_isFact_135 (by decide) (by decide) ?_
            refine EV.goto (tgt := 140) dX3_isFact_136 (by decide) ?_
            refine EV.weak (L2 := [none, none, none, none]) trivial ?_
            exact tX3_isFact_140 hd  ma2  hf
        · have hf := pv_gn hf q30
          by_cases q31 : a0 = 31
          · have hf := pv_gp hf q31
            refine EV.tabIn (tgt := 141) dX3_isFact_16 (by omega) (by omega) (by rw [q31]; rfl) (by decide) ?_
            refine EV.aload_n dX3_isFact_141 rfl rfl ?_
            refine EV.iconst dX3_isFact_142 (by decide) (by decide) ?_
            obtain ⟨r15, hc14, hf⟩ := pv_c1o hf
            refine EV.invV (As := [.inl (2)]) (st := []) (d1 := d - 1) (sh1 := pv_SC) (h1 := MC h) (r1 := (some (.inl r15))) dX3_isFact_143 (sl7_0 _ ma2) (by decide) md_X7_breaksOfKind ml_X3_47 im_X7_breaksOfKind se_X7_breaksOfKind (tX7_breaksOfKind (by omega) (ma2) hc14) (by omega) rfl rfl (Nat.le_of_ble_eq_true rfl) ⟨[], (List.append_nil _).symm⟩ ?_
            refine EV.eqS (st2 := [.inl (r15)]) rfl ?_
            refine EV.iload_n dX3_isFact_146 rfl rfl ?_
            refine EV.icmp_lt (tgt := 154) dX3_isFact_147 (by decide) (fun q16 => ?_) (fun q16 => ?_)
            · have hf := pv_gp hf q16
              refine EV.iconst dX3_isFact_154 (by decide) (by decide) ?_
              refine EV.weak (L2 := [none, none, none, none]) trivial ?_
              exact tX3_isFact_155 hd  ma2  hf
            · have hf := pv_gn hf q16
              refine EV.iconst dX3_isFact_150 (by decide) (by decide) ?_
              refine EV.goto (tgt := 155) dX3_isFact_151 (by decide) ?_
              refine EV.weak (L2 := [none, none, none, none]) trivial ?_
              exact tX3_isFact_155 hd  ma2  hf
          · have hf := pv_gn hf q31
            by_cases q32 : a0 = 32
            · have hf := pv_gp hf q32
              refine EV.tabIn (tgt := 156) dX3_isFact_16 (by omega) (by omega) (by rw [q32]; rfl) (by decide) ?_
              refine EV.aload_n dX3_isFact_156 rfl rfl ?_
              refine FV.getF (v := a2 + 1) dX3_isFact_157 (sl7_0 _ ma2) fl_3_38 rfl (mu7_0 _ ma2 _) (hl7_0_1 _ ma2) ?_
              refine EV.iconst dX3_isFact_160 (by decide) (by decide) ?_
              refine FV.iald dX3_isFact_161 (sl7_1 _ ma2) (by decide) (by decide) (j := 3) rfl ?_
              refine EV.iload_n dX3_isFact_162 rfl rfl ?_
              refine EV.icmp_lt (tgt := 170) dX3_isFact_163 (by decide) (fun q17 => ?_) (fun q17 => ?_)
              · have hf := pv_gp hf q17
                refine EV.iconst dX3_isFact_170 (by decide) (by decide) ?_
                refine EV.weak (L2 := [none, none, none, none]) trivial ?_
                exact tX3_isFact_171 hd  ma2  hf
              · have hf := pv_gn hf q17
                refine EV.iconst dX3_isFact_166 (by decide) (by decide) ?_
                refine EV.goto (tgt := 171) dX3_isFact_167 (by decide) ?_
                refine EV.weak (L2 := [none, none, none, none]) trivial ?_
                exact tX3_isFact_171 hd  ma2  hf
            · have hf := pv_gn hf q32
              by_cases q33 : a0 = 33
              · have hf := pv_gp hf q33
                refine EV.tabIn (tgt := 172) dX3_isFact_16 (by omega) (by omega) (by rw [q33]; rfl) (by decide) ?_
                refine EV.iload_n dX3_isFact_172 rfl rfl ?_
                refine EV.if_eq (tgt := 189) dX3_isFact_173 (by decide) (fun q18 => ?_) (fun q18 => ?_)
                · have hf := pv_gp hf q18
                  refine EV.weak (L2 := [none, none, none, none]) trivial ?_
                  exact tX3_isFact_189 hd  ma2  hf
                · have hf := pv_gn hf q18
                  refine EV.aload_n dX3_isFact_176 rfl rfl ?_
                  refine EV.iconst dX3_isFact_177 (by decide) (by decide) ?_
                  obtain ⟨r20, hc19, hf⟩ := pv_c1o hf
                  refine EV.invV (As := [.inl (0)]) (st := []) (d1 := d - 1) (sh1 := pv_SC) (h1 := MC h) (r1 := (some (.inl r20))) dX3_isFact_178 (sl7_0 _ ma2) (by decide) md_X7_cellOf ml_X3_50 im_X7_cellOf se_X7_cellOf (tX7_cellOf (by omega) (ma2) hc19) (by omega) rfl rfl (Nat.le_of_ble_eq_true rfl) ⟨[], (List.append_nil _).symm⟩ ?_
                  refine EV.eqS (st2 := [.inl (r20)]) rfl ?_
                  refine EV.iload_n dX3_isFact_181 rfl rfl ?_
                  refine EV.icmp_ne (tgt := 189) dX3_isFact_182 (by decide) (fun q21 => ?_) (fun q21 => ?_)
                  · have hf := pv_gn hf q21
                    refine EV.weak (L2 := [none, none, none, none]) trivial ?_
                    exact tX3_isFact_189 hd  ma2  hf
                  · have hf := pv_gp hf q21
                    refine EV.iconst dX3_isFact_185 (by decide) (by decide) ?_
                    refine EV.goto (tgt := 190) dX3_isFact_186 (by decide) ?_
                    refine EV.weak (L2 := [none, none, none, none]) trivial ?_
                    exact tX3_isFact_190 hd  ma2  hf
              · have hf := pv_gn hf q33
                by_cases q34 : a0 = 34
                · have hf := pv_gp hf q34
                  refine EV.tabIn (tgt := 191) dX3_isFact_16 (by omega) (by omega) (by rw [q34]; rfl) (by decide) ?_
                  refine EV.aload_n dX3_isFact_191 rfl rfl ?_
                  obtain ⟨r23, hc22, hf⟩ := pv_c1o hf
                  refine EV.invV (As := []) (st := []) (d1 := d - 1) (sh1 := pv_SC) (h1 := MC h) (r1 := (some (.inl r23))) dX3_isFact_192 (sl7_0 _ ma2) (by decide) md_X7_longestPiece ml_X3_53 im_X7_longestPiece se_X7_longestPiece (tX7_longestPiece (by omega) (ma2) hc22) (by omega) rfl rfl (Nat.le_of_ble_eq_true rfl) ⟨[], (List.append_nil _).symm⟩ ?_
                  refine EV.eqS (st2 := [.inl (r23)]) rfl ?_
                  refine EV.iload_n dX3_isFact_195 rfl rfl ?_
                  refine EV.icmp_lt (tgt := 203) dX3_isFact_196 (by decide) (fun q24 => ?_) (fun q24 => ?_)
                  · have hf := pv_gp hf q24
                    refine EV.iconst dX3_isFact_203 (by decide) (by decide) ?_
                    refine EV.weak (L2 := [none, none, none, none]) trivial ?_
                    exact tX3_isFact_204 hd  ma2  hf
                  · have hf := pv_gn hf q24
                    refine EV.iconst dX3_isFact_199 (by decide) (by decide) ?_
                    refine EV.goto (tgt := 204) dX3_isFact_200 (by decide) ?_
                    refine EV.weak (L2 := [none, none, none, none]) trivial ?_
                    exact tX3_isFact_204 hd  ma2  hf
                · have hf := pv_gn hf q34
                  by_cases q35 : a0 = 35
                  · have hf := pv_gp hf q35
                    refine EV.tabIn (tgt := 205) dX3_isFact_16 (by omega) (by omega) (by rw [q35]; rfl) (by decide) ?_
                    refine EV.aload_n dX3_isFact_205 rfl rfl ?_
                    obtain ⟨r26, hc25, hf⟩ := pv_c1o hf
                    refine EV.invV (As := []) (st := []) (d1 := d - 1) (sh1 := pv_SC) (h1 := MC h) (r1 := (some (.inl r26))) dX3_isFact_206 (sl7_0 _ ma2) (by decide) md_X7_shortestPiece ml_X3_57 im_X7_shortestPiece se_X7_shortestPiece (tX7_shortestPiece (by omega) (ma2) hc25) (by omega) rfl rfl (Nat.le_of_ble_eq_true rfl) ⟨[], (List.append_nil _).symm⟩ ?_
                    refine EV.eqS (st2 := [.inl (r26)]) rfl ?_
                    refine EV.iload_n dX3_isFact_209 rfl rfl ?_
                    refine EV.icmp_gt (tgt := 217) dX3_isFact_210 (by decide) (fun q27 => ?_) (fun q27 => ?_)
                    · have hf := pv_gp hf q27
                      refine EV.iconst dX3_isFact_217 (by decide) (by decide) ?_
                      refine EV.weak (L2 := [none, none, none, none]) trivial ?_
                      exact tX3_isFact_218 hd  ma2  hf
                    · have hf := pv_gn hf q27
                      refine EV.iconst dX3_isFact_213 (by decide) (by decide) ?_
                      refine EV.goto (tgt := 218) dX3_isFact_214 (by decide) ?_
                      refine EV.weak (L2 := [none, none, none, none]) trivial ?_
                      exact tX3_isFact_218 hd  ma2  hf
                  · have hf := pv_gn hf q35
                    by_cases q36 : a0 = 36
                    · have hf := pv_gp hf q36
                      refine EV.tabIn (tgt := 219) dX3_isFact_16 (by omega) (by omega) (by rw [q36]; rfl) (by decide) ?_
                      refine EV.iload_n dX3_isFact_219 rfl rfl ?_
                      refine EV.if_eq (tgt := 236) dX3_isFact_220 (by decide) (fun q28 => ?_) (fun q28 => ?_)
                      · have hf := pv_gp hf q28
                        refine EV.weak (L2 := [none, none, none, none]) trivial ?_
                        exact tX3_isFact_236 hd  ma2  hf
                      · have hf := pv_gn hf q28
                        refine EV.aload_n dX3_isFact_223 rfl rfl ?_
                        refine EV.iconst dX3_isFact_224 (by decide) (by decide) ?_
                        obtain ⟨r30, hc29, hf⟩ := pv_c1o hf
                        refine EV.invV (As := [.inl (0)]) (st := []) (d1 := d - 1) (sh1 := pv_SC) (h1 := MC h) (r1 := (some (.inl r30))) dX3_isFact_225 (sl7_0 _ ma2) (by decide) md_X7_tickOf ml_X3_60 im_X7_tickOf se_X7_tickOf (tX7_tickOf (by omega) (ma2) hc29) (by omega) rfl rfl (Nat.le_of_ble_eq_true rfl) ⟨[], (List.append_nil _).symm⟩ ?_
                        refine EV.eqS (st2 := [.inl (r30)]) rfl ?_
                        refine EV.iload_n dX3_isFact_228 rfl rfl ?_
                        refine EV.icmp_lt (tgt := 236) dX3_isFact_229 (by decide) (fun q31 => ?_) (fun q31 => ?_)
                        · have hf := pv_gp hf q31
                          refine EV.weak (L2 := [none, none, none, none]) trivial ?_
                          exact tX3_isFact_236 hd  ma2  hf
                        · have hf := pv_gn hf q31
                          refine EV.iconst dX3_isFact_232 (by decide) (by decide) ?_
                          refine EV.goto (tgt := 237) dX3_isFact_233 (by decide) ?_
                          refine EV.weak (L2 := [none, none, none, none]) trivial ?_
                          exact tX3_isFact_237 hd  ma2  hf
                    · have hf := pv_gn hf q36
                      refine EV.tabOut (tgt := 238) dX3_isFact_16 (by omega) (by decide) ?_
                      refine EV.iconst dX3_isFact_238 (by decide) (by decide) ?_
                      exact FV.zretp dX3_isFact_239 (by decide) hf

set_option maxHeartbeats 4000000 in
set_option maxRecDepth 20000 in
theorem tX3_isFact {d N : Nat} {a0 : Int} {a1 : Int} {a2 : Nat} {h : pv_H} {r : Int} (hd : 3 ≤ d) (ma2 : a2 ∈ pv_l7) (hf : fX3_isFact N a0 a1 a2 h = some r) : CALL yX3_isFact cX3_isFact 4 (some .boolean) d pv_SC (MC h) [.inl (a0), .inl (a1), .inr (.inr (a2))] pv_SC (MC h) (some (.inl r)) := by
  unfold fX3_isFact at hf
  refine EV.call (own := RX3) (ini := false) rfl rfl (fun q => by cases q) ⟨[], (List.append_nil _).symm⟩ (Nat.le_of_ble_eq_true rfl) ?_
  refine EV.eqL (L2 := [some (.inl (a0)), some (.inl (a1)), some (.inr (.inr (a2))), none]) rfl ?_
  refine EV.aload_n dX3_isFact_0 rfl rfl ?_
  refine FV.getF (v := a2 + 1) dX3_isFact_1 (sl7_0 _ ma2) fl_3_38 rfl (mu7_0 _ ma2 _) (hl7_0_1 _ ma2) ?_
  refine EV.iconst dX3_isFact_4 (by decide) (by decide) ?_
  refine FV.iald dX3_isFact_5 (sl7_1 _ ma2) (by decide) (by decide) (j := 0) rfl ?_
  refine EV.if_le (tgt := 13) dX3_isFact_6 (by decide) (fun q1 => ?_) (fun q1 => ?_)
  · have hf := pv_gp hf q1
    refine EV.iconst dX3_isFact_13 (by decide) (by decide) ?_
    refine EV.weak (L2 := [some (.inl (a0)), some (.inl (a1)), some (.inr (.inr (a2))), none]) (And.intro rfl (And.intro rfl (And.intro rfl trivial))) ?_
    exact tX3_isFact_14 hd  ma2  hf
  · have hf := pv_gn hf q1
    refine EV.iconst dX3_isFact_9 (by decide) (by decide) ?_
    refine EV.goto (tgt := 14) dX3_isFact_10 (by decide) ?_
    refine EV.weak (L2 := [some (.inl (a0)), some (.inl (a1)), some (.inr (.inr (a2))), none]) (And.intro rfl (And.intro rfl (And.intro rfl trivial))) ?_
    exact tX3_isFact_14 hd  ma2  hf

noncomputable def fX3_isSo_202 (N : Nat)  (this : Nat) (a1 : Int) (a2 : Nat) (s0 : Int) (h : pv_H) : Option (pv_H × Int) :=
  if s0 = 0 ∨ s0 = 1 then (some (h, s0)) else none

noncomputable def fX3_isSo_201 (N : Nat)  (this : Nat) (a1 : Int) (a2 : Nat)  (h : pv_H) : Option (pv_H × Int) :=
  fX3_isSo_202 N  this a1 a2 (0) h

noncomputable def fX3_isSo_176 (N : Nat) (k10 : Int → Int → pv_H → Option (pv_H × Int)) (this : Nat) (a1 : Int) (a2 : Nat) (v3 : Int) (v4 : Int) (h : pv_H) : Option (pv_H × Int) :=
  pv_b (pv_w (v4 + 1)) fun x22 => k10 (v3) (x22) h

noncomputable def fX3_isSo_172 (N : Nat) (k10 : Int → Int → pv_H → Option (pv_H × Int)) (this : Nat) (a1 : Int) (a2 : Nat) (v3 : Int) (v4 : Int) (s0 : Int) (s1 : Int) (h : pv_H) : Option (pv_H × Int) :=
  if 0 ≤ s1 ∧ s1 < 401 then (pv_b (pv_up h (this + 4) (Int.toNat (s1)) s0) fun h37 => pv_b (pv_w (v3 + 1)) fun x38 => fX3_isSo_176 N (k10) this a1 a2 (x38) (v4) h37) else none

noncomputable def fX3_isSo_141 (N : Nat) (k10 : Int → Int → pv_H → Option (pv_H × Int)) (this : Nat) (a1 : Int) (a2 : Nat) (v3 : Int) (v4 : Int) (h : pv_H) : Option (pv_H × Int) :=
  if 0 ≤ v4 ∧ v4 < 400 then (if 0 ≤ v4 ∧ v4 < 400 then (pv_c1 (fX3_isFact N (h (this + 2) (Int.toNat (v4))) (h (this + 3) (Int.toNat (v4))) a2 h) fun r34 => if r34 = 0 then (fX3_isSo_172 N (k10) this a1 a2 (v3) (v4) (0) (v3) h) else (fX3_isSo_172 N (k10) this a1 a2 (v3) (v4) (1) (v3) h)) else none) else none

noncomputable def fX3_isSo_101 (N : Nat) (k10 : Int → Int → pv_H → Option (pv_H × Int)) (this : Nat) (a1 : Int) (a2 : Nat) (v3 : Int) (v4 : Int) (h : pv_H) : Option (pv_H × Int) :=
  if 0 ≤ v4 ∧ v4 < 400 then (if (h (this + 2) (Int.toNat (v4))) = 24 then (if v3 < 2 then (fX3_isSo_141 N (k10) this a1 a2 (v3) (v4) h) else (pv_b (pv_w (v3 + (-1))) fun x26 => if 0 ≤ pv_w (x26 - 1) ∧ pv_w (x26 - 1) < 401 then (if 0 ≤ x26 ∧ x26 < 401 then (if 0 ≤ pv_w (x26 - 1) ∧ pv_w (x26 - 1) < 401 then (pv_b (pv_up h (this + 4) (Int.toNat (pv_w (x26 - 1))) (pv_or (h (this + 4) (Int.toNat (pv_w (x26 - 1)))) (h (this + 4) (Int.toNat (x26))))) fun h30 => fX3_isSo_176 N (k10) this a1 a2 (x26) (v4) h30) else none) else none) else none)) else (fX3_isSo_141 N (k10) this a1 a2 (v3) (v4) h)) else none

noncomputable def fX3_isSo_61 (N : Nat) (k10 : Int → Int → pv_H → Option (pv_H × Int)) (this : Nat) (a1 : Int) (a2 : Nat) (v3 : Int) (v4 : Int) (h : pv_H) : Option (pv_H × Int) :=
  if 0 ≤ v4 ∧ v4 < 400 then (if (h (this + 2) (Int.toNat (v4))) = 25 then (if v3 < 2 then (fX3_isSo_101 N (k10) this a1 a2 (v3) (v4) h) else (pv_b (pv_w (v3 + (-1))) fun x17 => if 0 ≤ pv_w (x17 - 1) ∧ pv_w (x17 - 1) < 401 then (if 0 ≤ x17 ∧ x17 < 401 then (if 0 ≤ pv_w (x17 - 1) ∧ pv_w (x17 - 1) < 401 then (pv_b (pv_up h (this + 4) (Int.toNat (pv_w (x17 - 1))) (pv_and (h (this + 4) (Int.toNat (pv_w (x17 - 1)))) (h (this + 4) (Int.toNat (x17))))) fun h21 => fX3_isSo_176 N (k10) this a1 a2 (x17) (v4) h21) else none) else none) else none)) else (fX3_isSo_101 N (k10) this a1 a2 (v3) (v4) h)) else none

noncomputable def fX3_isSo_10 (N : Nat)  (this : Nat) (a1 : Int) (a2 : Nat) : Nat → Int → Int → pv_H → Option (pv_H × Int)
  | 0, _, _, _ => none
  | n + 1, v3, v4, h => if 0 ≤ pv_w (a1 + 1) ∧ pv_w (a1 + 1) < 9 then (if (h (this + 1) (Int.toNat (pv_w (a1 + 1)))) ≤ v4 then (if v3 < 1 then (fX3_isSo_201 N  this a1 a2  h) else (if (h (this + 4) 0) = 1 then (fX3_isSo_202 N  this a1 a2 (1) h) else (fX3_isSo_201 N  this a1 a2  h))) else (if 0 ≤ v4 ∧ v4 < 400 then (if (h (this + 2) (Int.toNat (v4))) = 26 then (if v3 < 1 then (fX3_isSo_61 N (fun v3_ v4_ hh => fX3_isSo_10 N  this a1 a2 n v3_ v4_ hh) this a1 a2 (v3) (v4) h) else (if 0 ≤ pv_w (v3 - 1) ∧ pv_w (v3 - 1) < 401 then (if 0 ≤ pv_w (v3 - 1) ∧ pv_w (v3 - 1) < 401 then (pv_b (pv_up h (this + 4) (Int.toNat (pv_w (v3 - 1))) (pv_w (1 - (h (this + 4) (Int.toNat (pv_w (v3 - 1))))))) fun h12 => fX3_isSo_176 N (fun v3_ v4_ hh => fX3_isSo_10 N  this a1 a2 n v3_ v4_ hh) this a1 a2 (v3) (v4) h12) else none) else none)) else (fX3_isSo_61 N (fun v3_ v4_ hh => fX3_isSo_10 N  this a1 a2 n v3_ v4_ hh) this a1 a2 (v3) (v4) h)) else none)) else none

noncomputable def fX3_isSo (N : Nat) (this : Nat) (a1 : Int) (a2 : Nat) (h : pv_H) : Option (pv_H × Int) :=
  if 0 ≤ a1 ∧ a1 < 9 then (pv_b (h (this + 1) (Int.toNat (a1))) fun x2 => fX3_isSo_10 N  this a1 a2 N (0) (x2) h) else none

set_option maxHeartbeats 4000000 in
set_option maxRecDepth 20000 in
theorem tX3_isSo_202 {d N : Nat}  {this : Nat} {a1 : Int} {a2 : Nat} {s0 : Int} {h h' : pv_H} {r : Int} (hd : 4 ≤ d)  (mthis : this ∈ pv_l3) (ma2 : a2 ∈ pv_l7)  (hf : fX3_isSo_202 N  this a1 a2 s0 h = some (h', r)) : EV RX3 cX3_isSo 5 (some .boolean) false d pv_SC (MC h') (some (.inl r)) 202 [none, none, none, none, none] [.inl (s0)] pv_SC (MC h) := by
  unfold fX3_isSo_202 at hf
  obtain ⟨g13, hf⟩ := pv_gd hf
  exact FV.zret dX3_isSo_202 g13 hf

set_option maxHeartbeats 4000000 in
set_option maxRecDepth 20000 in
theorem tX3_isSo_201 {d N : Nat}  {this : Nat} {a1 : Int} {a2 : Nat}  {h h' : pv_H} {r : Int} (hd : 4 ≤ d)  (mthis : this ∈ pv_l3) (ma2 : a2 ∈ pv_l7)  (hf : fX3_isSo_201 N  this a1 a2  h = some (h', r)) : EV RX3 cX3_isSo 5 (some .boolean) false d pv_SC (MC h') (some (.inl r)) 201 [none, none, none, none, none] [] pv_SC (MC h) := by
  unfold fX3_isSo_201 at hf
  refine EV.iconst dX3_isSo_201 (by decide) (by decide) ?_
  refine EV.weak (L2 := [none, none, none, none, none]) trivial ?_
  exact tX3_isSo_202 hd  mthis ma2  hf

set_option maxHeartbeats 4000000 in
set_option maxRecDepth 20000 in
theorem tX3_isSo_176 {d N : Nat} {k10 : Int → Int → pv_H → Option (pv_H × Int)} {this : Nat} {a1 : Int} {a2 : Nat} {v3 : Int} {v4 : Int} {h h' : pv_H} {r : Int} (hd : 4 ≤ d) (hk10 : ∀ (v3 : Int) (v4 : Int)  (hh : pv_H), k10 v3 v4 hh = some (h', r) → EV RX3 cX3_isSo 5 (some .boolean) false d pv_SC (MC h') (some (.inl r)) 10 [some (.inr (.inr (this))), some (.inl (a1)), some (.inr (.inr (a2))), some (.inl (v3)), some (.inl (v4))] [] pv_SC (MC hh)) (mthis : this ∈ pv_l3) (ma2 : a2 ∈ pv_l7)  (hf : fX3_isSo_176 N k10 this a1 a2 v3 v4 h = some (h', r)) : EV RX3 cX3_isSo 5 (some .boolean) false d pv_SC (MC h') (some (.inl r)) 176 [some (.inr (.inr (this))), some (.inl (a1)), some (.inr (.inr (a2))), some (.inl (v3)), some (.inl (v4))] [] pv_SC (MC h) := by
  unfold fX3_isSo_176 at hf
  obtain ⟨x22, ex22, hf⟩ := pv_bo hf
  refine FV.inc (L2 := [some (.inr (.inr (this))), some (.inl (a1)), some (.inr (.inr (a2))), some (.inl (v3)), some (.inl (x22))]) dX3_isSo_176 rfl (Nat.le_of_ble_eq_true rfl) ex22 rfl ?_
  refine EV.goto (tgt := 10) dX3_isSo_179 (by decide) ?_
  refine EV.weak (L2 := [some (.inr (.inr (this))), some (.inl (a1)), some (.inr (.inr (a2))), some (.inl (v3)), some (.inl (x22))]) (And.intro rfl (And.intro rfl (And.intro rfl (And.intro rfl (And.intro rfl trivial))))) ?_
  exact hk10 _ _  _ hf

set_option maxHeartbeats 4000000 in
set_option maxRecDepth 20000 in
theorem tX3_isSo_172 {d N : Nat} {k10 : Int → Int → pv_H → Option (pv_H × Int)} {this : Nat} {a1 : Int} {a2 : Nat} {v3 : Int} {v4 : Int} {s0 : Int} {s1 : Int} {h h' : pv_H} {r : Int} (hd : 4 ≤ d) (hk10 : ∀ (v3 : Int) (v4 : Int)  (hh : pv_H), k10 v3 v4 hh = some (h', r) → EV RX3 cX3_isSo 5 (some .boolean) false d pv_SC (MC h') (some (.inl r)) 10 [some (.inr (.inr (this))), some (.inl (a1)), some (.inr (.inr (a2))), some (.inl (v3)), some (.inl (v4))] [] pv_SC (MC hh)) (mthis : this ∈ pv_l3) (ma2 : a2 ∈ pv_l7)  (hf : fX3_isSo_172 N k10 this a1 a2 v3 v4 s0 s1 h = some (h', r)) : EV RX3 cX3_isSo 5 (some .boolean) false d pv_SC (MC h') (some (.inl r)) 172 [some (.inr (.inr (this))), some (.inl (a1)), some (.inr (.inr (a2))), some (.inl (v3)), some (.inl (v4))] [.inl (s0), .inl (s1), .inr (.inr (this + 4))] pv_SC (MC h) := by
  unfold fX3_isSo_172 at hf
  obtain ⟨g36, hf⟩ := pv_gd hf
  obtain ⟨h37, eh37, hf⟩ := pv_bo hf
  refine FV.iast dX3_isSo_172 (sl3_4 _ mthis) g36.1 g36.2 (j := (Int.toNat (s1))) rfl eh37 ?_
  obtain ⟨x38, ex38, hf⟩ := pv_bo hf
  refine FV.inc (L2 := [some (.inr (.inr (this))), some (.inl (a1)), some (.inr (.inr (a2))), some (.inl (x38)), some (.inl (v4))]) dX3_isSo_173 rfl (Nat.le_of_ble_eq_true rfl) ex38 rfl ?_
  refine EV.weak (L2 := [some (.inr (.inr (this))), some (.inl (a1)), some (.inr (.inr (a2))), some (.inl (x38)), some (.inl (v4))]) (And.intro rfl (And.intro rfl (And.intro rfl (And.intro rfl (And.intro rfl trivial))))) ?_
  exact tX3_isSo_176 hd (hk10) mthis ma2  hf

set_option maxHeartbeats 4000000 in
set_option maxRecDepth 20000 in
theorem tX3_isSo_141 {d N : Nat} {k10 : Int → Int → pv_H → Option (pv_H × Int)} {this : Nat} {a1 : Int} {a2 : Nat} {v3 : Int} {v4 : Int} {h h' : pv_H} {r : Int} (hd : 4 ≤ d) (hk10 : ∀ (v3 : Int) (v4 : Int)  (hh : pv_H), k10 v3 v4 hh = some (h', r) → EV RX3 cX3_isSo 5 (some .boolean) false d pv_SC (MC h') (some (.inl r)) 10 [some (.inr (.inr (this))), some (.inl (a1)), some (.inr (.inr (a2))), some (.inl (v3)), some (.inl (v4))] [] pv_SC (MC hh)) (mthis : this ∈ pv_l3) (ma2 : a2 ∈ pv_l7)  (hf : fX3_isSo_141 N k10 this a1 a2 v3 v4 h = some (h', r)) : EV RX3 cX3_isSo 5 (some .boolean) false d pv_SC (MC h') (some (.inl r)) 141 [some (.inr (.inr (this))), some (.inl (a1)), some (.inr (.inr (a2))), some (.inl (v3)), some (.inl (v4))] [] pv_SC (MC h) := by
  unfold fX3_isSo_141 at hf
  refine EV.aload_n dX3_isSo_141 rfl rfl ?_
  refine FV.getF (v := this + 4) dX3_isSo_142 (sl3_0 _ mthis) fl_3_21 rfl (mu3_0 _ mthis _) (hl3_0_4 _ mthis) ?_
  refine EV.iload_n dX3_isSo_145 rfl rfl ?_
  refine EV.aload_n dX3_isSo_146 rfl rfl ?_
  refine FV.getF (v := this + 2) dX3_isSo_147 (sl3_0 _ mthis) fl_3_15 rfl (mu3_0 _ mthis _) (hl3_0_2 _ mthis) ?_
  refine EV.iload dX3_isSo_150 rfl ?_
  obtain ⟨g31, hf⟩ := pv_gd hf
  refine FV.iald dX3_isSo_152 (sl3_2 _ mthis) g31.1 g31.2 (j := (Int.toNat (v4))) rfl ?_
  refine EV.aload_n dX3_isSo_153 rfl rfl ?_
  refine FV.getF (v := this + 3) dX3_isSo_154 (sl3_0 _ mthis) fl_3_18 rfl (mu3_0 _ mthis _) (hl3_0_3 _ mthis) ?_
  refine EV.iload dX3_isSo_157 rfl ?_
  obtain ⟨g32, hf⟩ := pv_gd hf
  refine FV.iald dX3_isSo_159 (sl3_3 _ mthis) g32.1 g32.2 (j := (Int.toNat (v4))) rfl ?_
  refine EV.aload_n dX3_isSo_160 rfl rfl ?_
  obtain ⟨r34, hc33, hf⟩ := pv_c1o hf
  refine EV.invS (As := [.inl (h (this + 2) (Int.toNat (v4))), .inl (h (this + 3) (Int.toNat (v4))), .inr (.inr (a2))]) (st := [.inl (v3), .inr (.inr (this + 4))]) (d1 := d - 1) (sh1 := pv_SC) (h1 := MC h) (r1 := (some (.inl r34))) dX3_isSo_161 md_X3_isFact ml_X3_34 st_X3_isFact (tX3_isFact (by omega) (ma2) hc33) (by omega) rfl rfl (Nat.le_of_ble_eq_true rfl) ⟨[], (List.append_nil _).symm⟩ ?_
  refine EV.eqS (st2 := [.inl (r34), .inl (v3), .inr (.inr (this + 4))]) rfl ?_
  refine EV.if_eq (tgt := 171) dX3_isSo_164 (by decide) (fun q35 => ?_) (fun q35 => ?_)
  · have hf := pv_gp hf q35
    refine EV.iconst dX3_isSo_171 (by decide) (by decide) ?_
    refine EV.weak (L2 := [some (.inr (.inr (this))), some (.inl (a1)), some (.inr (.inr (a2))), some (.inl (v3)), some (.inl (v4))]) (And.intro rfl (And.intro rfl (And.intro rfl (And.intro rfl (And.intro rfl trivial))))) ?_
    exact tX3_isSo_172 hd (hk10) mthis ma2  hf
  · have hf := pv_gn hf q35
    refine EV.iconst dX3_isSo_167 (by decide) (by decide) ?_
    refine EV.goto (tgt := 172) dX3_isSo_168 (by decide) ?_
    refine EV.weak (L2 := [some (.inr (.inr (this))), some (.inl (a1)), some (.inr (.inr (a2))), some (.inl (v3)), some (.inl (v4))]) (And.intro rfl (And.intro rfl (And.intro rfl (And.intro rfl (And.intro rfl trivial))))) ?_
    exact tX3_isSo_172 hd (hk10) mthis ma2  hf

set_option maxHeartbeats 4000000 in
set_option maxRecDepth 20000 in
theorem tX3_isSo_101 {d N : Nat} {k10 : Int → Int → pv_H → Option (pv_H × Int)} {this : Nat} {a1 : Int} {a2 : Nat} {v3 : Int} {v4 : Int} {h h' : pv_H} {r : Int} (hd : 4 ≤ d) (hk10 : ∀ (v3 : Int) (v4 : Int)  (hh : pv_H), k10 v3 v4 hh = some (h', r) → EV RX3 cX3_isSo 5 (some .boolean) false d pv_SC (MC h') (some (.inl r)) 10 [some (.inr (.inr (this))), some (.inl (a1)), some (.inr (.inr (a2))), some (.inl (v3)), some (.inl (v4))] [] pv_SC (MC hh)) (mthis : this ∈ pv_l3) (ma2 : a2 ∈ pv_l7)  (hf : fX3_isSo_101 N k10 this a1 a2 v3 v4 h = some (h', r)) : EV RX3 cX3_isSo 5 (some .boolean) false d pv_SC (MC h') (some (.inl r)) 101 [some (.inr (.inr (this))), some (.inl (a1)), some (.inr (.inr (a2))), some (.inl (v3)), some (.inl (v4))] [] pv_SC (MC h) := by
  unfold fX3_isSo_101 at hf
  refine EV.aload_n dX3_isSo_101 rfl rfl ?_
  refine FV.getF (v := this + 2) dX3_isSo_102 (sl3_0 _ mthis) fl_3_15 rfl (mu3_0 _ mthis _) (hl3_0_2 _ mthis) ?_
  refine EV.iload dX3_isSo_105 rfl ?_
  obtain ⟨g23, hf⟩ := pv_gd hf
  refine FV.iald dX3_isSo_107 (sl3_2 _ mthis) g23.1 g23.2 (j := (Int.toNat (v4))) rfl ?_
  refine EV.bipush dX3_isSo_108 (by decide) (by decide) ?_
  refine EV.icmp_ne (tgt := 141) dX3_isSo_110 (by decide) (fun q24 => ?_) (fun q24 => ?_)
  · have hf := pv_gn hf q24
    refine EV.weak (L2 := [some (.inr (.inr (this))), some (.inl (a1)), some (.inr (.inr (a2))), some (.inl (v3)), some (.inl (v4))]) (And.intro rfl (And.intro rfl (And.intro rfl (And.intro rfl (And.intro rfl trivial))))) ?_
    exact tX3_isSo_141 hd (hk10) mthis ma2  hf
  · have hf := pv_gp hf q24
    refine EV.iload_n dX3_isSo_113 rfl rfl ?_
    refine EV.iconst dX3_isSo_114 (by decide) (by decide) ?_
    refine EV.icmp_lt (tgt := 141) dX3_isSo_115 (by decide) (fun q25 => ?_) (fun q25 => ?_)
    · have hf := pv_gp hf q25
      refine EV.weak (L2 := [some (.inr (.inr (this))), some (.inl (a1)), some (.inr (.inr (a2))), some (.inl (v3)), some (.inl (v4))]) (And.intro rfl (And.intro rfl (And.intro rfl (And.intro rfl (And.intro rfl trivial))))) ?_
      exact tX3_isSo_141 hd (hk10) mthis ma2  hf
    · have hf := pv_gn hf q25
      obtain ⟨x26, ex26, hf⟩ := pv_bo hf
      refine FV.inc (L2 := [some (.inr (.inr (this))), some (.inl (a1)), some (.inr (.inr (a2))), some (.inl (x26)), some (.inl (v4))]) dX3_isSo_118 rfl (Nat.le_of_ble_eq_true rfl) ex26 rfl ?_
      refine EV.aload_n dX3_isSo_121 rfl rfl ?_
      refine FV.getF (v := this + 4) dX3_isSo_122 (sl3_0 _ mthis) fl_3_21 rfl (mu3_0 _ mthis _) (hl3_0_4 _ mthis) ?_
      refine EV.iload_n dX3_isSo_125 rfl rfl ?_
      refine EV.iconst dX3_isSo_126 (by decide) (by decide) ?_
      refine EV.isub dX3_isSo_127 ?_
      refine EV.dup2 dX3_isSo_128 rfl rfl ?_
      obtain ⟨g27, hf⟩ := pv_gd hf
      refine FV.iald dX3_isSo_129 (sl3_4 _ mthis) g27.1 g27.2 (j := (Int.toNat (pv_w (x26 - 1)))) rfl ?_
      refine EV.aload_n dX3_isSo_130 rfl rfl ?_
      refine FV.getF (v := this + 4) dX3_isSo_131 (sl3_0 _ mthis) fl_3_21 rfl (mu3_0 _ mthis _) (hl3_0_4 _ mthis) ?_
      refine EV.iload_n dX3_isSo_134 rfl rfl ?_
      obtain ⟨g28, hf⟩ := pv_gd hf
      refine FV.iald dX3_isSo_135 (sl3_4 _ mthis) g28.1 g28.2 (j := (Int.toNat (x26))) rfl ?_
      refine EV.ior dX3_isSo_136 ?_
      obtain ⟨g29, hf⟩ := pv_gd hf
      obtain ⟨h30, eh30, hf⟩ := pv_bo hf
      refine FV.iast dX3_isSo_137 (sl3_4 _ mthis) g29.1 g29.2 (j := (Int.toNat (pv_w (x26 - 1)))) rfl eh30 ?_
      refine EV.goto (tgt := 176) dX3_isSo_138 (by decide) ?_
      refine EV.weak (L2 := [some (.inr (.inr (this))), some (.inl (a1)), some (.inr (.inr (a2))), some (.inl (x26)), some (.inl (v4))]) (And.intro rfl (And.intro rfl (And.intro rfl (And.intro rfl (And.intro rfl trivial))))) ?_
      exact tX3_isSo_176 hd (hk10) mthis ma2  hf

set_option maxHeartbeats 4000000 in
set_option maxRecDepth 20000 in
theorem tX3_isSo_61 {d N : Nat} {k10 : Int → Int → pv_H → Option (pv_H × Int)} {this : Nat} {a1 : Int} {a2 : Nat} {v3 : Int} {v4 : Int} {h h' : pv_H} {r : Int} (hd : 4 ≤ d) (hk10 : ∀ (v3 : Int) (v4 : Int)  (hh : pv_H), k10 v3 v4 hh = some (h', r) → EV RX3 cX3_isSo 5 (some .boolean) false d pv_SC (MC h') (some (.inl r)) 10 [some (.inr (.inr (this))), some (.inl (a1)), some (.inr (.inr (a2))), some (.inl (v3)), some (.inl (v4))] [] pv_SC (MC hh)) (mthis : this ∈ pv_l3) (ma2 : a2 ∈ pv_l7)  (hf : fX3_isSo_61 N k10 this a1 a2 v3 v4 h = some (h', r)) : EV RX3 cX3_isSo 5 (some .boolean) false d pv_SC (MC h') (some (.inl r)) 61 [some (.inr (.inr (this))), some (.inl (a1)), some (.inr (.inr (a2))), some (.inl (v3)), some (.inl (v4))] [] pv_SC (MC h) := by
  unfold fX3_isSo_61 at hf
  refine EV.aload_n dX3_isSo_61 rfl rfl ?_
  refine FV.getF (v := this + 2) dX3_isSo_62 (sl3_0 _ mthis) fl_3_15 rfl (mu3_0 _ mthis _) (hl3_0_2 _ mthis) ?_
  refine EV.iload dX3_isSo_65 rfl ?_
  obtain ⟨g14, hf⟩ := pv_gd hf
  refine FV.iald dX3_isSo_67 (sl3_2 _ mthis) g14.1 g14.2 (j := (Int.toNat (v4))) rfl ?_
  refine EV.bipush dX3_isSo_68 (by decide) (by decide) ?_
  refine EV.icmp_ne (tgt := 101) dX3_isSo_70 (by decide) (fun q15 => ?_) (fun q15 => ?_)
  · have hf := pv_gn hf q15
    refine EV.weak (L2 := [some (.inr (.inr (this))), some (.inl (a1)), some (.inr (.inr (a2))), some (.inl (v3)), some (.inl (v4))]) (And.intro rfl (And.intro rfl (And.intro rfl (And.intro rfl (And.intro rfl trivial))))) ?_
    exact tX3_isSo_101 hd (hk10) mthis ma2  hf
  · have hf := pv_gp hf q15
    refine EV.iload_n dX3_isSo_73 rfl rfl ?_
    refine EV.iconst dX3_isSo_74 (by decide) (by decide) ?_
    refine EV.icmp_lt (tgt := 101) dX3_isSo_75 (by decide) (fun q16 => ?_) (fun q16 => ?_)
    · have hf := pv_gp hf q16
      refine EV.weak (L2 := [some (.inr (.inr (this))), some (.inl (a1)), some (.inr (.inr (a2))), some (.inl (v3)), some (.inl (v4))]) (And.intro rfl (And.intro rfl (And.intro rfl (And.intro rfl (And.intro rfl trivial))))) ?_
      exact tX3_isSo_101 hd (hk10) mthis ma2  hf
    · have hf := pv_gn hf q16
      obtain ⟨x17, ex17, hf⟩ := pv_bo hf
      refine FV.inc (L2 := [some (.inr (.inr (this))), some (.inl (a1)), some (.inr (.inr (a2))), some (.inl (x17)), some (.inl (v4))]) dX3_isSo_78 rfl (Nat.le_of_ble_eq_true rfl) ex17 rfl ?_
      refine EV.aload_n dX3_isSo_81 rfl rfl ?_
      refine FV.getF (v := this + 4) dX3_isSo_82 (sl3_0 _ mthis) fl_3_21 rfl (mu3_0 _ mthis _) (hl3_0_4 _ mthis) ?_
      refine EV.iload_n dX3_isSo_85 rfl rfl ?_
      refine EV.iconst dX3_isSo_86 (by decide) (by decide) ?_
      refine EV.isub dX3_isSo_87 ?_
      refine EV.dup2 dX3_isSo_88 rfl rfl ?_
      obtain ⟨g18, hf⟩ := pv_gd hf
      refine FV.iald dX3_isSo_89 (sl3_4 _ mthis) g18.1 g18.2 (j := (Int.toNat (pv_w (x17 - 1)))) rfl ?_
      refine EV.aload_n dX3_isSo_90 rfl rfl ?_
      refine FV.getF (v := this + 4) dX3_isSo_91 (sl3_0 _ mthis) fl_3_21 rfl (mu3_0 _ mthis _) (hl3_0_4 _ mthis) ?_
      refine EV.iload_n dX3_isSo_94 rfl rfl ?_
      obtain ⟨g19, hf⟩ := pv_gd hf
      refine FV.iald dX3_isSo_95 (sl3_4 _ mthis) g19.1 g19.2 (j := (Int.toNat (x17))) rfl ?_
      refine EV.iand dX3_isSo_96 ?_
      obtain ⟨g20, hf⟩ := pv_gd hf
      obtain ⟨h21, eh21, hf⟩ := pv_bo hf
      refine FV.iast dX3_isSo_97 (sl3_4 _ mthis) g20.1 g20.2 (j := (Int.toNat (pv_w (x17 - 1)))) rfl eh21 ?_
      refine EV.goto (tgt := 176) dX3_isSo_98 (by decide) ?_
      refine EV.weak (L2 := [some (.inr (.inr (this))), some (.inl (a1)), some (.inr (.inr (a2))), some (.inl (x17)), some (.inl (v4))]) (And.intro rfl (And.intro rfl (And.intro rfl (And.intro rfl (And.intro rfl trivial))))) ?_
      exact tX3_isSo_176 hd (hk10) mthis ma2  hf

set_option maxHeartbeats 4000000 in
set_option maxRecDepth 20000 in
theorem tX3_isSo_10 {d N : Nat}  {this : Nat} {a1 : Int} {a2 : Nat} {h' : pv_H} {r : Int} (hd : 4 ≤ d)  (mthis : this ∈ pv_l3) (ma2 : a2 ∈ pv_l7) : ∀ (n : Nat) (v3 : Int) (v4 : Int)  (h : pv_H), fX3_isSo_10 N  this a1 a2 n v3 v4 h = some (h', r) → EV RX3 cX3_isSo 5 (some .boolean) false d pv_SC (MC h') (some (.inl r)) 10 [some (.inr (.inr (this))), some (.inl (a1)), some (.inr (.inr (a2))), some (.inl (v3)), some (.inl (v4))] [] pv_SC (MC h) := by
  intro n
  induction n with
  | zero =>
    intro v3 v4  h hf
    cases hf
  | succ n ih =>
    intro v3 v4  h hf
    rw [fX3_isSo_10] at hf
    refine EV.iload dX3_isSo_10 rfl ?_
    refine EV.aload_n dX3_isSo_12 rfl rfl ?_
    refine FV.getF (v := this + 1) dX3_isSo_13 (sl3_0 _ mthis) fl_3_9 rfl (mu3_0 _ mthis _) (hl3_0_1 _ mthis) ?_
    refine EV.iload_n dX3_isSo_16 rfl rfl ?_
    refine EV.iconst dX3_isSo_17 (by decide) (by decide) ?_
    refine EV.iadd dX3_isSo_18 ?_
    obtain ⟨g3, hf⟩ := pv_gd hf
    refine FV.iald dX3_isSo_19 (sl3_1 _ mthis) g3.1 g3.2 (j := (Int.toNat (pv_w (a1 + 1)))) rfl ?_
    refine EV.icmp_ge (tgt := 182) dX3_isSo_20 (by decide) (fun q4 => ?_) (fun q4 => ?_)
    · have hf := pv_gp hf q4
      refine EV.iload_n dX3_isSo_182 rfl rfl ?_
      refine EV.iconst dX3_isSo_183 (by decide) (by decide) ?_
      refine EV.icmp_lt (tgt := 201) dX3_isSo_184 (by decide) (fun q5 => ?_) (fun q5 => ?_)
      · have hf := pv_gp hf q5
        refine EV.weak (L2 := [none, none, none, none, none]) trivial ?_
        exact tX3_isSo_201 hd  mthis ma2  hf
      · have hf := pv_gn hf q5
        refine EV.aload_n dX3_isSo_187 rfl rfl ?_
        refine FV.getF (v := this + 4) dX3_isSo_188 (sl3_0 _ mthis) fl_3_21 rfl (mu3_0 _ mthis _) (hl3_0_4 _ mthis) ?_
        refine EV.iconst dX3_isSo_191 (by decide) (by decide) ?_
        refine FV.iald dX3_isSo_192 (sl3_4 _ mthis) (by decide) (by decide) (j := 0) rfl ?_
        refine EV.iconst dX3_isSo_193 (by decide) (by decide) ?_
        refine EV.icmp_ne (tgt := 201) dX3_isSo_194 (by decide) (fun q6 => ?_) (fun q6 => ?_)
        · have hf := pv_gn hf q6
          refine EV.weak (L2 := [none, none, none, none, none]) trivial ?_
          exact tX3_isSo_201 hd  mthis ma2  hf
        · have hf := pv_gp hf q6
          refine EV.iconst dX3_isSo_197 (by decide) (by decide) ?_
          refine EV.goto (tgt := 202) dX3_isSo_198 (by decide) ?_
          refine EV.weak (L2 := [none, none, none, none, none]) trivial ?_
          exact tX3_isSo_202 hd  mthis ma2  hf
    · have hf := pv_gn hf q4
      refine EV.aload_n dX3_isSo_23 rfl rfl ?_
      refine FV.getF (v := this + 2) dX3_isSo_24 (sl3_0 _ mthis) fl_3_15 rfl (mu3_0 _ mthis _) (hl3_0_2 _ mthis) ?_
      refine EV.iload dX3_isSo_27 rfl ?_
      obtain ⟨g7, hf⟩ := pv_gd hf
      refine FV.iald dX3_isSo_29 (sl3_2 _ mthis) g7.1 g7.2 (j := (Int.toNat (v4))) rfl ?_
      refine EV.bipush dX3_isSo_30 (by decide) (by decide) ?_
      refine EV.icmp_ne (tgt := 61) dX3_isSo_32 (by decide) (fun q8 => ?_) (fun q8 => ?_)
      · have hf := pv_gn hf q8
        refine EV.weak (L2 := [some (.inr (.inr (this))), some (.inl (a1)), some (.inr (.inr (a2))), some (.inl (v3)), some (.inl (v4))]) (And.intro rfl (And.intro rfl (And.intro rfl (And.intro rfl (And.intro rfl trivial))))) ?_
        exact tX3_isSo_61 hd (ih) mthis ma2  hf
      · have hf := pv_gp hf q8
        refine EV.iload_n dX3_isSo_35 rfl rfl ?_
        refine EV.iconst dX3_isSo_36 (by decide) (by decide) ?_
        refine EV.icmp_lt (tgt := 61) dX3_isSo_37 (by decide) (fun q9 => ?_) (fun q9 => ?_)
        · have hf := pv_gp hf q9
          refine EV.weak (L2 := [some (.inr (.inr (this))), some (.inl (a1)), some (.inr (.inr (a2))), some (.inl (v3)), some (.inl (v4))]) (And.intro rfl (And.intro rfl (And.intro rfl (And.intro rfl (And.intro rfl trivial))))) ?_
          exact tX3_isSo_61 hd (ih) mthis ma2  hf
        · have hf := pv_gn hf q9
          refine EV.aload_n dX3_isSo_40 rfl rfl ?_
          refine FV.getF (v := this + 4) dX3_isSo_41 (sl3_0 _ mthis) fl_3_21 rfl (mu3_0 _ mthis _) (hl3_0_4 _ mthis) ?_
          refine EV.iload_n dX3_isSo_44 rfl rfl ?_
          refine EV.iconst dX3_isSo_45 (by decide) (by decide) ?_
          refine EV.isub dX3_isSo_46 ?_
          refine EV.iconst dX3_isSo_47 (by decide) (by decide) ?_
          refine EV.aload_n dX3_isSo_48 rfl rfl ?_
          refine FV.getF (v := this + 4) dX3_isSo_49 (sl3_0 _ mthis) fl_3_21 rfl (mu3_0 _ mthis _) (hl3_0_4 _ mthis) ?_
          refine EV.iload_n dX3_isSo_52 rfl rfl ?_
          refine EV.iconst dX3_isSo_53 (by decide) (by decide) ?_
          refine EV.isub dX3_isSo_54 ?_
          obtain ⟨g10, hf⟩ := pv_gd hf
          refine FV.iald dX3_isSo_55 (sl3_4 _ mthis) g10.1 g10.2 (j := (Int.toNat (pv_w (v3 - 1)))) rfl ?_
          refine EV.isub dX3_isSo_56 ?_
          obtain ⟨g11, hf⟩ := pv_gd hf
          obtain ⟨h12, eh12, hf⟩ := pv_bo hf
          refine FV.iast dX3_isSo_57 (sl3_4 _ mthis) g11.1 g11.2 (j := (Int.toNat (pv_w (v3 - 1)))) rfl eh12 ?_
          refine EV.goto (tgt := 176) dX3_isSo_58 (by decide) ?_
          refine EV.weak (L2 := [some (.inr (.inr (this))), some (.inl (a1)), some (.inr (.inr (a2))), some (.inl (v3)), some (.inl (v4))]) (And.intro rfl (And.intro rfl (And.intro rfl (And.intro rfl (And.intro rfl trivial))))) ?_
          exact tX3_isSo_176 hd (ih) mthis ma2  hf

set_option maxHeartbeats 4000000 in
set_option maxRecDepth 20000 in
theorem tX3_isSo {d N : Nat} {this : Nat} {a1 : Int} {a2 : Nat} {h h' : pv_H} {r : Int} (hd : 4 ≤ d) (mthis : this ∈ pv_l3) (ma2 : a2 ∈ pv_l7) (hf : fX3_isSo N this a1 a2 h = some (h', r)) : CALL yX3_isSo cX3_isSo 5 (some .boolean) d pv_SC (MC h) [.inr (.inr (this)), .inl (a1), .inr (.inr (a2))] pv_SC (MC h') (some (.inl r)) := by
  unfold fX3_isSo at hf
  refine EV.call (own := RX3) (ini := false) rfl rfl (fun q => by cases q) ⟨[], (List.append_nil _).symm⟩ (Nat.le_of_ble_eq_true rfl) ?_
  refine EV.eqL (L2 := [some (.inr (.inr (this))), some (.inl (a1)), some (.inr (.inr (a2))), none, none]) rfl ?_
  refine EV.iconst dX3_isSo_0 (by decide) (by decide) ?_
  refine FV.sti (L2 := [some (.inr (.inr (this))), some (.inl (a1)), some (.inr (.inr (a2))), some (.inl (0)), none]) dX3_isSo_1 rfl (Nat.le_of_ble_eq_true rfl) rfl rfl ?_
  refine EV.aload_n dX3_isSo_2 rfl rfl ?_
  refine FV.getF (v := this + 1) dX3_isSo_3 (sl3_0 _ mthis) fl_3_9 rfl (mu3_0 _ mthis _) (hl3_0_1 _ mthis) ?_
  refine EV.iload_n dX3_isSo_6 rfl rfl ?_
  obtain ⟨g1, hf⟩ := pv_gd hf
  refine FV.iald dX3_isSo_7 (sl3_1 _ mthis) g1.1 g1.2 (j := (Int.toNat (a1))) rfl ?_
  obtain ⟨x2, ex2, hf⟩ := pv_bo hf
  refine FV.stiw (L2 := [some (.inr (.inr (this))), some (.inl (a1)), some (.inr (.inr (a2))), some (.inl (0)), some (.inl (x2))]) dX3_isSo_8 (Nat.le_of_ble_eq_true rfl) ex2 rfl ?_
  refine EV.weak (L2 := [some (.inr (.inr (this))), some (.inl (a1)), some (.inr (.inr (a2))), some (.inl (0)), some (.inl (x2))]) (And.intro rfl (And.intro rfl (And.intro rfl (And.intro rfl (And.intro rfl trivial))))) ?_
  exact tX3_isSo_10 hd  mthis ma2 _ _ _  _ hf
