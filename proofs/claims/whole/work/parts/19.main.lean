noncomputable def fX8_copyFrom_38 (N : Nat)  (this : Nat) (a1 : Nat) : Nat → Int → pv_H → Option (pv_H)
  | 0, _, _ => none
  | n + 1, v2, h => if 4 ≤ v2 then (pv_c1 (fX2_copyFrom N (this + 3) (a1 + 3) h) fun h13 => pv_c1 (fX3_copyFrom N (this + 5) (a1 + 5) h13) fun h15 => pv_c1 (fX7_copyFrom N (this + 10) (a1 + 10) h15) fun h17 => some h17) else (if 0 ≤ v2 ∧ v2 < 4 then (pv_b (this + 39 + 4 * (Int.toNat (v2))) fun x19 => if 0 ≤ v2 ∧ v2 < 4 then (pv_b (a1 + 39 + 4 * (Int.toNat (v2))) fun x21 => pv_c1 (fX0_copyFrom N x19 x21 h) fun h23 => pv_b (pv_w (v2 + 1)) fun x24 => fX8_copyFrom_38 N  this a1 n (x24) h23) else none) else none)

noncomputable def fX8_copyFrom_10 (N : Nat)  (this : Nat) (a1 : Nat) : Nat → Int → pv_H → Option (pv_H)
  | 0, _, _ => none
  | n + 1, v2, h => if 4 ≤ v2 then (fX8_copyFrom_38 N  this a1 N (0) h) else (if 0 ≤ v2 ∧ v2 < 4 then (pv_b (this + 15 + 6 * (Int.toNat (v2))) fun x5 => if 0 ≤ v2 ∧ v2 < 4 then (pv_b (a1 + 15 + 6 * (Int.toNat (v2))) fun x7 => pv_c1 (fX5_copyFrom N x5 x7 h) fun h9 => pv_b (pv_w (v2 + 1)) fun x10 => fX8_copyFrom_10 N  this a1 n (x10) h9) else none) else none)

noncomputable def fX8_copyFrom (N : Nat) (this : Nat) (a1 : Nat) (h : pv_H) : Option (pv_H) :=
  if (h a1 1) = 0 ∨ (h a1 1) = 1 then (pv_b (pv_up h this 1 (h a1 1)) fun h2 => fX8_copyFrom_10 N  this a1 N (0) h2) else none

set_option maxHeartbeats 4000000 in
set_option maxRecDepth 20000 in
theorem tX8_copyFrom_38 {d N : Nat}  {this : Nat} {a1 : Nat} {h' : pv_H}  (hd : 3 ≤ d)  (mthis : this ∈ pv_l8) (ma1 : a1 ∈ pv_l8) : ∀ (n : Nat) (v2 : Int)  (h : pv_H), fX8_copyFrom_38 N  this a1 n v2 h = some h' → EV RX8 cX8_copyFrom 3 none false d pv_SC (MC h') none 38 [some (.inr (.inr (this))), some (.inr (.inr (a1))), some (.inl (v2))] [] pv_SC (MC h) := by
  intro n
  induction n with
  | zero =>
    intro v2  h hf
    cases hf
  | succ n ih =>
    intro v2  h hf
    rw [fX8_copyFrom_38] at hf
    refine EV.iload_n dX8_copyFrom_38 rfl rfl ?_
    refine EV.iconst dX8_copyFrom_39 (by decide) (by decide) ?_
    refine EV.icmp_ge (tgt := 64) dX8_copyFrom_40 (by decide) (fun q11 => ?_) (fun q11 => ?_)
    · have hf := pv_gp hf q11
      refine EV.aload_n dX8_copyFrom_64 rfl rfl ?_
      refine FV.getF (v := this + 3) dX8_copyFrom_65 (sl8_0 _ mthis) fl_8_26 rfl (mu8_0 _ mthis _) (hl8_0_4 _ mthis) ?_
      refine EV.aload_n dX8_copyFrom_68 rfl rfl ?_
      refine FV.getF (v := a1 + 3) dX8_copyFrom_69 (sl8_0 _ ma1) fl_8_26 rfl (mu8_0 _ ma1 _) (hl8_0_4 _ ma1) ?_
      obtain ⟨h13, hc12, hf⟩ := pv_c1o hf
      refine EV.invV (As := [.inr (.inr (a1 + 3))]) (st := []) (d1 := d - 1) (sh1 := pv_SC) (h1 := MC h13) (r1 := none) dX8_copyFrom_72 (sl8_3 _ mthis) (by decide) md_X2_copyFrom ml_X8_57 im_X2_copyFrom se_X2_copyFrom (tX2_copyFrom (by omega) ((mb8_3 _ mthis)) ((mb8_3 _ ma1)) hc12) (by omega) rfl rfl (Nat.le_of_ble_eq_true rfl) ⟨[], (List.append_nil _).symm⟩ ?_
      refine EV.aload_n dX8_copyFrom_75 rfl rfl ?_
      refine FV.getF (v := this + 5) dX8_copyFrom_76 (sl8_0 _ mthis) fl_8_33 rfl (mu8_0 _ mthis _) (hl8_0_5 _ mthis) ?_
      refine EV.aload_n dX8_copyFrom_79 rfl rfl ?_
      refine FV.getF (v := a1 + 5) dX8_copyFrom_80 (sl8_0 _ ma1) fl_8_33 rfl (mu8_0 _ ma1 _) (hl8_0_5 _ ma1) ?_
      obtain ⟨h15, hc14, hf⟩ := pv_c1o hf
      refine EV.invV (As := [.inr (.inr (a1 + 5))]) (st := []) (d1 := d - 1) (sh1 := pv_SC) (h1 := MC h15) (r1 := none) dX8_copyFrom_83 (sl8_5 _ mthis) (by decide) md_X3_copyFrom ml_X8_60 im_X3_copyFrom se_X3_copyFrom (tX3_copyFrom (by omega) ((mb8_5 _ mthis)) ((mb8_5 _ ma1)) hc14) (by omega) rfl rfl (Nat.le_of_ble_eq_true rfl) ⟨[], (List.append_nil _).symm⟩ ?_
      refine EV.aload_n dX8_copyFrom_86 rfl rfl ?_
      refine FV.getF (v := this + 10) dX8_copyFrom_87 (sl8_0 _ mthis) fl_8_40 rfl (mu8_0 _ mthis _) (hl8_0_6 _ mthis) ?_
      refine EV.aload_n dX8_copyFrom_90 rfl rfl ?_
      refine FV.getF (v := a1 + 10) dX8_copyFrom_91 (sl8_0 _ ma1) fl_8_40 rfl (mu8_0 _ ma1 _) (hl8_0_6 _ ma1) ?_
      obtain ⟨h17, hc16, hf⟩ := pv_c1o hf
      refine EV.invV (As := [.inr (.inr (a1 + 10))]) (st := []) (d1 := d - 1) (sh1 := pv_SC) (h1 := MC h17) (r1 := none) dX8_copyFrom_94 (sl8_10 _ mthis) (by decide) md_X7_copyFrom ml_X8_63 im_X7_copyFrom se_X7_copyFrom (tX7_copyFrom (by omega) ((mb8_10 _ mthis)) ((mb8_10 _ ma1)) hc16) (by omega) rfl rfl (Nat.le_of_ble_eq_true rfl) ⟨[], (List.append_nil _).symm⟩ ?_
      exact FV.vret dX8_copyFrom_97 hf
    · have hf := pv_gn hf q11
      refine EV.aload_n dX8_copyFrom_43 rfl rfl ?_
      refine FV.getF (v := this + 2) dX8_copyFrom_44 (sl8_0 _ mthis) fl_8_19 rfl (mu8_0 _ mthis _) (hl8_0_3 _ mthis) ?_
      refine EV.iload_n dX8_copyFrom_47 rfl rfl ?_
      obtain ⟨g18, hf⟩ := pv_gd hf
      obtain ⟨x19, ex19, hf⟩ := pv_bo hf
      have mx19 : x19 ∈ pv_l0 := ex19 ▸ ml8_2 _ mthis _ (by omega)
      refine FV.aald (a := 1) (v := x19) dX8_copyFrom_48 (sl8_2 _ mthis) (by decide) g18.1 g18.2 (j := (Int.toNat (v2))) rfl (mu8_2 _ mthis _) (by rw [hm8_2 _ mthis _ (by omega), ex19]) ?_
      refine EV.aload_n dX8_copyFrom_49 rfl rfl ?_
      refine FV.getF (v := a1 + 2) dX8_copyFrom_50 (sl8_0 _ ma1) fl_8_19 rfl (mu8_0 _ ma1 _) (hl8_0_3 _ ma1) ?_
      refine EV.iload_n dX8_copyFrom_53 rfl rfl ?_
      obtain ⟨g20, hf⟩ := pv_gd hf
      obtain ⟨x21, ex21, hf⟩ := pv_bo hf
      have mx21 : x21 ∈ pv_l0 := ex21 ▸ ml8_2 _ ma1 _ (by omega)
      refine FV.aald (a := 1) (v := x21) dX8_copyFrom_54 (sl8_2 _ ma1) (by decide) g20.1 g20.2 (j := (Int.toNat (v2))) rfl (mu8_2 _ ma1 _) (by rw [hm8_2 _ ma1 _ (by omega), ex21]) ?_
      obtain ⟨h23, hc22, hf⟩ := pv_c1o hf
      refine EV.invV (As := [.inr (.inr (x21))]) (st := []) (d1 := d - 1) (sh1 := pv_SC) (h1 := MC h23) (r1 := none) dX8_copyFrom_55 (sl0_0 _ mx19) (by decide) md_X0_copyFrom ml_X8_54 im_X0_copyFrom se_X0_copyFrom (tX0_copyFrom (by omega) (mx19) (mx21) hc22) (by omega) rfl rfl (Nat.le_of_ble_eq_true rfl) ⟨[], (List.append_nil _).symm⟩ ?_
      obtain ⟨x24, ex24, hf⟩ := pv_bo hf
      refine FV.inc (L2 := [some (.inr (.inr (this))), some (.inr (.inr (a1))), some (.inl (x24))]) dX8_copyFrom_58 rfl (Nat.le_of_ble_eq_true rfl) ex24 rfl ?_
      refine EV.goto (tgt := 38) dX8_copyFrom_61 (by decide) ?_
      refine EV.weak (L2 := [some (.inr (.inr (this))), some (.inr (.inr (a1))), some (.inl (x24))]) (And.intro rfl (And.intro rfl (And.intro rfl trivial))) ?_
      exact ih _  _ hf

set_option maxHeartbeats 4000000 in
set_option maxRecDepth 20000 in
theorem tX8_copyFrom_10 {d N : Nat}  {this : Nat} {a1 : Nat} {h' : pv_H}  (hd : 3 ≤ d)  (mthis : this ∈ pv_l8) (ma1 : a1 ∈ pv_l8) : ∀ (n : Nat) (v2 : Int)  (h : pv_H), fX8_copyFrom_10 N  this a1 n v2 h = some h' → EV RX8 cX8_copyFrom 3 none false d pv_SC (MC h') none 10 [some (.inr (.inr (this))), some (.inr (.inr (a1))), some (.inl (v2))] [] pv_SC (MC h) := by
  intro n
  induction n with
  | zero =>
    intro v2  h hf
    cases hf
  | succ n ih =>
    intro v2  h hf
    rw [fX8_copyFrom_10] at hf
    refine EV.iload_n dX8_copyFrom_10 rfl rfl ?_
    refine EV.iconst dX8_copyFrom_11 (by decide) (by decide) ?_
    refine EV.icmp_ge (tgt := 36) dX8_copyFrom_12 (by decide) (fun q3 => ?_) (fun q3 => ?_)
    · have hf := pv_gp hf q3
      refine EV.iconst dX8_copyFrom_36 (by decide) (by decide) ?_
      refine FV.sti (L2 := [some (.inr (.inr (this))), some (.inr (.inr (a1))), some (.inl (0))]) dX8_copyFrom_37 rfl (Nat.le_of_ble_eq_true rfl) rfl rfl ?_
      refine EV.weak (L2 := [some (.inr (.inr (this))), some (.inr (.inr (a1))), some (.inl (0))]) (And.intro rfl (And.intro rfl (And.intro rfl trivial))) ?_
      exact tX8_copyFrom_38 hd  mthis ma1 _ _  _ hf
    · have hf := pv_gn hf q3
      refine EV.aload_n dX8_copyFrom_15 rfl rfl ?_
      refine FV.getF (v := this + 1) dX8_copyFrom_16 (sl8_0 _ mthis) fl_8_11 rfl (mu8_0 _ mthis _) (hl8_0_2 _ mthis) ?_
      refine EV.iload_n dX8_copyFrom_19 rfl rfl ?_
      obtain ⟨g4, hf⟩ := pv_gd hf
      obtain ⟨x5, ex5, hf⟩ := pv_bo hf
      have mx5 : x5 ∈ pv_l5 := ex5 ▸ ml8_1 _ mthis _ (by omega)
      refine FV.aald (a := 0) (v := x5) dX8_copyFrom_20 (sl8_1 _ mthis) (by decide) g4.1 g4.2 (j := (Int.toNat (v2))) rfl (mu8_1 _ mthis _) (by rw [hm8_1 _ mthis _ (by omega), ex5]) ?_
      refine EV.aload_n dX8_copyFrom_21 rfl rfl ?_
      refine FV.getF (v := a1 + 1) dX8_copyFrom_22 (sl8_0 _ ma1) fl_8_11 rfl (mu8_0 _ ma1 _) (hl8_0_2 _ ma1) ?_
      refine EV.iload_n dX8_copyFrom_25 rfl rfl ?_
      obtain ⟨g6, hf⟩ := pv_gd hf
      obtain ⟨x7, ex7, hf⟩ := pv_bo hf
      have mx7 : x7 ∈ pv_l5 := ex7 ▸ ml8_1 _ ma1 _ (by omega)
      refine FV.aald (a := 0) (v := x7) dX8_copyFrom_26 (sl8_1 _ ma1) (by decide) g6.1 g6.2 (j := (Int.toNat (v2))) rfl (mu8_1 _ ma1 _) (by rw [hm8_1 _ ma1 _ (by omega), ex7]) ?_
      obtain ⟨h9, hc8, hf⟩ := pv_c1o hf
      refine EV.invV (As := [.inr (.inr (x7))]) (st := []) (d1 := d - 1) (sh1 := pv_SC) (h1 := MC h9) (r1 := none) dX8_copyFrom_27 (sl5_0 _ mx5) (by decide) md_X5_copyFrom ml_X8_50 im_X5_copyFrom se_X5_copyFrom (tX5_copyFrom (by omega) (mx5) (mx7) hc8) (by omega) rfl rfl (Nat.le_of_ble_eq_true rfl) ⟨[], (List.append_nil _).symm⟩ ?_
      obtain ⟨x10, ex10, hf⟩ := pv_bo hf
      refine FV.inc (L2 := [some (.inr (.inr (this))), some (.inr (.inr (a1))), some (.inl (x10))]) dX8_copyFrom_30 rfl (Nat.le_of_ble_eq_true rfl) ex10 rfl ?_
      refine EV.goto (tgt := 10) dX8_copyFrom_33 (by decide) ?_
      refine EV.weak (L2 := [some (.inr (.inr (this))), some (.inr (.inr (a1))), some (.inl (x10))]) (And.intro rfl (And.intro rfl (And.intro rfl trivial))) ?_
      exact ih _  _ hf

set_option maxHeartbeats 4000000 in
set_option maxRecDepth 20000 in
theorem tX8_copyFrom {d N : Nat} {this : Nat} {a1 : Nat} {h h' : pv_H}  (hd : 3 ≤ d) (mthis : this ∈ pv_l8) (ma1 : a1 ∈ pv_l8) (hf : fX8_copyFrom N this a1 h = some h') : CALL yX8_copyFrom cX8_copyFrom 3 none d pv_SC (MC h) [.inr (.inr (this)), .inr (.inr (a1))] pv_SC (MC h') none := by
  unfold fX8_copyFrom at hf
  refine EV.call (own := RX8) (ini := false) rfl rfl (fun q => by cases q) ⟨[], (List.append_nil _).symm⟩ (Nat.le_of_ble_eq_true rfl) ?_
  refine EV.eqL (L2 := [some (.inr (.inr (this))), some (.inr (.inr (a1))), none]) rfl ?_
  refine EV.aload_n dX8_copyFrom_0 rfl rfl ?_
  refine EV.aload_n dX8_copyFrom_1 rfl rfl ?_
  refine FV.getI dX8_copyFrom_2 (sl8_0 _ ma1) fl_8_46 rfl ?_
  obtain ⟨g1, hf⟩ := pv_gd hf
  obtain ⟨h2, eh2, hf⟩ := pv_bo hf
  refine FV.putZ dX8_copyFrom_5 (sl8_0 _ mthis) fl_8_46 rfl rfl g1 eh2 ?_
  refine EV.iconst dX8_copyFrom_8 (by decide) (by decide) ?_
  refine FV.sti (L2 := [some (.inr (.inr (this))), some (.inr (.inr (a1))), some (.inl (0))]) dX8_copyFrom_9 rfl (Nat.le_of_ble_eq_true rfl) rfl rfl ?_
  refine EV.weak (L2 := [some (.inr (.inr (this))), some (.inr (.inr (a1))), some (.inl (0))]) (And.intro rfl (And.intro rfl (And.intro rfl trivial))) ?_
  exact tX8_copyFrom_10 hd  mthis ma1 _ _  _ hf

noncomputable def fX8_rodsThere_24 (N : Nat) (k4 : Int → Int → pv_H → Option (Int)) (this : Nat) (v1 : Int) (v2 : Int) (h : pv_H) : Option (Int) :=
  pv_b (pv_w (v2 + 1)) fun x6 => k4 (v1) (x6) h

noncomputable def fX8_rodsThere_4 (N : Nat)  (this : Nat) : Nat → Int → Int → pv_H → Option (Int)
  | 0, _, _, _ => none
  | n + 1, v1, v2, h => if 4 ≤ v2 then (some (v1)) else (if 0 ≤ v2 ∧ v2 < 4 then (pv_b (this + 15 + 6 * (Int.toNat (v2))) fun x3 => if (h x3 0) ≤ 0 then (fX8_rodsThere_24 N (fun v1_ v2_ hh => fX8_rodsThere_4 N  this n v1_ v2_ hh) this (v1) (v2) h) else (pv_b (pv_w (v1 + 1)) fun x5 => fX8_rodsThere_24 N (fun v1_ v2_ hh => fX8_rodsThere_4 N  this n v1_ v2_ hh) this (x5) (v2) h)) else none)

noncomputable def fX8_rodsThere (N : Nat) (this : Nat) (h : pv_H) : Option (Int) :=
  fX8_rodsThere_4 N  this N (0) (0) h

set_option maxHeartbeats 4000000 in
set_option maxRecDepth 20000 in
theorem tX8_rodsThere_24 {d N : Nat} {k4 : Int → Int → pv_H → Option (Int)} {this : Nat} {v1 : Int} {v2 : Int} {h : pv_H} {r : Int} (hd : 1 ≤ d) (hk4 : ∀ (v1 : Int) (v2 : Int) , k4 v1 v2 h = some r → EV RX8 cX8_rodsThere 3 (some .int) false d pv_SC (MC h) (some (.inl r)) 4 [some (.inr (.inr (this))), some (.inl (v1)), some (.inl (v2))] [] pv_SC (MC h)) (mthis : this ∈ pv_l8)  (hf : fX8_rodsThere_24 N k4 this v1 v2 h = some r) : EV RX8 cX8_rodsThere 3 (some .int) false d pv_SC (MC h) (some (.inl r)) 24 [some (.inr (.inr (this))), some (.inl (v1)), some (.inl (v2))] [] pv_SC (MC h) := by
  unfold fX8_rodsThere_24 at hf
  obtain ⟨x6, ex6, hf⟩ := pv_bo hf
  refine FV.inc (L2 := [some (.inr (.inr (this))), some (.inl (v1)), some (.inl (x6))]) dX8_rodsThere_24 rfl (Nat.le_of_ble_eq_true rfl) ex6 rfl ?_
  refine EV.goto (tgt := 4) dX8_rodsThere_27 (by decide) ?_
  refine EV.weak (L2 := [some (.inr (.inr (this))), some (.inl (v1)), some (.inl (x6))]) (And.intro rfl (And.intro rfl (And.intro rfl trivial))) ?_
  exact hk4 _ _   hf

set_option maxHeartbeats 4000000 in
set_option maxRecDepth 20000 in
theorem tX8_rodsThere_4 {d N : Nat}  {this : Nat} {h : pv_H} {r : Int} (hd : 1 ≤ d)  (mthis : this ∈ pv_l8) : ∀ (n : Nat) (v1 : Int) (v2 : Int) , fX8_rodsThere_4 N  this n v1 v2 h = some r → EV RX8 cX8_rodsThere 3 (some .int) false d pv_SC (MC h) (some (.inl r)) 4 [some (.inr (.inr (this))), some (.inl (v1)), some (.inl (v2))] [] pv_SC (MC h) := by
  intro n
  induction n with
  | zero =>
    intro v1 v2   hf
    cases hf
  | succ n ih =>
    intro v1 v2   hf
    rw [fX8_rodsThere_4] at hf
    refine EV.iload_n dX8_rodsThere_4 rfl rfl ?_
    refine EV.iconst dX8_rodsThere_5 (by decide) (by decide) ?_
    refine EV.icmp_ge (tgt := 30) dX8_rodsThere_6 (by decide) (fun q1 => ?_) (fun q1 => ?_)
    · have hf := pv_gp hf q1
      refine EV.iload_n dX8_rodsThere_30 rfl rfl ?_
      exact FV.iretp dX8_rodsThere_31 hf
    · have hf := pv_gn hf q1
      refine EV.aload_n dX8_rodsThere_9 rfl rfl ?_
      refine FV.getF (v := this + 1) dX8_rodsThere_10 (sl8_0 _ mthis) fl_8_11 rfl (mu8_0 _ mthis _) (hl8_0_2 _ mthis) ?_
      refine EV.iload_n dX8_rodsThere_13 rfl rfl ?_
      obtain ⟨g2, hf⟩ := pv_gd hf
      obtain ⟨x3, ex3, hf⟩ := pv_bo hf
      have mx3 : x3 ∈ pv_l5 := ex3 ▸ ml8_1 _ mthis _ (by omega)
      refine FV.aald (a := 0) (v := x3) dX8_rodsThere_14 (sl8_1 _ mthis) (by decide) g2.1 g2.2 (j := (Int.toNat (v2))) rfl (mu8_1 _ mthis _) (by rw [hm8_1 _ mthis _ (by omega), ex3]) ?_
      refine FV.getI dX8_rodsThere_15 (sl5_0 _ mx3) fl_8_66 rfl ?_
      refine EV.if_le (tgt := 24) dX8_rodsThere_18 (by decide) (fun q4 => ?_) (fun q4 => ?_)
      · have hf := pv_gp hf q4
        refine EV.weak (L2 := [some (.inr (.inr (this))), some (.inl (v1)), some (.inl (v2))]) (And.intro rfl (And.intro rfl (And.intro rfl trivial))) ?_
        exact tX8_rodsThere_24 hd (ih) mthis  hf
      · have hf := pv_gn hf q4
        obtain ⟨x5, ex5, hf⟩ := pv_bo hf
        refine FV.inc (L2 := [some (.inr (.inr (this))), some (.inl (x5)), some (.inl (v2))]) dX8_rodsThere_21 rfl (Nat.le_of_ble_eq_true rfl) ex5 rfl ?_
        refine EV.weak (L2 := [some (.inr (.inr (this))), some (.inl (x5)), some (.inl (v2))]) (And.intro rfl (And.intro rfl (And.intro rfl trivial))) ?_
        exact tX8_rodsThere_24 hd (ih) mthis  hf

set_option maxHeartbeats 4000000 in
set_option maxRecDepth 20000 in
theorem tX8_rodsThere {d N : Nat} {this : Nat} {h : pv_H} {r : Int} (hd : 1 ≤ d) (mthis : this ∈ pv_l8) (hf : fX8_rodsThere N this h = some r) : CALL yX8_rodsThere cX8_rodsThere 3 (some .int) d pv_SC (MC h) [.inr (.inr (this))] pv_SC (MC h) (some (.inl r)) := by
  unfold fX8_rodsThere at hf
  refine EV.call (own := RX8) (ini := false) rfl rfl (fun q => by cases q) ⟨[], (List.append_nil _).symm⟩ (Nat.le_of_ble_eq_true rfl) ?_
  refine EV.eqL (L2 := [some (.inr (.inr (this))), none, none]) rfl ?_
  refine EV.iconst dX8_rodsThere_0 (by decide) (by decide) ?_
  refine FV.sti (L2 := [some (.inr (.inr (this))), some (.inl (0)), none]) dX8_rodsThere_1 rfl (Nat.le_of_ble_eq_true rfl) rfl rfl ?_
  refine EV.iconst dX8_rodsThere_2 (by decide) (by decide) ?_
  refine FV.sti (L2 := [some (.inr (.inr (this))), some (.inl (0)), some (.inl (0))]) dX8_rodsThere_3 rfl (Nat.le_of_ble_eq_true rfl) rfl rfl ?_
  refine EV.weak (L2 := [some (.inr (.inr (this))), some (.inl (0)), some (.inl (0))]) (And.intro rfl (And.intro rfl (And.intro rfl trivial))) ?_
  exact tX8_rodsThere_4 hd  mthis _ _ _   hf

noncomputable def fX9_refuse (N : Nat) (a1 : Int) (h : pv_H) : Option (pv_H × Int) :=
  if 0 ≤ pv_w (-a1) ∧ pv_w (-a1) < 8 then (if 0 ≤ pv_w (-a1) ∧ pv_w (-a1) < 8 then (pv_b (pv_up h 77 (Int.toNat (pv_w (-a1))) (pv_w ((h 77 (Int.toNat (pv_w (-a1)))) + 1))) fun h3 => some (h3, a1)) else none) else none

set_option maxHeartbeats 4000000 in
set_option maxRecDepth 20000 in
theorem tX9_refuse {d N : Nat} {a1 : Int} {h h' : pv_H} {r : Int} (hd : 1 ≤ d)  (hf : fX9_refuse N a1 h = some (h', r)) : CALL yX9_refuse cX9_refuse 2 (some .int) d pv_SC (MC h) [.inr (.inr (0)), .inl (a1)] pv_SC (MC h') (some (.inl r)) := by
  unfold fX9_refuse at hf
  refine EV.call (own := RX9) (ini := false) rfl rfl (fun q => by cases q) ⟨[], (List.append_nil _).symm⟩ (Nat.le_of_ble_eq_true rfl) ?_
  refine EV.eqL (L2 := [some (.inr (.inr (0))), some (.inl (a1))]) rfl ?_
  refine EV.aload_n dX9_refuse_0 rfl rfl ?_
  refine FV.getF (v := 77) dX9_refuse_1 sc_0 fl_9_33 rfl rfl hvc_0_4 ?_
  refine EV.iload_n dX9_refuse_4 rfl rfl ?_
  refine EV.ineg dX9_refuse_5 ?_
  refine EV.dup2 dX9_refuse_6 rfl rfl ?_
  obtain ⟨g1, hf⟩ := pv_gd hf
  refine FV.iald dX9_refuse_7 sc_77 g1.1 g1.2 (j := (Int.toNat (pv_w (-a1)))) rfl ?_
  refine EV.iconst dX9_refuse_8 (by decide) (by decide) ?_
  refine EV.iadd dX9_refuse_9 ?_
  obtain ⟨g2, hf⟩ := pv_gd hf
  obtain ⟨h3, eh3, hf⟩ := pv_bo hf
  refine FV.iast dX9_refuse_10 sc_77 g2.1 g2.2 (j := (Int.toNat (pv_w (-a1)))) rfl eh3 ?_
  refine EV.iload_n dX9_refuse_11 rfl rfl ?_
  exact FV.iret dX9_refuse_12 hf

noncomputable def fX9_feed (N : Nat) (a1 : Int) (a2 : Int) (a3 : Int) (a4 : Int) (a5 : Int) (h : pv_H) : Option (pv_H × Int) :=
  if (pv_w ((h 1 0) + 20)) ≤ 400 then (pv_c1 (fX4_put N a1 h) fun h3 => pv_c1 (fX4_put N a2 h3) fun h5 => pv_c1 (fX4_put N a3 h5) fun h7 => pv_c1 (fX4_put N a4 h7) fun h9 => pv_c1 (fX4_put N a5 h9) fun h11 => some (h11, h11 1 0)) else (pv_c2b (fX9_refuse N (-5) h) fun h13 r14 => some (h13, r14))

set_option maxHeartbeats 4000000 in
set_option maxRecDepth 20000 in
theorem tX9_feed {d N : Nat} {a1 : Int} {a2 : Int} {a3 : Int} {a4 : Int} {a5 : Int} {h h' : pv_H} {r : Int} (hd : 2 ≤ d)  (hf : fX9_feed N a1 a2 a3 a4 a5 h = some (h', r)) : CALL yX9_feed cX9_feed 6 (some .int) d pv_SC (MC h) [.inr (.inr (0)), .inl (a1), .inl (a2), .inl (a3), .inl (a4), .inl (a5)] pv_SC (MC h') (some (.inl r)) := by
  unfold fX9_feed at hf
  refine EV.call (own := RX9) (ini := false) rfl rfl (fun q => by cases q) ⟨[], (List.append_nil _).symm⟩ (Nat.le_of_ble_eq_true rfl) ?_
  refine EV.eqL (L2 := [some (.inr (.inr (0))), some (.inl (a1)), some (.inl (a2)), some (.inl (a3)), some (.inl (a4)), some (.inl (a5))]) rfl ?_
  refine EV.aload_n dX9_feed_0 rfl rfl ?_
  refine FV.getF (v := 1) dX9_feed_1 sc_0 fl_9_10 rfl rfl hvc_0_0 ?_
  refine FV.getI dX9_feed_4 sc_1 fl_9_55 rfl ?_
  refine EV.bipush dX9_feed_7 (by decide) (by decide) ?_
  refine EV.iadd dX9_feed_9 ?_
  refine EV.sipush dX9_feed_10 (by decide) (by decide) ?_
  refine EV.icmp_le (tgt := 23) dX9_feed_13 (by decide) (fun q1 => ?_) (fun q1 => ?_)
  · have hf := pv_gp hf q1
    refine EV.aload_n dX9_feed_23 rfl rfl ?_
    refine FV.getF (v := 1) dX9_feed_24 sc_0 fl_9_10 rfl rfl hvc_0_0 ?_
    refine EV.iload_n dX9_feed_27 rfl rfl ?_
    obtain ⟨h3, hc2, hf⟩ := pv_c1o hf
    refine EV.invV (As := [.inl (a1)]) (st := []) (d1 := d - 1) (sh1 := pv_SC) (h1 := MC h3) (r1 := none) dX9_feed_28 sc_1 (by decide) md_X4_put ml_X9_63 im_X4_put se_X4_put (tX4_put (by omega)  hc2) (by omega) rfl rfl (Nat.le_of_ble_eq_true rfl) ⟨[], (List.append_nil _).symm⟩ ?_
    refine EV.aload_n dX9_feed_31 rfl rfl ?_
    refine FV.getF (v := 1) dX9_feed_32 sc_0 fl_9_10 rfl rfl hvc_0_0 ?_
    refine EV.iload_n dX9_feed_35 rfl rfl ?_
    obtain ⟨h5, hc4, hf⟩ := pv_c1o hf
    refine EV.invV (As := [.inl (a2)]) (st := []) (d1 := d - 1) (sh1 := pv_SC) (h1 := MC h5) (r1 := none) dX9_feed_36 sc_1 (by decide) md_X4_put ml_X9_63 im_X4_put se_X4_put (tX4_put (by omega)  hc4) (by omega) rfl rfl (Nat.le_of_ble_eq_true rfl) ⟨[], (List.append_nil _).symm⟩ ?_
    refine EV.aload_n dX9_feed_39 rfl rfl ?_
    refine FV.getF (v := 1) dX9_feed_40 sc_0 fl_9_10 rfl rfl hvc_0_0 ?_
    refine EV.iload_n dX9_feed_43 rfl rfl ?_
    obtain ⟨h7, hc6, hf⟩ := pv_c1o hf
    refine EV.invV (As := [.inl (a3)]) (st := []) (d1 := d - 1) (sh1 := pv_SC) (h1 := MC h7) (r1 := none) dX9_feed_44 sc_1 (by decide) md_X4_put ml_X9_63 im_X4_put se_X4_put (tX4_put (by omega)  hc6) (by omega) rfl rfl (Nat.le_of_ble_eq_true rfl) ⟨[], (List.append_nil _).symm⟩ ?_
    refine EV.aload_n dX9_feed_47 rfl rfl ?_
    refine FV.getF (v := 1) dX9_feed_48 sc_0 fl_9_10 rfl rfl hvc_0_0 ?_
    refine EV.iload dX9_feed_51 rfl ?_
    obtain ⟨h9, hc8, hf⟩ := pv_c1o hf
    refine EV.invV (As := [.inl (a4)]) (st := []) (d1 := d - 1) (sh1 := pv_SC) (h1 := MC h9) (r1 := none) dX9_feed_53 sc_1 (by decide) md_X4_put ml_X9_63 im_X4_put se_X4_put (tX4_put (by omega)  hc8) (by omega) rfl rfl (Nat.le_of_ble_eq_true rfl) ⟨[], (List.append_nil _).symm⟩ ?_
    refine EV.aload_n dX9_feed_56 rfl rfl ?_
    refine FV.getF (v := 1) dX9_feed_57 sc_0 fl_9_10 rfl rfl hvc_0_0 ?_
    refine EV.iload dX9_feed_60 rfl ?_
    obtain ⟨h11, hc10, hf⟩ := pv_c1o hf
    refine EV.invV (As := [.inl (a5)]) (st := []) (d1 := d - 1) (sh1 := pv_SC) (h1 := MC h11) (r1 := none) dX9_feed_62 sc_1 (by decide) md_X4_put ml_X9_63 im_X4_put se_X4_put (tX4_put (by omega)  hc10) (by omega) rfl rfl (Nat.le_of_ble_eq_true rfl) ⟨[], (List.append_nil _).symm⟩ ?_
    refine EV.aload_n dX9_feed_65 rfl rfl ?_
    refine FV.getF (v := 1) dX9_feed_66 sc_0 fl_9_10 rfl rfl hvc_0_0 ?_
    refine FV.getI dX9_feed_69 sc_1 fl_9_55 rfl ?_
    exact FV.iret dX9_feed_72 hf
  · have hf := pv_gn hf q1
    refine EV.aload_n dX9_feed_16 rfl rfl ?_
    refine EV.bipush dX9_feed_17 (by decide) (by decide) ?_
    obtain ⟨h13, r14, hc12, hf⟩ := pv_c2o hf
    refine EV.invV (As := [.inl (-5)]) (st := []) (d1 := d - 1) (sh1 := pv_SC) (h1 := MC h13) (r1 := (some (.inl r14))) dX9_feed_19 sc_0 (by decide) md_X9_refuse ml_X9_59 im_X9_refuse se_X9_refuse (tX9_refuse (by omega)  hc12) (by omega) rfl rfl (Nat.le_of_ble_eq_true rfl) ⟨[], (List.append_nil _).symm⟩ ?_
    refine EV.eqS (st2 := [.inl (r14)]) rfl ?_
    exact FV.iret dX9_feed_22 hf

noncomputable def fX9_isTextPlace_58 (N : Nat)  (a0 : Int) (a1 : Int) (s0 : Int) (h : pv_H) : Option (Int) :=
  if s0 = 0 ∨ s0 = 1 then (some (s0)) else none

noncomputable def fX9_isTextPlace_57 (N : Nat)  (a0 : Int) (a1 : Int)  (h : pv_H) : Option (Int) :=
  fX9_isTextPlace_58 N  a0 a1 (0) h

noncomputable def fX9_isTextPlace_49 (N : Nat)  (a0 : Int) (a1 : Int)  (h : pv_H) : Option (Int) :=
  if a1 = 0 then (fX9_isTextPlace_58 N  a0 a1 (1) h) else (fX9_isTextPlace_57 N  a0 a1  h)

noncomputable def fX9_isTextPlace_38 (N : Nat)  (a0 : Int) (a1 : Int) (s0 : Int) (h : pv_H) : Option (Int) :=
  if s0 = 0 ∨ s0 = 1 then (some (s0)) else none

noncomputable def fX9_isTextPlace_37 (N : Nat)  (a0 : Int) (a1 : Int)  (h : pv_H) : Option (Int) :=
  fX9_isTextPlace_38 N  a0 a1 (0) h

noncomputable def fX9_isTextPlace_18 (N : Nat)  (a0 : Int) (a1 : Int) (s0 : Int) (h : pv_H) : Option (Int) :=
  if s0 = 0 ∨ s0 = 1 then (some (s0)) else none

noncomputable def fX9_isTextPlace_17 (N : Nat)  (a0 : Int) (a1 : Int)  (h : pv_H) : Option (Int) :=
  fX9_isTextPlace_18 N  a0 a1 (0) h

noncomputable def fX9_isTextPlace (N : Nat) (a0 : Int) (a1 : Int) (h : pv_H) : Option (Int) :=
  if a0 = 0 then (if a1 < 0 then (fX9_isTextPlace_17 N  a0 a1  h) else (if 4 ≤ a1 then (fX9_isTextPlace_17 N  a0 a1  h) else (fX9_isTextPlace_18 N  a0 a1 (1) h))) else (if a0 = 1 then (if a1 < 0 then (fX9_isTextPlace_37 N  a0 a1  h) else (if 4 ≤ a1 then (fX9_isTextPlace_37 N  a0 a1  h) else (fX9_isTextPlace_38 N  a0 a1 (1) h))) else (if a0 = 2 then (fX9_isTextPlace_49 N  a0 a1  h) else (if a0 = 3 then (fX9_isTextPlace_49 N  a0 a1  h) else (fX9_isTextPlace_57 N  a0 a1  h))))

set_option maxHeartbeats 4000000 in
set_option maxRecDepth 20000 in
theorem tX9_isTextPlace_58 {d N : Nat}  {a0 : Int} {a1 : Int} {s0 : Int} {h : pv_H} {r : Int} (hd : 1 ≤ d)    (hf : fX9_isTextPlace_58 N  a0 a1 s0 h = some r) : EV RX9 cX9_isTextPlace 2 (some .boolean) false d pv_SC (MC h) (some (.inl r)) 58 [none, none] [.inl (s0)] pv_SC (MC h) := by
  unfold fX9_isTextPlace_58 at hf
  obtain ⟨g12, hf⟩ := pv_gd hf
  exact FV.zretp dX9_isTextPlace_58 g12 hf

set_option maxHeartbeats 4000000 in
set_option maxRecDepth 20000 in
theorem tX9_isTextPlace_57 {d N : Nat}  {a0 : Int} {a1 : Int}  {h : pv_H} {r : Int} (hd : 1 ≤ d)    (hf : fX9_isTextPlace_57 N  a0 a1  h = some r) : EV RX9 cX9_isTextPlace 2 (some .boolean) false d pv_SC (MC h) (some (.inl r)) 57 [none, none] [] pv_SC (MC h) := by
  unfold fX9_isTextPlace_57 at hf
  refine EV.iconst dX9_isTextPlace_57 (by decide) (by decide) ?_
  refine EV.weak (L2 := [none, none]) trivial ?_
  exact tX9_isTextPlace_58 hd    hf

set_option maxHeartbeats 4000000 in
set_option maxRecDepth 20000 in
theorem tX9_isTextPlace_49 {d N : Nat}  {a0 : Int} {a1 : Int}  {h : pv_H} {r : Int} (hd : 1 ≤ d)    (hf : fX9_isTextPlace_49 N  a0 a1  h = some r) : EV RX9 cX9_isTextPlace 2 (some .boolean) false d pv_SC (MC h) (some (.inl r)) 49 [none, some (.inl (a1))] [] pv_SC (MC h) := by
  unfold fX9_isTextPlace_49 at hf
  refine EV.iload_n dX9_isTextPlace_49 rfl rfl ?_
  refine EV.if_ne (tgt := 57) dX9_isTextPlace_50 (by decide) (fun q9 => ?_) (fun q9 => ?_)
  · have hf := pv_gn hf q9
    refine EV.weak (L2 := [none, none]) trivial ?_
    exact tX9_isTextPlace_57 hd    hf
  · have hf := pv_gp hf q9
    refine EV.iconst dX9_isTextPlace_53 (by decide) (by decide) ?_
    refine EV.goto (tgt := 58) dX9_isTextPlace_54 (by decide) ?_
    refine EV.weak (L2 := [none, none]) trivial ?_
    exact tX9_isTextPlace_58 hd    hf

set_option maxHeartbeats 4000000 in
set_option maxRecDepth 20000 in
theorem tX9_isTextPlace_38 {d N : Nat}  {a0 : Int} {a1 : Int} {s0 : Int} {h : pv_H} {r : Int} (hd : 1 ≤ d)    (hf : fX9_isTextPlace_38 N  a0 a1 s0 h = some r) : EV RX9 cX9_isTextPlace 2 (some .boolean) false d pv_SC (MC h) (some (.inl r)) 38 [none, none] [.inl (s0)] pv_SC (MC h) := by
  unfold fX9_isTextPlace_38 at hf
  obtain ⟨g10, hf⟩ := pv_gd hf
  exact FV.zretp dX9_isTextPlace_38 g10 hf

set_option maxHeartbeats 4000000 in
set_option maxRecDepth 20000 in
theorem tX9_isTextPlace_37 {d N : Nat}  {a0 : Int} {a1 : Int}  {h : pv_H} {r : Int} (hd : 1 ≤ d)    (hf : fX9_isTextPlace_37 N  a0 a1  h = some r) : EV RX9 cX9_isTextPlace 2 (some .boolean) false d pv_SC (MC h) (some (.inl r)) 37 [none, none] [] pv_SC (MC h) := by
  unfold fX9_isTextPlace_37 at hf
  refine EV.iconst dX9_isTextPlace_37 (by decide) (by decide) ?_
  refine EV.weak (L2 := [none, none]) trivial ?_
  exact tX9_isTextPlace_38 hd    hf

set_option maxHeartbeats 4000000 in
set_option maxRecDepth 20000 in
theorem tX9_isTextPlace_18 {d N : Nat}  {a0 : Int} {a1 : Int} {s0 : Int} {h : pv_H} {r : Int} (hd : 1 ≤ d)    (hf : fX9_isTextPlace_18 N  a0 a1 s0 h = some r) : EV RX9 cX9_isTextPlace 2 (some .boolean) false d pv_SC (MC h) (some (.inl r)) 18 [none, none] [.inl (s0)] pv_SC (MC h) := by
  unfold fX9_isTextPlace_18 at hf
  obtain ⟨g11, hf⟩ := pv_gd hf
  exact FV.zretp dX9_isTextPlace_18 g11 hf

set_option maxHeartbeats 4000000 in
set_option maxRecDepth 20000 in
theorem tX9_isTextPlace_17 {d N : Nat}  {a0 : Int} {a1 : Int}  {h : pv_H} {r : Int} (hd : 1 ≤ d)    (hf : fX9_isTextPlace_17 N  a0 a1  h = some r) : EV RX9 cX9_isTextPlace 2 (some .boolean) false d pv_SC (MC h) (some (.inl r)) 17 [none, none] [] pv_SC (MC h) := by
  unfold fX9_isTextPlace_17 at hf
  refine EV.iconst dX9_isTextPlace_17 (by decide) (by decide) ?_
  refine EV.weak (L2 := [none, none]) trivial ?_
  exact tX9_isTextPlace_18 hd    hf

set_option maxHeartbeats 4000000 in
set_option maxRecDepth 20000 in
theorem tX9_isTextPlace {d N : Nat} {a0 : Int} {a1 : Int} {h : pv_H} {r : Int} (hd : 1 ≤ d)  (hf : fX9_isTextPlace N a0 a1 h = some r) : CALL yX9_isTextPlace cX9_isTextPlace 2 (some .boolean) d pv_SC (MC h) [.inl (a0), .inl (a1)] pv_SC (MC h) (some (.inl r)) := by
  unfold fX9_isTextPlace at hf
  refine EV.call (own := RX9) (ini := false) rfl rfl (fun q => by cases q) ⟨[], (List.append_nil _).symm⟩ (Nat.le_of_ble_eq_true rfl) ?_
  refine EV.eqL (L2 := [some (.inl (a0)), some (.inl (a1))]) rfl ?_
  refine EV.iload_n dX9_isTextPlace_0 rfl rfl ?_
  refine EV.if_ne (tgt := 19) dX9_isTextPlace_1 (by decide) (fun q1 => ?_) (fun q1 => ?_)
  · have hf := pv_gn hf q1
    refine EV.iload_n dX9_isTextPlace_19 rfl rfl ?_
    refine EV.iconst dX9_isTextPlace_20 (by decide) (by decide) ?_
    refine EV.icmp_ne (tgt := 39) dX9_isTextPlace_21 (by decide) (fun q2 => ?_) (fun q2 => ?_)
    · have hf := pv_gn hf q2
      refine EV.iload_n dX9_isTextPlace_39 rfl rfl ?_
      refine EV.iconst dX9_isTextPlace_40 (by decide) (by decide) ?_
      refine EV.icmp_eq (tgt := 49) dX9_isTextPlace_41 (by decide) (fun q3 => ?_) (fun q3 => ?_)
      · have hf := pv_gp hf q3
        refine EV.weak (L2 := [none, some (.inl (a1))]) (And.intro rfl trivial) ?_
        exact tX9_isTextPlace_49 hd    hf
      · have hf := pv_gn hf q3
        refine EV.iload_n dX9_isTextPlace_44 rfl rfl ?_
        refine EV.iconst dX9_isTextPlace_45 (by decide) (by decide) ?_
        refine EV.icmp_ne (tgt := 57) dX9_isTextPlace_46 (by decide) (fun q4 => ?_) (fun q4 => ?_)
        · have hf := pv_gn hf q4
          refine EV.weak (L2 := [none, none]) trivial ?_
          exact tX9_isTextPlace_57 hd    hf
        · have hf := pv_gp hf q4
          refine EV.weak (L2 := [none, some (.inl (a1))]) (And.intro rfl trivial) ?_
          exact tX9_isTextPlace_49 hd    hf
    · have hf := pv_gp hf q2
      refine EV.iload_n dX9_isTextPlace_24 rfl rfl ?_
      refine EV.if_lt (tgt := 37) dX9_isTextPlace_25 (by decide) (fun q5 => ?_) (fun q5 => ?_)
      · have hf := pv_gp hf q5
        refine EV.weak (L2 := [none, none]) trivial ?_
        exact tX9_isTextPlace_37 hd    hf
      · have hf := pv_gn hf q5
        refine EV.iload_n dX9_isTextPlace_28 rfl rfl ?_
        refine EV.iconst dX9_isTextPlace_29 (by decide) (by decide) ?_
        refine EV.icmp_ge (tgt := 37) dX9_isTextPlace_30 (by decide) (fun q6 => ?_) (fun q6 => ?_)
        · have hf := pv_gp hf q6
          refine EV.weak (L2 := [none, none]) trivial ?_
          exact tX9_isTextPlace_37 hd    hf
        · have hf := pv_gn hf q6
          refine EV.iconst dX9_isTextPlace_33 (by decide) (by decide) ?_
          refine EV.goto (tgt := 38) dX9_isTextPlace_34 (by decide) ?_
          refine EV.weak (L2 := [none, none]) trivial ?_
          exact tX9_isTextPlace_38 hd    hf
  · have hf := pv_gp hf q1
    refine EV.iload_n dX9_isTextPlace_4 rfl rfl ?_
    refine EV.if_lt (tgt := 17) dX9_isTextPlace_5 (by decide) (fun q7 => ?_) (fun q7 => ?_)
    · have hf := pv_gp hf q7
      refine EV.weak (L2 := [none, none]) trivial ?_
      exact tX9_isTextPlace_17 hd    hf
    · have hf := pv_gn hf q7
      refine EV.iload_n dX9_isTextPlace_8 rfl rfl ?_
      refine EV.iconst dX9_isTextPlace_9 (by decide) (by decide) ?_
      refine EV.icmp_ge (tgt := 17) dX9_isTextPlace_10 (by decide) (fun q8 => ?_) (fun q8 => ?_)
      · have hf := pv_gp hf q8
        refine EV.weak (L2 := [none, none]) trivial ?_
        exact tX9_isTextPlace_17 hd    hf
      · have hf := pv_gn hf q8
        refine EV.iconst dX9_isTextPlace_13 (by decide) (by decide) ?_
        refine EV.goto (tgt := 18) dX9_isTextPlace_14 (by decide) ?_
        refine EV.weak (L2 := [none, none]) trivial ?_
        exact tX9_isTextPlace_18 hd    hf

noncomputable def fX9_adoptText_95 (N : Nat)  (a1 : Int) (a2 : Int)  (h : pv_H) : Option (pv_H) :=
  some h

noncomputable def fX9_adoptText (N : Nat) (a1 : Int) (a2 : Int) (h : pv_H) : Option (pv_H) :=
  if a1 = 0 then (if 0 ≤ a2 ∧ a2 < 4 then (pv_b (35 + 6 * (Int.toNat (a2))) fun x13 => pv_c1 (fX5_copyFrom N x13 2 h) fun h15 => fX9_adoptText_95 N  a1 a2  h15) else none) else (if a1 = 1 then (if 0 ≤ a2 ∧ a2 < 4 then (pv_b (59 + 4 * (Int.toNat (a2))) fun x9 => pv_c1 (fX0_copyFrom N x9 8 h) fun h11 => fX9_adoptText_95 N  a1 a2  h11) else none) else (if a1 = 2 then (pv_c1 (fX2_copyFrom N 23 12 h) fun h7 => fX9_adoptText_95 N  a1 a2  h7) else (pv_c1 (fX3_copyFrom N 25 14 h) fun h5 => fX9_adoptText_95 N  a1 a2  h5)))

set_option maxHeartbeats 4000000 in
set_option maxRecDepth 20000 in
theorem tX9_adoptText_95 {d N : Nat}  {a1 : Int} {a2 : Int}  {h h' : pv_H}  (hd : 3 ≤ d)    (hf : fX9_adoptText_95 N  a1 a2  h = some h') : EV RX9 cX9_adoptText 3 none false d pv_SC (MC h') none 95 [none, none, none] [] pv_SC (MC h) := by
  unfold fX9_adoptText_95 at hf
  exact FV.vret dX9_adoptText_95 hf

set_option maxHeartbeats 4000000 in
set_option maxRecDepth 20000 in
theorem tX9_adoptText {d N : Nat} {a1 : Int} {a2 : Int} {h h' : pv_H}  (hd : 3 ≤ d)  (hf : fX9_adoptText N a1 a2 h = some h') : CALL yX9_adoptText cX9_adoptText 3 none d pv_SC (MC h) [.inr (.inr (0)), .inl (a1), .inl (a2)] pv_SC (MC h') none := by
  unfold fX9_adoptText at hf
  refine EV.call (own := RX9) (ini := false) rfl rfl (fun q => by cases q) ⟨[], (List.append_nil _).symm⟩ (Nat.le_of_ble_eq_true rfl) ?_
  refine EV.eqL (L2 := [some (.inr (.inr (0))), some (.inl (a1)), some (.inl (a2))]) rfl ?_
  refine EV.iload_n dX9_adoptText_0 rfl rfl ?_
  refine EV.if_ne (tgt := 26) dX9_adoptText_1 (by decide) (fun q1 => ?_) (fun q1 => ?_)
  · have hf := pv_gn hf q1
    refine EV.iload_n dX9_adoptText_26 rfl rfl ?_
    refine EV.iconst dX9_adoptText_27 (by decide) (by decide) ?_
    refine EV.icmp_ne (tgt := 53) dX9_adoptText_28 (by decide) (fun q2 => ?_) (fun q2 => ?_)
    · have hf := pv_gn hf q2
      refine EV.iload_n dX9_adoptText_53 rfl rfl ?_
      refine EV.iconst dX9_adoptText_54 (by decide) (by decide) ?_
      refine EV.icmp_ne (tgt := 78) dX9_adoptText_55 (by decide) (fun q3 => ?_) (fun q3 => ?_)
      · have hf := pv_gn hf q3
        refine EV.aload_n dX9_adoptText_78 rfl rfl ?_
        refine FV.getF (v := 20) dX9_adoptText_79 sc_0 fl_9_19 rfl rfl hvc_0_1 ?_
        refine FV.getF (v := 25) dX9_adoptText_82 sc_20 fl_9_127 rfl rfl hvc_20_5 ?_
        refine EV.aload_n dX9_adoptText_85 rfl rfl ?_
        refine FV.getF (v := 1) dX9_adoptText_86 sc_0 fl_9_10 rfl rfl hvc_0_0 ?_
        refine FV.getF (v := 14) dX9_adoptText_89 sc_1 fl_9_131 rfl rfl hvc_1_6 ?_
        obtain ⟨h5, hc4, hf⟩ := pv_c1o hf
        refine EV.invV (As := [.inr (.inr (14))]) (st := []) (d1 := d - 1) (sh1 := pv_SC) (h1 := MC h5) (r1 := none) dX9_adoptText_92 sc_25 (by decide) md_X3_copyFrom ml_X9_132 im_X3_copyFrom se_X3_copyFrom (tX3_copyFrom (by omega) ((by decide : 25 ∈ pv_l3)) ((by decide : 14 ∈ pv_l3)) hc4) (by omega) rfl rfl (Nat.le_of_ble_eq_true rfl) ⟨[], (List.append_nil _).symm⟩ ?_
        refine EV.weak (L2 := [none, none, none]) trivial ?_
        exact tX9_adoptText_95 hd    hf
      · have hf := pv_gp hf q3
        refine EV.aload_n dX9_adoptText_58 rfl rfl ?_
        refine FV.getF (v := 20) dX9_adoptText_59 sc_0 fl_9_19 rfl rfl hvc_0_1 ?_
        refine FV.getF (v := 23) dX9_adoptText_62 sc_20 fl_9_117 rfl rfl hvc_20_4 ?_
        refine EV.aload_n dX9_adoptText_65 rfl rfl ?_
        refine FV.getF (v := 1) dX9_adoptText_66 sc_0 fl_9_10 rfl rfl hvc_0_0 ?_
        refine FV.getF (v := 12) dX9_adoptText_69 sc_1 fl_9_121 rfl rfl hvc_1_5 ?_
        obtain ⟨h7, hc6, hf⟩ := pv_c1o hf
        refine EV.invV (As := [.inr (.inr (12))]) (st := []) (d1 := d - 1) (sh1 := pv_SC) (h1 := MC h7) (r1 := none) dX9_adoptText_72 sc_23 (by decide) md_X2_copyFrom ml_X9_122 im_X2_copyFrom se_X2_copyFrom (tX2_copyFrom (by omega) ((by decide : 23 ∈ pv_l2)) ((by decide : 12 ∈ pv_l2)) hc6) (by omega) rfl rfl (Nat.le_of_ble_eq_true rfl) ⟨[], (List.append_nil _).symm⟩ ?_
        refine EV.goto (tgt := 95) dX9_adoptText_75 (by decide) ?_
        refine EV.weak (L2 := [none, none, none]) trivial ?_
        exact tX9_adoptText_95 hd    hf
    · have hf := pv_gp hf q2
      refine EV.aload_n dX9_adoptText_31 rfl rfl ?_
      refine FV.getF (v := 20) dX9_adoptText_32 sc_0 fl_9_19 rfl rfl hvc_0_1 ?_
      refine FV.getF (v := 22) dX9_adoptText_35 sc_20 fl_9_105 rfl rfl hvc_20_3 ?_
      refine EV.iload_n dX9_adoptText_38 rfl rfl ?_
      obtain ⟨g8, hf⟩ := pv_gd hf
      obtain ⟨x9, ex9, hf⟩ := pv_bo hf
      have mx9 : x9 ∈ pv_l0 := ex9 ▸ mq_22 _ (by omega)
      refine FV.aald (a := 1) (v := x9) dX9_adoptText_39 sc_22 (by decide) g8.1 g8.2 (j := (Int.toNat (a2))) rfl rfl (by rw [hq_22 _ (by omega), ex9]) ?_
      refine EV.aload_n dX9_adoptText_40 rfl rfl ?_
      refine FV.getF (v := 1) dX9_adoptText_41 sc_0 fl_9_10 rfl rfl hvc_0_0 ?_
      refine FV.getF (v := 8) dX9_adoptText_44 sc_1 fl_9_109 rfl rfl hvc_1_4 ?_
      obtain ⟨h11, hc10, hf⟩ := pv_c1o hf
      refine EV.invV (As := [.inr (.inr (8))]) (st := []) (d1 := d - 1) (sh1 := pv_SC) (h1 := MC h11) (r1 := none) dX9_adoptText_47 (sl0_0 _ mx9) (by decide) md_X0_copyFrom ml_X9_112 im_X0_copyFrom se_X0_copyFrom (tX0_copyFrom (by omega) (mx9) ((by decide : 8 ∈ pv_l0)) hc10) (by omega) rfl rfl (Nat.le_of_ble_eq_true rfl) ⟨[], (List.append_nil _).symm⟩ ?_
      refine EV.goto (tgt := 95) dX9_adoptText_50 (by decide) ?_
      refine EV.weak (L2 := [none, none, none]) trivial ?_
      exact tX9_adoptText_95 hd    hf
  · have hf := pv_gp hf q1
    refine EV.aload_n dX9_adoptText_4 rfl rfl ?_
    refine FV.getF (v := 20) dX9_adoptText_5 sc_0 fl_9_19 rfl rfl hvc_0_1 ?_
    refine FV.getF (v := 21) dX9_adoptText_8 sc_20 fl_9_94 rfl rfl hvc_20_2 ?_
    refine EV.iload_n dX9_adoptText_11 rfl rfl ?_
    obtain ⟨g12, hf⟩ := pv_gd hf
    obtain ⟨x13, ex13, hf⟩ := pv_bo hf
    have mx13 : x13 ∈ pv_l5 := ex13 ▸ mq_21 _ (by omega)
    refine FV.aald (a := 0) (v := x13) dX9_adoptText_12 sc_21 (by decide) g12.1 g12.2 (j := (Int.toNat (a2))) rfl rfl (by rw [hq_21 _ (by omega), ex13]) ?_
    refine EV.aload_n dX9_adoptText_13 rfl rfl ?_
    refine FV.getF (v := 1) dX9_adoptText_14 sc_0 fl_9_10 rfl rfl hvc_0_0 ?_
    refine FV.getF (v := 2) dX9_adoptText_17 sc_1 fl_9_98 rfl rfl hvc_1_3 ?_
    obtain ⟨h15, hc14, hf⟩ := pv_c1o hf
    refine EV.invV (As := [.inr (.inr (2))]) (st := []) (d1 := d - 1) (sh1 := pv_SC) (h1 := MC h15) (r1 := none) dX9_adoptText_20 (sl5_0 _ mx13) (by decide) md_X5_copyFrom ml_X9_101 im_X5_copyFrom se_X5_copyFrom (tX5_copyFrom (by omega) (mx13) ((by decide : 2 ∈ pv_l5)) hc14) (by omega) rfl rfl (Nat.le_of_ble_eq_true rfl) ⟨[], (List.append_nil _).symm⟩ ?_
    refine EV.goto (tgt := 95) dX9_adoptText_23 (by decide) ?_
    refine EV.weak (L2 := [none, none, none]) trivial ?_
    exact tX9_adoptText_95 hd    hf

noncomputable def fX9_text_30 (N : Nat)  (a1 : Int) (a2 : Int) (a3 : Int)  (h : pv_H) : Option (pv_H × Int) :=
  pv_c2b (fX9_refuse N (-3) h) fun h27 r28 => some (h27, r28)

noncomputable def fX9_text_107 (N : Nat)  (a1 : Int) (a2 : Int) (a3 : Int) (v4 : Int) (h : pv_H) : Option (pv_H × Int) :=
  if (h 1 1) = 0 then (pv_c1 (fX9_adoptText N a1 a2 h) fun h31 => some (h31, v4)) else (pv_b (pv_up h 77 1 (pv_w ((h 77 1) + 1))) fun h32 => some (h32, pv_w ((-10) - (h32 1 1))))

noncomputable def fX9_text (N : Nat) (a1 : Int) (a2 : Int) (a3 : Int) (h : pv_H) : Option (pv_H × Int) :=
  pv_c1 (fX9_isTextPlace N a1 a2 h) fun r2 => if r2 = 0 then (pv_c2b (fX9_refuse N (-2) h) fun h24 r25 => some (h24, r25)) else (if a3 < 0 then (fX9_text_30 N  a1 a2 a3  h) else (if a3 ≤ (h 1 0) then (pv_c1 (fX4_begin N a3 h) fun h7 => if a1 = 0 then (pv_c2b (fX4_readRod N  h7) fun h21 r22 => fX9_text_107 N  a1 a2 a3 (r22) h21) else (if a1 = 1 then (pv_c2b (fX4_readDoings N  h7) fun h18 r19 => fX9_text_107 N  a1 a2 a3 (r19) h18) else (if a1 = 2 then (pv_c2b (fX4_readLaw N  h7) fun h15 r16 => fX9_text_107 N  a1 a2 a3 (r16) h15) else (pv_c2b (fX4_readLooks N  h7) fun h12 r13 => fX9_text_107 N  a1 a2 a3 (r13) h12)))) else (fX9_text_30 N  a1 a2 a3  h)))

set_option maxHeartbeats 4000000 in
set_option maxRecDepth 20000 in
theorem tX9_text_30 {d N : Nat}  {a1 : Int} {a2 : Int} {a3 : Int}  {h h' : pv_H} {r : Int} (hd : 47 ≤ d)    (hf : fX9_text_30 N  a1 a2 a3  h = some (h', r)) : EV RX9 cX9_text 5 (some .int) false d pv_SC (MC h') (some (.inl r)) 30 [some (.inr (.inr (0))), none, none, none, none] [] pv_SC (MC h) := by
  unfold fX9_text_30 at hf
  refine EV.aload_n dX9_text_30 rfl rfl ?_
  refine EV.bipush dX9_text_31 (by decide) (by decide) ?_
  obtain ⟨h27, r28, hc26, hf⟩ := pv_c2o hf
  refine EV.invV (As := [.inl (-3)]) (st := []) (d1 := d - 1) (sh1 := pv_SC) (h1 := MC h27) (r1 := (some (.inl r28))) dX9_text_33 sc_0 (by decide) md_X9_refuse ml_X9_59 im_X9_refuse se_X9_refuse (tX9_refuse (by omega)  hc26) (by omega) rfl rfl (Nat.le_of_ble_eq_true rfl) ⟨[], (List.append_nil _).symm⟩ ?_
  refine EV.eqS (st2 := [.inl (r28)]) rfl ?_
  exact FV.iret dX9_text_36 hf

set_option maxHeartbeats 4000000 in
set_option maxRecDepth 20000 in
theorem tX9_text_107 {d N : Nat}  {a1 : Int} {a2 : Int} {a3 : Int} {v4 : Int} {h h' : pv_H} {r : Int} (hd : 47 ≤ d)    (hf : fX9_text_107 N  a1 a2 a3 v4 h = some (h', r)) : EV RX9 cX9_text 5 (some .int) false d pv_SC (MC h') (some (.inl r)) 107 [some (.inr (.inr (0))), some (.inl (a1)), some (.inl (a2)), none, some (.inl (v4))] [] pv_SC (MC h) := by
  unfold fX9_text_107 at hf
  refine EV.aload_n dX9_text_107 rfl rfl ?_
  refine FV.getF (v := 1) dX9_text_108 sc_0 fl_9_10 rfl rfl hvc_0_0 ?_
  refine FV.getI dX9_text_111 sc_1 fl_9_87 rfl ?_
  refine EV.if_eq (tgt := 138) dX9_text_114 (by decide) (fun q29 => ?_) (fun q29 => ?_)
  · have hf := pv_gp hf q29
    refine EV.aload_n dX9_text_138 rfl rfl ?_
    refine EV.iload_n dX9_text_139 rfl rfl ?_
    refine EV.iload_n dX9_text_140 rfl rfl ?_
    obtain ⟨h31, hc30, hf⟩ := pv_c1o hf
    refine EV.invV (As := [.inl (a1), .inl (a2)]) (st := []) (d1 := d - 1) (sh1 := pv_SC) (h1 := MC h31) (r1 := none) dX9_text_141 sc_0 (by decide) md_X9_adoptText ml_X9_90 im_X9_adoptText se_X9_adoptText (tX9_adoptText (by omega)  hc30) (by omega) rfl rfl (Nat.le_of_ble_eq_true rfl) ⟨[], (List.append_nil _).symm⟩ ?_
    refine EV.iload dX9_text_144 rfl ?_
    exact FV.iret dX9_text_146 hf
  · have hf := pv_gn hf q29
    refine EV.aload_n dX9_text_117 rfl rfl ?_
    refine FV.getF (v := 77) dX9_text_118 sc_0 fl_9_33 rfl rfl hvc_0_4 ?_
    refine EV.iconst dX9_text_121 (by decide) (by decide) ?_
    refine EV.dup2 dX9_text_122 rfl rfl ?_
    refine FV.iald dX9_text_123 sc_77 (by decide) (by decide) (j := 1) rfl ?_
    refine EV.iconst dX9_text_124 (by decide) (by decide) ?_
    refine EV.iadd dX9_text_125 ?_
    obtain ⟨h32, eh32, hf⟩ := pv_bo hf
    refine FV.iast dX9_text_126 sc_77 (by decide) (by decide) (j := 1) rfl eh32 ?_
    refine EV.bipush dX9_text_127 (by decide) (by decide) ?_
    refine EV.aload_n dX9_text_129 rfl rfl ?_
    refine FV.getF (v := 1) dX9_text_130 sc_0 fl_9_10 rfl rfl hvc_0_0 ?_
    refine FV.getI dX9_text_133 sc_1 fl_9_87 rfl ?_
    refine EV.isub dX9_text_136 ?_
    exact FV.iret dX9_text_137 hf

set_option maxHeartbeats 4000000 in
set_option maxRecDepth 20000 in
theorem tX9_text {d N : Nat} {a1 : Int} {a2 : Int} {a3 : Int} {h h' : pv_H} {r : Int} (hd : 47 ≤ d)  (hf : fX9_text N a1 a2 a3 h = some (h', r)) : CALL yX9_text cX9_text 5 (some .int) d pv_SC (MC h) [.inr (.inr (0)), .inl (a1), .inl (a2), .inl (a3)] pv_SC (MC h') (some (.inl r)) := by
  unfold fX9_text at hf
  refine EV.call (own := RX9) (ini := false) rfl rfl (fun q => by cases q) ⟨[], (List.append_nil _).symm⟩ (Nat.le_of_ble_eq_true rfl) ?_
  refine EV.eqL (L2 := [some (.inr (.inr (0))), some (.inl (a1)), some (.inl (a2)), some (.inl (a3)), none]) rfl ?_
  refine EV.iload_n dX9_text_0 rfl rfl ?_
  refine EV.iload_n dX9_text_1 rfl rfl ?_
  obtain ⟨r2, hc1, hf⟩ := pv_c1o hf
  refine EV.invS (As := [.inl (a1), .inl (a2)]) (st := []) (d1 := d - 1) (sh1 := pv_SC) (h1 := MC h) (r1 := (some (.inl r2))) dX9_text_2 md_X9_isTextPlace ml_X9_67 st_X9_isTextPlace (tX9_isTextPlace (by omega)  hc1) (by omega) rfl rfl (Nat.le_of_ble_eq_true rfl) ⟨[], (List.append_nil _).symm⟩ ?_
  refine EV.eqS (st2 := [.inl (r2)]) rfl ?_
  refine EV.if_ne (tgt := 15) dX9_text_5 (by decide) (fun q3 => ?_) (fun q3 => ?_)
  · have hf := pv_gn hf q3
    refine EV.iload_n dX9_text_15 rfl rfl ?_
    refine EV.if_lt (tgt := 30) dX9_text_16 (by decide) (fun q4 => ?_) (fun q4 => ?_)
    · have hf := pv_gp hf q4
      refine EV.weak (L2 := [some (.inr (.inr (0))), none, none, none, none]) (And.intro rfl trivial) ?_
      exact tX9_text_30 hd    hf
    · have hf := pv_gn hf q4
      refine EV.iload_n dX9_text_19 rfl rfl ?_
      refine EV.aload_n dX9_text_20 rfl rfl ?_
      refine FV.getF (v := 1) dX9_text_21 sc_0 fl_9_10 rfl rfl hvc_0_0 ?_
      refine FV.getI dX9_text_24 sc_1 fl_9_55 rfl ?_
      refine EV.icmp_le (tgt := 37) dX9_text_27 (by decide) (fun q5 => ?_) (fun q5 => ?_)
      · have hf := pv_gp hf q5
        refine EV.aload_n dX9_text_37 rfl rfl ?_
        refine FV.getF (v := 1) dX9_text_38 sc_0 fl_9_10 rfl rfl hvc_0_0 ?_
        refine EV.iload_n dX9_text_41 rfl rfl ?_
        obtain ⟨h7, hc6, hf⟩ := pv_c1o hf
        refine EV.invV (As := [.inl (a3)]) (st := []) (d1 := d - 1) (sh1 := pv_SC) (h1 := MC h7) (r1 := none) dX9_text_42 sc_1 (by decide) md_X4_begin ml_X9_71 im_X4_begin se_X4_begin (tX4_begin (by omega)  hc6) (by omega) rfl rfl (Nat.le_of_ble_eq_true rfl) ⟨[], (List.append_nil _).symm⟩ ?_
        refine EV.iconst dX9_text_45 (by decide) (by decide) ?_
        refine FV.stiw (L2 := [some (.inr (.inr (0))), some (.inl (a1)), some (.inl (a2)), some (.inl (a3)), some (.inl (0))]) dX9_text_46 (Nat.le_of_ble_eq_true rfl) rfl rfl ?_
        refine EV.iload_n dX9_text_48 rfl rfl ?_
        refine EV.if_ne (tgt := 64) dX9_text_49 (by decide) (fun q8 => ?_) (fun q8 => ?_)
        · have hf := pv_gn hf q8
          refine EV.iload_n dX9_text_64 rfl rfl ?_
          refine EV.iconst dX9_text_65 (by decide) (by decide) ?_
          refine EV.icmp_ne (tgt := 81) dX9_text_66 (by decide) (fun q9 => ?_) (fun q9 => ?_)
          · have hf := pv_gn hf q9
            refine EV.iload_n dX9_text_81 rfl rfl ?_
            refine EV.iconst dX9_text_82 (by decide) (by decide) ?_
            refine EV.icmp_ne (tgt := 98) dX9_text_83 (by decide) (fun q10 => ?_) (fun q10 => ?_)
            · have hf := pv_gn hf q10
              refine EV.aload_n dX9_text_98 rfl rfl ?_
              refine FV.getF (v := 1) dX9_text_99 sc_0 fl_9_10 rfl rfl hvc_0_0 ?_
              obtain ⟨h12, r13, hc11, hf⟩ := pv_c2o hf
              refine EV.invV (As := []) (st := []) (d1 := d - 1) (sh1 := pv_SC) (h1 := MC h12) (r1 := (some (.inl r13))) dX9_text_102 sc_1 (by decide) md_X4_readLooks ml_X9_84 im_X4_readLooks se_X4_readLooks (tX4_readLooks (by omega)  hc11) (by omega) rfl rfl (Nat.le_of_ble_eq_true rfl) ⟨[], (List.append_nil _).symm⟩ ?_
              refine EV.eqS (st2 := [.inl (r13)]) rfl ?_
              refine FV.stiw (L2 := [some (.inr (.inr (0))), some (.inl (a1)), some (.inl (a2)), some (.inl (a3)), some (.inl (r13))]) dX9_text_105 (Nat.le_of_ble_eq_true rfl) rfl rfl ?_
              refine EV.weak (L2 := [some (.inr (.inr (0))), some (.inl (a1)), some (.inl (a2)), none, some (.inl (r13))]) (And.intro rfl (And.intro rfl (And.intro rfl (And.intro rfl trivial)))) ?_
              exact tX9_text_107 hd    hf
            · have hf := pv_gp hf q10
              refine EV.aload_n dX9_text_86 rfl rfl ?_
              refine FV.getF (v := 1) dX9_text_87 sc_0 fl_9_10 rfl rfl hvc_0_0 ?_
              obtain ⟨h15, r16, hc14, hf⟩ := pv_c2o hf
              refine EV.invV (As := []) (st := []) (d1 := d - 1) (sh1 := pv_SC) (h1 := MC h15) (r1 := (some (.inl r16))) dX9_text_90 sc_1 (by decide) md_X4_readLaw ml_X9_81 im_X4_readLaw se_X4_readLaw (tX4_readLaw (by omega)  hc14) (by omega) rfl rfl (Nat.le_of_ble_eq_true rfl) ⟨[], (List.append_nil _).symm⟩ ?_
              refine EV.eqS (st2 := [.inl (r16)]) rfl ?_
              refine FV.stiw (L2 := [some (.inr (.inr (0))), some (.inl (a1)), some (.inl (a2)), some (.inl (a3)), some (.inl (r16))]) dX9_text_93 (Nat.le_of_ble_eq_true rfl) rfl rfl ?_
              refine EV.goto (tgt := 107) dX9_text_95 (by decide) ?_
              refine EV.weak (L2 := [some (.inr (.inr (0))), some (.inl (a1)), some (.inl (a2)), none, some (.inl (r16))]) (And.intro rfl (And.intro rfl (And.intro rfl (And.intro rfl trivial)))) ?_
              exact tX9_text_107 hd    hf
          · have hf := pv_gp hf q9
            refine EV.aload_n dX9_text_69 rfl rfl ?_
            refine FV.getF (v := 1) dX9_text_70 sc_0 fl_9_10 rfl rfl hvc_0_0 ?_
            obtain ⟨h18, r19, hc17, hf⟩ := pv_c2o hf
            refine EV.invV (As := []) (st := []) (d1 := d - 1) (sh1 := pv_SC) (h1 := MC h18) (r1 := (some (.inl r19))) dX9_text_73 sc_1 (by decide) md_X4_readDoings ml_X9_78 im_X4_readDoings se_X4_readDoings (tX4_readDoings (by omega)  hc17) (by omega) rfl rfl (Nat.le_of_ble_eq_true rfl) ⟨[], (List.append_nil _).symm⟩ ?_
            refine EV.eqS (st2 := [.inl (r19)]) rfl ?_
            refine FV.stiw (L2 := [some (.inr (.inr (0))), some (.inl (a1)), some (.inl (a2)), some (.inl (a3)), some (.inl (r19))]) dX9_text_76 (Nat.le_of_ble_eq_true rfl) rfl rfl ?_
            refine EV.goto (tgt := 107) dX9_text_78 (by decide) ?_
            refine EV.weak (L2 := [some (.inr (.inr (0))), some (.inl (a1)), some (.inl (a2)), none, some (.inl (r19))]) (And.intro rfl (And.intro rfl (And.intro rfl (And.intro rfl trivial)))) ?_
            exact tX9_text_107 hd    hf
        · have hf := pv_gp hf q8
          refine EV.aload_n dX9_text_52 rfl rfl ?_
          refine FV.getF (v := 1) dX9_text_53 sc_0 fl_9_10 rfl rfl hvc_0_0 ?_
          obtain ⟨h21, r22, hc20, hf⟩ := pv_c2o hf
          refine EV.invV (As := []) (st := []) (d1 := d - 1) (sh1 := pv_SC) (h1 := MC h21) (r1 := (some (.inl r22))) dX9_text_56 sc_1 (by decide) md_X4_readRod ml_X9_74 im_X4_readRod se_X4_readRod (tX4_readRod (by omega)  hc20) (by omega) rfl rfl (Nat.le_of_ble_eq_true rfl) ⟨[], (List.append_nil _).symm⟩ ?_
          refine EV.eqS (st2 := [.inl (r22)]) rfl ?_
          refine FV.stiw (L2 := [some (.inr (.inr (0))), some (.inl (a1)), some (.inl (a2)), some (.inl (a3)), some (.inl (r22))]) dX9_text_59 (Nat.le_of_ble_eq_true rfl) rfl rfl ?_
          refine EV.goto (tgt := 107) dX9_text_61 (by decide) ?_
          refine EV.weak (L2 := [some (.inr (.inr (0))), some (.inl (a1)), some (.inl (a2)), none, some (.inl (r22))]) (And.intro rfl (And.intro rfl (And.intro rfl (And.intro rfl trivial)))) ?_
          exact tX9_text_107 hd    hf
      · have hf := pv_gn hf q5
        refine EV.weak (L2 := [some (.inr (.inr (0))), none, none, none, none]) (And.intro rfl trivial) ?_
        exact tX9_text_30 hd    hf
  · have hf := pv_gp hf q3
    refine EV.aload_n dX9_text_8 rfl rfl ?_
    refine EV.bipush dX9_text_9 (by decide) (by decide) ?_
    obtain ⟨h24, r25, hc23, hf⟩ := pv_c2o hf
    refine EV.invV (As := [.inl (-2)]) (st := []) (d1 := d - 1) (sh1 := pv_SC) (h1 := MC h24) (r1 := (some (.inl r25))) dX9_text_11 sc_0 (by decide) md_X9_refuse ml_X9_59 im_X9_refuse se_X9_refuse (tX9_refuse (by omega)  hc23) (by omega) rfl rfl (Nat.le_of_ble_eq_true rfl) ⟨[], (List.append_nil _).symm⟩ ?_
    refine EV.eqS (st2 := [.inl (r25)]) rfl ?_
    exact FV.iret dX9_text_14 hf

noncomputable def fX9_fault_28 (N : Nat)  (a1 : Int) (s0 : Int) (h : pv_H) : Option (Int) :=
  some (s0)

noncomputable def fX9_fault (N : Nat) (a1 : Int) (h : pv_H) : Option (Int) :=
  if a1 = 0 then (some (h 1 1)) else (if a1 = 1 then (fX9_fault_28 N  a1 (h 1 2) h) else (fX9_fault_28 N  a1 (-1) h))

set_option maxHeartbeats 4000000 in
set_option maxRecDepth 20000 in
theorem tX9_fault_28 {d N : Nat}  {a1 : Int} {s0 : Int} {h : pv_H} {r : Int} (hd : 1 ≤ d)    (hf : fX9_fault_28 N  a1 s0 h = some r) : EV RX9 cX9_fault 2 (some .int) false d pv_SC (MC h) (some (.inl r)) 28 [none, none] [.inl (s0)] pv_SC (MC h) := by
  unfold fX9_fault_28 at hf
  exact FV.iretp dX9_fault_28 hf

set_option maxHeartbeats 4000000 in
set_option maxRecDepth 20000 in
theorem tX9_fault {d N : Nat} {a1 : Int} {h : pv_H} {r : Int} (hd : 1 ≤ d)  (hf : fX9_fault N a1 h = some r) : CALL yX9_fault cX9_fault 2 (some .int) d pv_SC (MC h) [.inr (.inr (0)), .inl (a1)] pv_SC (MC h) (some (.inl r)) := by
  unfold fX9_fault at hf
  refine EV.call (own := RX9) (ini := false) rfl rfl (fun q => by cases q) ⟨[], (List.append_nil _).symm⟩ (Nat.le_of_ble_eq_true rfl) ?_
  refine EV.eqL (L2 := [some (.inr (.inr (0))), some (.inl (a1))]) rfl ?_
  refine EV.iload_n dX9_fault_0 rfl rfl ?_
  refine EV.if_ne (tgt := 12) dX9_fault_1 (by decide) (fun q1 => ?_) (fun q1 => ?_)
  · have hf := pv_gn hf q1
    refine EV.iload_n dX9_fault_12 rfl rfl ?_
    refine EV.iconst dX9_fault_13 (by decide) (by decide) ?_
    refine EV.icmp_ne (tgt := 27) dX9_fault_14 (by decide) (fun q2 => ?_) (fun q2 => ?_)
    · have hf := pv_gn hf q2
      refine EV.iconst dX9_fault_27 (by decide) (by decide) ?_
      refine EV.weak (L2 := [none, none]) trivial ?_
      exact tX9_fault_28 hd    hf
    · have hf := pv_gp hf q2
      refine EV.aload_n dX9_fault_17 rfl rfl ?_
      refine FV.getF (v := 1) dX9_fault_18 sc_0 fl_9_10 rfl rfl hvc_0_0 ?_
      refine FV.getI dX9_fault_21 sc_1 fl_9_137 rfl ?_
      refine EV.goto (tgt := 28) dX9_fault_24 (by decide) ?_
      refine EV.weak (L2 := [none, none]) trivial ?_
      exact tX9_fault_28 hd    hf
  · have hf := pv_gp hf q1
    refine EV.aload_n dX9_fault_4 rfl rfl ?_
    refine FV.getF (v := 1) dX9_fault_5 sc_0 fl_9_10 rfl rfl hvc_0_0 ?_
    refine FV.getI dX9_fault_8 sc_1 fl_9_87 rfl ?_
    exact FV.iretp dX9_fault_11 hf

noncomputable def fX9_hasRod_29 (N : Nat)  (a1 : Int) (s0 : Int) (h : pv_H) : Option (Int) :=
  if s0 = 0 ∨ s0 = 1 then (some (s0)) else none

noncomputable def fX9_hasRod_28 (N : Nat)  (a1 : Int)  (h : pv_H) : Option (Int) :=
  fX9_hasRod_29 N  a1 (0) h

noncomputable def fX9_hasRod (N : Nat) (a1 : Int) (h : pv_H) : Option (Int) :=
  if a1 < 0 then (fX9_hasRod_28 N  a1  h) else (if 4 ≤ a1 then (fX9_hasRod_28 N  a1  h) else (if 0 ≤ a1 ∧ a1 < 4 then (pv_b (35 + 6 * (Int.toNat (a1))) fun x4 => if (h x4 0) ≤ 0 then (fX9_hasRod_28 N  a1  h) else (fX9_hasRod_29 N  a1 (1) h)) else none))

set_option maxHeartbeats 4000000 in
set_option maxRecDepth 20000 in
theorem tX9_hasRod_29 {d N : Nat}  {a1 : Int} {s0 : Int} {h : pv_H} {r : Int} (hd : 1 ≤ d)    (hf : fX9_hasRod_29 N  a1 s0 h = some r) : EV RX9 cX9_hasRod 2 (some .boolean) false d pv_SC (MC h) (some (.inl r)) 29 [none, none] [.inl (s0)] pv_SC (MC h) := by
  unfold fX9_hasRod_29 at hf
  obtain ⟨g6, hf⟩ := pv_gd hf
  exact FV.zretp dX9_hasRod_29 g6 hf

set_option maxHeartbeats 4000000 in
set_option maxRecDepth 20000 in
theorem tX9_hasRod_28 {d N : Nat}  {a1 : Int}  {h : pv_H} {r : Int} (hd : 1 ≤ d)    (hf : fX9_hasRod_28 N  a1  h = some r) : EV RX9 cX9_hasRod 2 (some .boolean) false d pv_SC (MC h) (some (.inl r)) 28 [none, none] [] pv_SC (MC h) := by
  unfold fX9_hasRod_28 at hf
  refine EV.iconst dX9_hasRod_28 (by decide) (by decide) ?_
  refine EV.weak (L2 := [none, none]) trivial ?_
  exact tX9_hasRod_29 hd    hf

set_option maxHeartbeats 4000000 in
set_option maxRecDepth 20000 in
theorem tX9_hasRod {d N : Nat} {a1 : Int} {h : pv_H} {r : Int} (hd : 1 ≤ d)  (hf : fX9_hasRod N a1 h = some r) : CALL yX9_hasRod cX9_hasRod 2 (some .boolean) d pv_SC (MC h) [.inr (.inr (0)), .inl (a1)] pv_SC (MC h) (some (.inl r)) := by
  unfold fX9_hasRod at hf
  refine EV.call (own := RX9) (ini := false) rfl rfl (fun q => by cases q) ⟨[], (List.append_nil _).symm⟩ (Nat.le_of_ble_eq_true rfl) ?_
  refine EV.eqL (L2 := [some (.inr (.inr (0))), some (.inl (a1))]) rfl ?_
  refine EV.iload_n dX9_hasRod_0 rfl rfl ?_
  refine EV.if_lt (tgt := 28) dX9_hasRod_1 (by decide) (fun q1 => ?_) (fun q1 => ?_)
  · have hf := pv_gp hf q1
    refine EV.weak (L2 := [none, none]) trivial ?_
    exact tX9_hasRod_28 hd    hf
  · have hf := pv_gn hf q1
    refine EV.iload_n dX9_hasRod_4 rfl rfl ?_
    refine EV.iconst dX9_hasRod_5 (by decide) (by decide) ?_
    refine EV.icmp_ge (tgt := 28) dX9_hasRod_6 (by decide) (fun q2 => ?_) (fun q2 => ?_)
    · have hf := pv_gp hf q2
      refine EV.weak (L2 := [none, none]) trivial ?_
      exact tX9_hasRod_28 hd    hf
    · have hf := pv_gn hf q2
      refine EV.aload_n dX9_hasRod_9 rfl rfl ?_
      refine FV.getF (v := 20) dX9_hasRod_10 sc_0 fl_9_19 rfl rfl hvc_0_1 ?_
      refine FV.getF (v := 21) dX9_hasRod_13 sc_20 fl_9_94 rfl rfl hvc_20_2 ?_
      refine EV.iload_n dX9_hasRod_16 rfl rfl ?_
      obtain ⟨g3, hf⟩ := pv_gd hf
      obtain ⟨x4, ex4, hf⟩ := pv_bo hf
      have mx4 : x4 ∈ pv_l5 := ex4 ▸ mq_21 _ (by omega)
      refine FV.aald (a := 0) (v := x4) dX9_hasRod_17 sc_21 (by decide) g3.1 g3.2 (j := (Int.toNat (a1))) rfl rfl (by rw [hq_21 _ (by omega), ex4]) ?_
      refine FV.getI dX9_hasRod_18 (sl5_0 _ mx4) fl_9_144 rfl ?_
      refine EV.if_le (tgt := 28) dX9_hasRod_21 (by decide) (fun q5 => ?_) (fun q5 => ?_)
      · have hf := pv_gp hf q5
        refine EV.weak (L2 := [none, none]) trivial ?_
        exact tX9_hasRod_28 hd    hf
      · have hf := pv_gn hf q5
        refine EV.iconst dX9_hasRod_24 (by decide) (by decide) ?_
        refine EV.goto (tgt := 29) dX9_hasRod_25 (by decide) ?_
        refine EV.weak (L2 := [none, none]) trivial ?_
        exact tX9_hasRod_29 hd    hf

noncomputable def fX9_rod_17 (N : Nat)  (a1 : Int) (a2 : Int)  (h : pv_H) : Option (pv_H × Int) :=
  pv_c2b (fX9_refuse N (-2) h) fun h12 r13 => some (h12, r13)

noncomputable def fX9_rod_55 (N : Nat)  (a1 : Int) (a2 : Int) (s0 : Int) (h : pv_H) : Option (pv_H × Int) :=
  some (h, s0)

noncomputable def fX9_rod (N : Nat) (a1 : Int) (a2 : Int) (h : pv_H) : Option (pv_H × Int) :=
  pv_c1 (fX9_hasRod N a1 h) fun r2 => if r2 = 0 then (fX9_rod_17 N  a1 a2  h) else (if a2 < 0 then (fX9_rod_17 N  a1 a2  h) else (if a2 ≤ 1 then (if a2 = 0 then (if 0 ≤ a1 ∧ a1 < 4 then (pv_b (35 + 6 * (Int.toNat (a1))) fun x10 => fX9_rod_55 N  a1 a2 (h x10 0) h) else none) else (if 0 ≤ a1 ∧ a1 < 4 then (pv_b (35 + 6 * (Int.toNat (a1))) fun x8 => fX9_rod_55 N  a1 a2 (h x8 1) h) else none)) else (fX9_rod_17 N  a1 a2  h)))

set_option maxHeartbeats 4000000 in
set_option maxRecDepth 20000 in
theorem tX9_rod_17 {d N : Nat}  {a1 : Int} {a2 : Int}  {h h' : pv_H} {r : Int} (hd : 2 ≤ d)    (hf : fX9_rod_17 N  a1 a2  h = some (h', r)) : EV RX9 cX9_rod 3 (some .int) false d pv_SC (MC h') (some (.inl r)) 17 [some (.inr (.inr (0))), none, none] [] pv_SC (MC h) := by
  unfold fX9_rod_17 at hf
  refine EV.aload_n dX9_rod_17 rfl rfl ?_
  refine EV.bipush dX9_rod_18 (by decide) (by decide) ?_
  obtain ⟨h12, r13, hc11, hf⟩ := pv_c2o hf
  refine EV.invV (As := [.inl (-2)]) (st := []) (d1 := d - 1) (sh1 := pv_SC) (h1 := MC h12) (r1 := (some (.inl r13))) dX9_rod_20 sc_0 (by decide) md_X9_refuse ml_X9_59 im_X9_refuse se_X9_refuse (tX9_refuse (by omega)  hc11) (by omega) rfl rfl (Nat.le_of_ble_eq_true rfl) ⟨[], (List.append_nil _).symm⟩ ?_
  refine EV.eqS (st2 := [.inl (r13)]) rfl ?_
  exact FV.iret dX9_rod_23 hf

set_option maxHeartbeats 4000000 in
set_option maxRecDepth 20000 in
theorem tX9_rod_55 {d N : Nat}  {a1 : Int} {a2 : Int} {s0 : Int} {h h' : pv_H} {r : Int} (hd : 2 ≤ d)    (hf : fX9_rod_55 N  a1 a2 s0 h = some (h', r)) : EV RX9 cX9_rod 3 (some .int) false d pv_SC (MC h') (some (.inl r)) 55 [none, none, none] [.inl (s0)] pv_SC (MC h) := by
  unfold fX9_rod_55 at hf
  exact FV.iret dX9_rod_55 hf

set_option maxHeartbeats 4000000 in
set_option maxRecDepth 20000 in
theorem tX9_rod {d N : Nat} {a1 : Int} {a2 : Int} {h h' : pv_H} {r : Int} (hd : 2 ≤ d)  (hf : fX9_rod N a1 a2 h = some (h', r)) : CALL yX9_rod cX9_rod 3 (some .int) d pv_SC (MC h) [.inr (.inr (0)), .inl (a1), .inl (a2)] pv_SC (MC h') (some (.inl r)) := by
  unfold fX9_rod at hf
  refine EV.call (own := RX9) (ini := false) rfl rfl (fun q => by cases q) ⟨[], (List.append_nil _).symm⟩ (Nat.le_of_ble_eq_true rfl) ?_
  refine EV.eqL (L2 := [some (.inr (.inr (0))), some (.inl (a1)), some (.inl (a2))]) rfl ?_
  refine EV.aload_n dX9_rod_0 rfl rfl ?_
  refine EV.iload_n dX9_rod_1 rfl rfl ?_
  obtain ⟨r2, hc1, hf⟩ := pv_c1o hf
  refine EV.invV (As := [.inl (a1)]) (st := []) (d1 := d - 1) (sh1 := pv_SC) (h1 := MC h) (r1 := (some (.inl r2))) dX9_rod_2 sc_0 (by decide) md_X9_hasRod ml_X9_140 im_X9_hasRod se_X9_hasRod (tX9_hasRod (by omega)  hc1) (by omega) rfl rfl (Nat.le_of_ble_eq_true rfl) ⟨[], (List.append_nil _).symm⟩ ?_
  refine EV.eqS (st2 := [.inl (r2)]) rfl ?_
  refine EV.if_eq (tgt := 17) dX9_rod_5 (by decide) (fun q3 => ?_) (fun q3 => ?_)
  · have hf := pv_gp hf q3
    refine EV.weak (L2 := [some (.inr (.inr (0))), none, none]) (And.intro rfl trivial) ?_
    exact tX9_rod_17 hd    hf
  · have hf := pv_gn hf q3
    refine EV.iload_n dX9_rod_8 rfl rfl ?_
    refine EV.if_lt (tgt := 17) dX9_rod_9 (by decide) (fun q4 => ?_) (fun q4 => ?_)
    · have hf := pv_gp hf q4
      refine EV.weak (L2 := [some (.inr (.inr (0))), none, none]) (And.intro rfl trivial) ?_
      exact tX9_rod_17 hd    hf
    · have hf := pv_gn hf q4
      refine EV.iload_n dX9_rod_12 rfl rfl ?_
      refine EV.iconst dX9_rod_13 (by decide) (by decide) ?_
      refine EV.icmp_le (tgt := 24) dX9_rod_14 (by decide) (fun q5 => ?_) (fun q5 => ?_)
      · have hf := pv_gp hf q5
        refine EV.iload_n dX9_rod_24 rfl rfl ?_
        refine EV.if_ne (tgt := 43) dX9_rod_25 (by decide) (fun q6 => ?_) (fun q6 => ?_)
        · have hf := pv_gn hf q6
          refine EV.aload_n dX9_rod_43 rfl rfl ?_
          refine FV.getF (v := 20) dX9_rod_44 sc_0 fl_9_19 rfl rfl hvc_0_1 ?_
          refine FV.getF (v := 21) dX9_rod_47 sc_20 fl_9_94 rfl rfl hvc_20_2 ?_
          refine EV.iload_n dX9_rod_50 rfl rfl ?_
          obtain ⟨g7, hf⟩ := pv_gd hf
          obtain ⟨x8, ex8, hf⟩ := pv_bo hf
          have mx8 : x8 ∈ pv_l5 := ex8 ▸ mq_21 _ (by omega)
          refine FV.aald (a := 0) (v := x8) dX9_rod_51 sc_21 (by decide) g7.1 g7.2 (j := (Int.toNat (a1))) rfl rfl (by rw [hq_21 _ (by omega), ex8]) ?_
          refine FV.getI dX9_rod_52 (sl5_0 _ mx8) fl_9_147 rfl ?_
          refine EV.weak (L2 := [none, none, none]) trivial ?_
          exact tX9_rod_55 hd    hf
        · have hf := pv_gp hf q6
          refine EV.aload_n dX9_rod_28 rfl rfl ?_
          refine FV.getF (v := 20) dX9_rod_29 sc_0 fl_9_19 rfl rfl hvc_0_1 ?_
          refine FV.getF (v := 21) dX9_rod_32 sc_20 fl_9_94 rfl rfl hvc_20_2 ?_
          refine EV.iload_n dX9_rod_35 rfl rfl ?_
          obtain ⟨g9, hf⟩ := pv_gd hf
          obtain ⟨x10, ex10, hf⟩ := pv_bo hf
          have mx10 : x10 ∈ pv_l5 := ex10 ▸ mq_21 _ (by omega)
          refine FV.aald (a := 0) (v := x10) dX9_rod_36 sc_21 (by decide) g9.1 g9.2 (j := (Int.toNat (a1))) rfl rfl (by rw [hq_21 _ (by omega), ex10]) ?_
          refine FV.getI dX9_rod_37 (sl5_0 _ mx10) fl_9_144 rfl ?_
          refine EV.goto (tgt := 55) dX9_rod_40 (by decide) ?_
          refine EV.weak (L2 := [none, none, none]) trivial ?_
          exact tX9_rod_55 hd    hf
      · have hf := pv_gn hf q5
        refine EV.weak (L2 := [some (.inr (.inr (0))), none, none]) (And.intro rfl trivial) ?_
        exact tX9_rod_17 hd    hf

noncomputable def fX9_hasCell_33 (N : Nat)  (a1 : Int) (a2 : Int) (s0 : Int) (h : pv_H) : Option (Int) :=
  if s0 = 0 ∨ s0 = 1 then (some (s0)) else none

noncomputable def fX9_hasCell_32 (N : Nat)  (a1 : Int) (a2 : Int)  (h : pv_H) : Option (Int) :=
  fX9_hasCell_33 N  a1 a2 (0) h

noncomputable def fX9_hasCell (N : Nat) (a1 : Int) (a2 : Int) (h : pv_H) : Option (Int) :=
  pv_c1 (fX9_hasRod N a1 h) fun r2 => if r2 = 0 then (fX9_hasCell_32 N  a1 a2  h) else (if a2 < 0 then (fX9_hasCell_32 N  a1 a2  h) else (if 0 ≤ a1 ∧ a1 < 4 then (pv_b (35 + 6 * (Int.toNat (a1))) fun x6 => if (h x6 0) ≤ a2 then (fX9_hasCell_32 N  a1 a2  h) else (fX9_hasCell_33 N  a1 a2 (1) h)) else none))

set_option maxHeartbeats 4000000 in
set_option maxRecDepth 20000 in
theorem tX9_hasCell_33 {d N : Nat}  {a1 : Int} {a2 : Int} {s0 : Int} {h : pv_H} {r : Int} (hd : 2 ≤ d)    (hf : fX9_hasCell_33 N  a1 a2 s0 h = some r) : EV RX9 cX9_hasCell 3 (some .boolean) false d pv_SC (MC h) (some (.inl r)) 33 [none, none, none] [.inl (s0)] pv_SC (MC h) := by
  unfold fX9_hasCell_33 at hf
  obtain ⟨g8, hf⟩ := pv_gd hf
  exact FV.zretp dX9_hasCell_33 g8 hf

set_option maxHeartbeats 4000000 in
set_option maxRecDepth 20000 in
theorem tX9_hasCell_32 {d N : Nat}  {a1 : Int} {a2 : Int}  {h : pv_H} {r : Int} (hd : 2 ≤ d)    (hf : fX9_hasCell_32 N  a1 a2  h = some r) : EV RX9 cX9_hasCell 3 (some .boolean) false d pv_SC (MC h) (some (.inl r)) 32 [none, none, none] [] pv_SC (MC h) := by
  unfold fX9_hasCell_32 at hf
  refine EV.iconst dX9_hasCell_32 (by decide) (by decide) ?_
  refine EV.weak (L2 := [none, none, none]) trivial ?_
  exact tX9_hasCell_33 hd    hf

set_option maxHeartbeats 4000000 in
set_option maxRecDepth 20000 in
theorem tX9_hasCell {d N : Nat} {a1 : Int} {a2 : Int} {h : pv_H} {r : Int} (hd : 2 ≤ d)  (hf : fX9_hasCell N a1 a2 h = some r) : CALL yX9_hasCell cX9_hasCell 3 (some .boolean) d pv_SC (MC h) [.inr (.inr (0)), .inl (a1), .inl (a2)] pv_SC (MC h) (some (.inl r)) := by
  unfold fX9_hasCell at hf
  refine EV.call (own := RX9) (ini := false) rfl rfl (fun q => by cases q) ⟨[], (List.append_nil _).symm⟩ (Nat.le_of_ble_eq_true rfl) ?_
  refine EV.eqL (L2 := [some (.inr (.inr (0))), some (.inl (a1)), some (.inl (a2))]) rfl ?_
  refine EV.aload_n dX9_hasCell_0 rfl rfl ?_
  refine EV.iload_n dX9_hasCell_1 rfl rfl ?_
  obtain ⟨r2, hc1, hf⟩ := pv_c1o hf
  refine EV.invV (As := [.inl (a1)]) (st := []) (d1 := d - 1) (sh1 := pv_SC) (h1 := MC h) (r1 := (some (.inl r2))) dX9_hasCell_2 sc_0 (by decide) md_X9_hasRod ml_X9_140 im_X9_hasRod se_X9_hasRod (tX9_hasRod (by omega)  hc1) (by omega) rfl rfl (Nat.le_of_ble_eq_true rfl) ⟨[], (List.append_nil _).symm⟩ ?_
  refine EV.eqS (st2 := [.inl (r2)]) rfl ?_
  refine EV.if_eq (tgt := 32) dX9_hasCell_5 (by decide) (fun q3 => ?_) (fun q3 => ?_)
  · have hf := pv_gp hf q3
    refine EV.weak (L2 := [none, none, none]) trivial ?_
    exact tX9_hasCell_32 hd    hf
  · have hf := pv_gn hf q3
    refine EV.iload_n dX9_hasCell_8 rfl rfl ?_
    refine EV.if_lt (tgt := 32) dX9_hasCell_9 (by decide) (fun q4 => ?_) (fun q4 => ?_)
    · have hf := pv_gp hf q4
      refine EV.weak (L2 := [none, none, none]) trivial ?_
      exact tX9_hasCell_32 hd    hf
    · have hf := pv_gn hf q4
      refine EV.iload_n dX9_hasCell_12 rfl rfl ?_
      refine EV.aload_n dX9_hasCell_13 rfl rfl ?_
      refine FV.getF (v := 20) dX9_hasCell_14 sc_0 fl_9_19 rfl rfl hvc_0_1 ?_
      refine FV.getF (v := 21) dX9_hasCell_17 sc_20 fl_9_94 rfl rfl hvc_20_2 ?_
      refine EV.iload_n dX9_hasCell_20 rfl rfl ?_
      obtain ⟨g5, hf⟩ := pv_gd hf
      obtain ⟨x6, ex6, hf⟩ := pv_bo hf
      have mx6 : x6 ∈ pv_l5 := ex6 ▸ mq_21 _ (by omega)
      refine FV.aald (a := 0) (v := x6) dX9_hasCell_21 sc_21 (by decide) g5.1 g5.2 (j := (Int.toNat (a1))) rfl rfl (by rw [hq_21 _ (by omega), ex6]) ?_
      refine FV.getI dX9_hasCell_22 (sl5_0 _ mx6) fl_9_144 rfl ?_
      refine EV.icmp_ge (tgt := 32) dX9_hasCell_25 (by decide) (fun q7 => ?_) (fun q7 => ?_)
      · have hf := pv_gp hf q7
        refine EV.weak (L2 := [none, none, none]) trivial ?_
        exact tX9_hasCell_32 hd    hf
      · have hf := pv_gn hf q7
        refine EV.iconst dX9_hasCell_28 (by decide) (by decide) ?_
        refine EV.goto (tgt := 33) dX9_hasCell_29 (by decide) ?_
        refine EV.weak (L2 := [none, none, none]) trivial ?_
        exact tX9_hasCell_33 hd    hf

noncomputable def fX9_cell_18 (N : Nat)  (a1 : Int) (a2 : Int) (a3 : Int)  (h : pv_H) : Option (pv_H × Int) :=
  pv_c2b (fX9_refuse N (-2) h) fun h14 r15 => some (h14, r15)

noncomputable def fX9_cell (N : Nat) (a1 : Int) (a2 : Int) (a3 : Int) (h : pv_H) : Option (pv_H × Int) :=
  pv_c1 (fX9_hasCell N a1 a2 h) fun r2 => if r2 = 0 then (fX9_cell_18 N  a1 a2 a3  h) else (if a3 < 0 then (fX9_cell_18 N  a1 a2 a3  h) else (if a3 < 5 then (if 0 ≤ a1 ∧ a1 < 4 then (pv_b (35 + 6 * (Int.toNat (a1))) fun x7 => if a3 = 0 then (if 0 ≤ a2 ∧ a2 < 60 then (some (h, h (x7 + 1) (Int.toNat (a2)))) else none) else (if a3 = 1 then (if 0 ≤ a2 ∧ a2 < 60 then (some (h, h (x7 + 2) (Int.toNat (a2)))) else none) else (if a3 = 2 then (if 0 ≤ a2 ∧ a2 < 60 then (some (h, h (x7 + 3) (Int.toNat (a2)))) else none) else (if a3 = 3 then (if 0 ≤ a2 ∧ a2 < 60 then (some (h, h (x7 + 4) (Int.toNat (a2)))) else none) else (if 0 ≤ a2 ∧ a2 < 60 then (some (h, h (x7 + 5) (Int.toNat (a2)))) else none))))) else none) else (fX9_cell_18 N  a1 a2 a3  h)))

set_option maxHeartbeats 4000000 in
set_option maxRecDepth 20000 in
theorem tX9_cell_18 {d N : Nat}  {a1 : Int} {a2 : Int} {a3 : Int}  {h h' : pv_H} {r : Int} (hd : 3 ≤ d)    (hf : fX9_cell_18 N  a1 a2 a3  h = some (h', r)) : EV RX9 cX9_cell 5 (some .int) false d pv_SC (MC h') (some (.inl r)) 18 [some (.inr (.inr (0))), none, none, none, none] [] pv_SC (MC h) := by
  unfold fX9_cell_18 at hf
  refine EV.aload_n dX9_cell_18 rfl rfl ?_
  refine EV.bipush dX9_cell_19 (by decide) (by decide) ?_
  obtain ⟨h14, r15, hc13, hf⟩ := pv_c2o hf
  refine EV.invV (As := [.inl (-2)]) (st := []) (d1 := d - 1) (sh1 := pv_SC) (h1 := MC h14) (r1 := (some (.inl r15))) dX9_cell_21 sc_0 (by decide) md_X9_refuse ml_X9_59 im_X9_refuse se_X9_refuse (tX9_refuse (by omega)  hc13) (by omega) rfl rfl (Nat.le_of_ble_eq_true rfl) ⟨[], (List.append_nil _).symm⟩ ?_
  refine EV.eqS (st2 := [.inl (r15)]) rfl ?_
  exact FV.iret dX9_cell_24 hf

set_option maxHeartbeats 4000000 in
set_option maxRecDepth 20000 in
theorem tX9_cell {d N : Nat} {a1 : Int} {a2 : Int} {a3 : Int} {h h' : pv_H} {r : Int} (hd : 3 ≤ d)  (hf : fX9_cell N a1 a2 a3 h = some (h', r)) : CALL yX9_cell cX9_cell 5 (some .int) d pv_SC (MC h) [.inr (.inr (0)), .inl (a1), .inl (a2), .inl (a3)] pv_SC (MC h') (some (.inl r)) := by
  unfold fX9_cell at hf
  refine EV.call (own := RX9) (ini := false) rfl rfl (fun q => by cases q) ⟨[], (List.append_nil _).symm⟩ (Nat.le_of_ble_eq_true rfl) ?_
  refine EV.eqL (L2 := [some (.inr (.inr (0))), some (.inl (a1)), some (.inl (a2)), some (.inl (a3)), none]) rfl ?_
  refine EV.aload_n dX9_cell_0 rfl rfl ?_
  refine EV.iload_n dX9_cell_1 rfl rfl ?_
  refine EV.iload_n dX9_cell_2 rfl rfl ?_
  obtain ⟨r2, hc1, hf⟩ := pv_c1o hf
  refine EV.invV (As := [.inl (a1), .inl (a2)]) (st := []) (d1 := d - 1) (sh1 := pv_SC) (h1 := MC h) (r1 := (some (.inl r2))) dX9_cell_3 sc_0 (by decide) md_X9_hasCell ml_X9_150 im_X9_hasCell se_X9_hasCell (tX9_hasCell (by omega)  hc1) (by omega) rfl rfl (Nat.le_of_ble_eq_true rfl) ⟨[], (List.append_nil _).symm⟩ ?_
  refine EV.eqS (st2 := [.inl (r2)]) rfl ?_
  refine EV.if_eq (tgt := 18) dX9_cell_6 (by decide) (fun q3 => ?_) (fun q3 => ?_)
  · have hf := pv_gp hf q3
    refine EV.weak (L2 := [some (.inr (.inr (0))), none, none, none, none]) (And.intro rfl trivial) ?_
    exact tX9_cell_18 hd    hf
  · have hf := pv_gn hf q3
    refine EV.iload_n dX9_cell_9 rfl rfl ?_
    refine EV.if_lt (tgt := 18) dX9_cell_10 (by decide) (fun q4 => ?_) (fun q4 => ?_)
    · have hf := pv_gp hf q4
      refine EV.weak (L2 := [some (.inr (.inr (0))), none, none, none, none]) (And.intro rfl trivial) ?_
      exact tX9_cell_18 hd    hf
    · have hf := pv_gn hf q4
      refine EV.iload_n dX9_cell_13 rfl rfl ?_
      refine EV.iconst dX9_cell_14 (by decide) (by decide) ?_
      refine EV.icmp_lt (tgt := 25) dX9_cell_15 (by decide) (fun q5 => ?_) (fun q5 => ?_)
      · have hf := pv_gp hf q5
        refine EV.aload_n dX9_cell_25 rfl rfl ?_
        refine FV.getF (v := 20) dX9_cell_26 sc_0 fl_9_19 rfl rfl hvc_0_1 ?_
        refine FV.getF (v := 21) dX9_cell_29 sc_20 fl_9_94 rfl rfl hvc_20_2 ?_
        refine EV.iload_n dX9_cell_32 rfl rfl ?_
        obtain ⟨g6, hf⟩ := pv_gd hf
        obtain ⟨x7, ex7, hf⟩ := pv_bo hf
        have mx7 : x7 ∈ pv_l5 := ex7 ▸ mq_21 _ (by omega)
        refine FV.aald (a := 0) (v := x7) dX9_cell_33 sc_21 (by decide) g6.1 g6.2 (j := (Int.toNat (a1))) rfl rfl (by rw [hq_21 _ (by omega), ex7]) ?_
        refine FV.staw (L2 := [some (.inr (.inr (0))), some (.inl (a1)), some (.inl (a2)), some (.inl (a3)), some (.inr (.inr (x7)))]) dX9_cell_34 (Nat.le_of_ble_eq_true rfl) rfl rfl ?_
        refine EV.iload_n dX9_cell_36 rfl rfl ?_
        by_cases q0 : a3 = 0
        · have hf := pv_gp hf q0
          refine EV.tabIn (tgt := 68) dX9_cell_37 (by omega) (by omega) (by rw [q0]; rfl) (by decide) ?_
          refine EV.aload dX9_cell_68 rfl ?_
          refine FV.getF (v := x7 + 1) dX9_cell_70 (sl5_0 _ mx7) fl_9_153 rfl (mu5_0 _ mx7 _) (hl5_0_2 _ mx7) ?_
          refine EV.iload_n dX9_cell_73 rfl rfl ?_
          obtain ⟨g9, hf⟩ := pv_gd hf
          refine FV.iald dX9_cell_74 (sl5_1 _ mx7) g9.1 g9.2 (j := (Int.toNat (a2))) rfl ?_
          exact FV.iret dX9_cell_75 hf
        · have hf := pv_gn hf q0
          by_cases q1 : a3 = 1
          · have hf := pv_gp hf q1
            refine EV.tabIn (tgt := 76) dX9_cell_37 (by omega) (by omega) (by rw [q1]; rfl) (by decide) ?_
            refine EV.aload dX9_cell_76 rfl ?_
            refine FV.getF (v := x7 + 2) dX9_cell_78 (sl5_0 _ mx7) fl_9_156 rfl (mu5_0 _ mx7 _) (hl5_0_3 _ mx7) ?_
            refine EV.iload_n dX9_cell_81 rfl rfl ?_
            obtain ⟨g10, hf⟩ := pv_gd hf
            refine FV.iald dX9_cell_82 (sl5_2 _ mx7) g10.1 g10.2 (j := (Int.toNat (a2))) rfl ?_
            exact FV.iret dX9_cell_83 hf
          · have hf := pv_gn hf q1
            by_cases q2 : a3 = 2
            · have hf := pv_gp hf q2
              refine EV.tabIn (tgt := 84) dX9_cell_37 (by omega) (by omega) (by rw [q2]; rfl) (by decide) ?_
              refine EV.aload dX9_cell_84 rfl ?_
              refine FV.getF (v := x7 + 3) dX9_cell_86 (sl5_0 _ mx7) fl_9_159 rfl (mu5_0 _ mx7 _) (hl5_0_4 _ mx7) ?_
              refine EV.iload_n dX9_cell_89 rfl rfl ?_
              obtain ⟨g11, hf⟩ := pv_gd hf
              refine FV.iald dX9_cell_90 (sl5_3 _ mx7) g11.1 g11.2 (j := (Int.toNat (a2))) rfl ?_
              exact FV.iret dX9_cell_91 hf
            · have hf := pv_gn hf q2
              by_cases q3 : a3 = 3
              · have hf := pv_gp hf q3
                refine EV.tabIn (tgt := 92) dX9_cell_37 (by omega) (by omega) (by rw [q3]; rfl) (by decide) ?_
                refine EV.aload dX9_cell_92 rfl ?_
                refine FV.getF (v := x7 + 4) dX9_cell_94 (sl5_0 _ mx7) fl_9_162 rfl (mu5_0 _ mx7 _) (hl5_0_5 _ mx7) ?_
                refine EV.iload_n dX9_cell_97 rfl rfl ?_
                obtain ⟨g12, hf⟩ := pv_gd hf
                refine FV.iald dX9_cell_98 (sl5_4 _ mx7) g12.1 g12.2 (j := (Int.toNat (a2))) rfl ?_
                exact FV.iret dX9_cell_99 hf
              · have hf := pv_gn hf q3
                refine EV.tabOut (tgt := 100) dX9_cell_37 (by omega) (by decide) ?_
                refine EV.aload dX9_cell_100 rfl ?_
                refine FV.getF (v := x7 + 5) dX9_cell_102 (sl5_0 _ mx7) fl_9_165 rfl (mu5_0 _ mx7 _) (hl5_0_6 _ mx7) ?_
                refine EV.iload_n dX9_cell_105 rfl rfl ?_
                obtain ⟨g8, hf⟩ := pv_gd hf
                refine FV.iald dX9_cell_106 (sl5_5 _ mx7) g8.1 g8.2 (j := (Int.toNat (a2))) rfl ?_
                exact FV.iret dX9_cell_107 hf
      · have hf := pv_gn hf q5
        refine EV.weak (L2 := [some (.inr (.inr (0))), none, none, none, none]) (And.intro rfl trivial) ?_
        exact tX9_cell_18 hd    hf

noncomputable def fX9_strength (N : Nat) (a1 : Int) (a2 : Int) (a3 : Int) (h : pv_H) : Option (pv_H × Int) :=
  pv_c1 (fX9_hasCell N a1 a2 h) fun r2 => if r2 = 0 then (pv_c2b (fX9_refuse N (-2) h) fun h10 r11 => some (h10, r11)) else (if 0 ≤ a1 ∧ a1 < 4 then (pv_b (35 + 6 * (Int.toNat (a1))) fun x5 => pv_c1 (fX5_drawStrengths N x5 a3 105 h) fun h7 => if 0 ≤ a2 ∧ a2 < 60 then (some (h7, h7 105 (Int.toNat (a2)))) else none) else none)

set_option maxHeartbeats 4000000 in
set_option maxRecDepth 20000 in
theorem tX9_strength {d N : Nat} {a1 : Int} {a2 : Int} {a3 : Int} {h h' : pv_H} {r : Int} (hd : 3 ≤ d)  (hf : fX9_strength N a1 a2 a3 h = some (h', r)) : CALL yX9_strength cX9_strength 4 (some .int) d pv_SC (MC h) [.inr (.inr (0)), .inl (a1), .inl (a2), .inl (a3)] pv_SC (MC h') (some (.inl r)) := by
  unfold fX9_strength at hf
  refine EV.call (own := RX9) (ini := false) rfl rfl (fun q => by cases q) ⟨[], (List.append_nil _).symm⟩ (Nat.le_of_ble_eq_true rfl) ?_
  refine EV.eqL (L2 := [some (.inr (.inr (0))), some (.inl (a1)), some (.inl (a2)), some (.inl (a3))]) rfl ?_
  refine EV.aload_n dX9_strength_0 rfl rfl ?_
  refine EV.iload_n dX9_strength_1 rfl rfl ?_
  refine EV.iload_n dX9_strength_2 rfl rfl ?_
  obtain ⟨r2, hc1, hf⟩ := pv_c1o hf
  refine EV.invV (As := [.inl (a1), .inl (a2)]) (st := []) (d1 := d - 1) (sh1 := pv_SC) (h1 := MC h) (r1 := (some (.inl r2))) dX9_strength_3 sc_0 (by decide) md_X9_hasCell ml_X9_150 im_X9_hasCell se_X9_hasCell (tX9_hasCell (by omega)  hc1) (by omega) rfl rfl (Nat.le_of_ble_eq_true rfl) ⟨[], (List.append_nil _).symm⟩ ?_
  refine EV.eqS (st2 := [.inl (r2)]) rfl ?_
  refine EV.if_ne (tgt := 16) dX9_strength_6 (by decide) (fun q3 => ?_) (fun q3 => ?_)
  · have hf := pv_gn hf q3
    refine EV.aload_n dX9_strength_16 rfl rfl ?_
    refine FV.getF (v := 20) dX9_strength_17 sc_0 fl_9_19 rfl rfl hvc_0_1 ?_
    refine FV.getF (v := 21) dX9_strength_20 sc_20 fl_9_94 rfl rfl hvc_20_2 ?_
    refine EV.iload_n dX9_strength_23 rfl rfl ?_
    obtain ⟨g4, hf⟩ := pv_gd hf
    obtain ⟨x5, ex5, hf⟩ := pv_bo hf
    have mx5 : x5 ∈ pv_l5 := ex5 ▸ mq_21 _ (by omega)
    refine FV.aald (a := 0) (v := x5) dX9_strength_24 sc_21 (by decide) g4.1 g4.2 (j := (Int.toNat (a1))) rfl rfl (by rw [hq_21 _ (by omega), ex5]) ?_
    refine EV.iload_n dX9_strength_25 rfl rfl ?_
    refine EV.aload_n dX9_strength_26 rfl rfl ?_
    refine FV.getF (v := 105) dX9_strength_27 sc_0 fl_9_51 rfl rfl hvc_0_7 ?_
    obtain ⟨h7, hc6, hf⟩ := pv_c1o hf
    refine EV.invV (As := [.inl (a3), .inr (.inr (105))]) (st := []) (d1 := d - 1) (sh1 := pv_SC) (h1 := MC h7) (r1 := none) dX9_strength_30 (sl5_0 _ mx5) (by decide) md_X5_drawStrengths ml_X9_168 im_X5_drawStrengths se_X5_drawStrengths (tX5_drawStrengths (by omega) (mx5) (sc_105) hc6) (by omega) rfl rfl (Nat.le_of_ble_eq_true rfl) ⟨[], (List.append_nil _).symm⟩ ?_
    refine EV.aload_n dX9_strength_33 rfl rfl ?_
    refine FV.getF (v := 105) dX9_strength_34 sc_0 fl_9_51 rfl rfl hvc_0_7 ?_
    refine EV.iload_n dX9_strength_37 rfl rfl ?_
    obtain ⟨g8, hf⟩ := pv_gd hf
    refine FV.iald dX9_strength_38 sc_105 g8.1 g8.2 (j := (Int.toNat (a2))) rfl ?_
    exact FV.iret dX9_strength_39 hf
  · have hf := pv_gp hf q3
    refine EV.aload_n dX9_strength_9 rfl rfl ?_
    refine EV.bipush dX9_strength_10 (by decide) (by decide) ?_
    obtain ⟨h10, r11, hc9, hf⟩ := pv_c2o hf
    refine EV.invV (As := [.inl (-2)]) (st := []) (d1 := d - 1) (sh1 := pv_SC) (h1 := MC h10) (r1 := (some (.inl r11))) dX9_strength_12 sc_0 (by decide) md_X9_refuse ml_X9_59 im_X9_refuse se_X9_refuse (tX9_refuse (by omega)  hc9) (by omega) rfl rfl (Nat.le_of_ble_eq_true rfl) ⟨[], (List.append_nil _).symm⟩ ?_
    refine EV.eqS (st2 := [.inl (r11)]) rfl ?_
    exact FV.iret dX9_strength_15 hf

noncomputable def fX9_hasDoings_14 (N : Nat)  (a0 : Int) (s0 : Int) (h : pv_H) : Option (Int) :=
  if s0 = 0 ∨ s0 = 1 then (some (s0)) else none

noncomputable def fX9_hasDoings_13 (N : Nat)  (a0 : Int)  (h : pv_H) : Option (Int) :=
  fX9_hasDoings_14 N  a0 (0) h

noncomputable def fX9_hasDoings (N : Nat) (a0 : Int) (h : pv_H) : Option (Int) :=
  if a0 < 0 then (fX9_hasDoings_13 N  a0  h) else (if 4 ≤ a0 then (fX9_hasDoings_13 N  a0  h) else (fX9_hasDoings_14 N  a0 (1) h))

set_option maxHeartbeats 4000000 in
set_option maxRecDepth 20000 in
theorem tX9_hasDoings_14 {d N : Nat}  {a0 : Int} {s0 : Int} {h : pv_H} {r : Int} (hd : 1 ≤ d)    (hf : fX9_hasDoings_14 N  a0 s0 h = some r) : EV RX9 cX9_hasDoings 1 (some .boolean) false d pv_SC (MC h) (some (.inl r)) 14 [none] [.inl (s0)] pv_SC (MC h) := by
  unfold fX9_hasDoings_14 at hf
  obtain ⟨g3, hf⟩ := pv_gd hf
  exact FV.zretp dX9_hasDoings_14 g3 hf

set_option maxHeartbeats 4000000 in
set_option maxRecDepth 20000 in
theorem tX9_hasDoings_13 {d N : Nat}  {a0 : Int}  {h : pv_H} {r : Int} (hd : 1 ≤ d)    (hf : fX9_hasDoings_13 N  a0  h = some r) : EV RX9 cX9_hasDoings 1 (some .boolean) false d pv_SC (MC h) (some (.inl r)) 13 [none] [] pv_SC (MC h) := by
  unfold fX9_hasDoings_13 at hf
  refine EV.iconst dX9_hasDoings_13 (by decide) (by decide) ?_
  refine EV.weak (L2 := [none]) trivial ?_
  exact tX9_hasDoings_14 hd    hf

set_option maxHeartbeats 4000000 in
set_option maxRecDepth 20000 in
theorem tX9_hasDoings {d N : Nat} {a0 : Int} {h : pv_H} {r : Int} (hd : 1 ≤ d)  (hf : fX9_hasDoings N a0 h = some r) : CALL yX9_hasDoings cX9_hasDoings 1 (some .boolean) d pv_SC (MC h) [.inl (a0)] pv_SC (MC h) (some (.inl r)) := by
  unfold fX9_hasDoings at hf
  refine EV.call (own := RX9) (ini := false) rfl rfl (fun q => by cases q) ⟨[], (List.append_nil _).symm⟩ (Nat.le_of_ble_eq_true rfl) ?_
  refine EV.eqL (L2 := [some (.inl (a0))]) rfl ?_
  refine EV.iload_n dX9_hasDoings_0 rfl rfl ?_
  refine EV.if_lt (tgt := 13) dX9_hasDoings_1 (by decide) (fun q1 => ?_) (fun q1 => ?_)
  · have hf := pv_gp hf q1
    refine EV.weak (L2 := [none]) trivial ?_
    exact tX9_hasDoings_13 hd    hf
  · have hf := pv_gn hf q1
    refine EV.iload_n dX9_hasDoings_4 rfl rfl ?_
    refine EV.iconst dX9_hasDoings_5 (by decide) (by decide) ?_
    refine EV.icmp_ge (tgt := 13) dX9_hasDoings_6 (by decide) (fun q2 => ?_) (fun q2 => ?_)
    · have hf := pv_gp hf q2
      refine EV.weak (L2 := [none]) trivial ?_
      exact tX9_hasDoings_13 hd    hf
    · have hf := pv_gn hf q2
      refine EV.iconst dX9_hasDoings_9 (by decide) (by decide) ?_
      refine EV.goto (tgt := 14) dX9_hasDoings_10 (by decide) ?_
      refine EV.weak (L2 := [none]) trivial ?_
      exact tX9_hasDoings_14 hd    hf

noncomputable def fX9_bent_25 (N : Nat)  (a1 : Int) (a2 : Int) (a3 : Int)  (h : pv_H) : Option (pv_H × Int) :=
  pv_c2b (fX9_refuse N (-3) h) fun h19 r20 => some (h19, r20)

noncomputable def fX9_bent_71 (N : Nat)  (a1 : Int) (a2 : Int) (a3 : Int) (s0 : Int) (h : pv_H) : Option (pv_H × Int) :=
  some (h, s0)

noncomputable def fX9_bent (N : Nat) (a1 : Int) (a2 : Int) (a3 : Int) (h : pv_H) : Option (pv_H × Int) :=
  pv_c1 (fX9_hasDoings N a1 h) fun r2 => if r2 = 0 then (pv_c2b (fX9_refuse N (-2) h) fun h16 r17 => some (h16, r17)) else (if a2 < 0 then (fX9_bent_25 N  a1 a2 a3  h) else (if a2 < 4000 then (if a3 = 0 then (if 0 ≤ a1 ∧ a1 < 4 then (pv_b (59 + 4 * (Int.toNat (a1))) fun x8 => pv_c1 (fX0_bendBehind N x8 (pv_w (a2 + 1)) 1 h) fun r10 => fX9_bent_71 N  a1 a2 a3 (r10) h) else none) else (if 0 ≤ a1 ∧ a1 < 4 then (pv_b (59 + 4 * (Int.toNat (a1))) fun x12 => pv_c1 (fX0_turnBehind N x12 (pv_w (a2 + 1)) 1 h) fun r14 => fX9_bent_71 N  a1 a2 a3 (r14) h) else none)) else (fX9_bent_25 N  a1 a2 a3  h)))

set_option maxHeartbeats 4000000 in
set_option maxRecDepth 20000 in
theorem tX9_bent_25 {d N : Nat}  {a1 : Int} {a2 : Int} {a3 : Int}  {h h' : pv_H} {r : Int} (hd : 4 ≤ d)    (hf : fX9_bent_25 N  a1 a2 a3  h = some (h', r)) : EV RX9 cX9_bent 4 (some .int) false d pv_SC (MC h') (some (.inl r)) 25 [some (.inr (.inr (0))), none, none, none] [] pv_SC (MC h) := by
  unfold fX9_bent_25 at hf
  refine EV.aload_n dX9_bent_25 rfl rfl ?_
  refine EV.bipush dX9_bent_26 (by decide) (by decide) ?_
  obtain ⟨h19, r20, hc18, hf⟩ := pv_c2o hf
  refine EV.invV (As := [.inl (-3)]) (st := []) (d1 := d - 1) (sh1 := pv_SC) (h1 := MC h19) (r1 := (some (.inl r20))) dX9_bent_28 sc_0 (by decide) md_X9_refuse ml_X9_59 im_X9_refuse se_X9_refuse (tX9_refuse (by omega)  hc18) (by omega) rfl rfl (Nat.le_of_ble_eq_true rfl) ⟨[], (List.append_nil _).symm⟩ ?_
  refine EV.eqS (st2 := [.inl (r20)]) rfl ?_
  exact FV.iret dX9_bent_31 hf

set_option maxHeartbeats 4000000 in
set_option maxRecDepth 20000 in
theorem tX9_bent_71 {d N : Nat}  {a1 : Int} {a2 : Int} {a3 : Int} {s0 : Int} {h h' : pv_H} {r : Int} (hd : 4 ≤ d)    (hf : fX9_bent_71 N  a1 a2 a3 s0 h = some (h', r)) : EV RX9 cX9_bent 4 (some .int) false d pv_SC (MC h') (some (.inl r)) 71 [none, none, none, none] [.inl (s0)] pv_SC (MC h) := by
  unfold fX9_bent_71 at hf
  exact FV.iret dX9_bent_71 hf

set_option maxHeartbeats 4000000 in
set_option maxRecDepth 20000 in
theorem tX9_bent {d N : Nat} {a1 : Int} {a2 : Int} {a3 : Int} {h h' : pv_H} {r : Int} (hd : 4 ≤ d)  (hf : fX9_bent N a1 a2 a3 h = some (h', r)) : CALL yX9_bent cX9_bent 4 (some .int) d pv_SC (MC h) [.inr (.inr (0)), .inl (a1), .inl (a2), .inl (a3)] pv_SC (MC h') (some (.inl r)) := by
  unfold fX9_bent at hf
  refine EV.call (own := RX9) (ini := false) rfl rfl (fun q => by cases q) ⟨[], (List.append_nil _).symm⟩ (Nat.le_of_ble_eq_true rfl) ?_
  refine EV.eqL (L2 := [some (.inr (.inr (0))), some (.inl (a1)), some (.inl (a2)), some (.inl (a3))]) rfl ?_
  refine EV.iload_n dX9_bent_0 rfl rfl ?_
  obtain ⟨r2, hc1, hf⟩ := pv_c1o hf
  refine EV.invS (As := [.inl (a1)]) (st := []) (d1 := d - 1) (sh1 := pv_SC) (h1 := MC h) (r1 := (some (.inl r2))) dX9_bent_1 md_X9_hasDoings ml_X9_172 st_X9_hasDoings (tX9_hasDoings (by omega)  hc1) (by omega) rfl rfl (Nat.le_of_ble_eq_true rfl) ⟨[], (List.append_nil _).symm⟩ ?_
  refine EV.eqS (st2 := [.inl (r2)]) rfl ?_
  refine EV.if_ne (tgt := 14) dX9_bent_4 (by decide) (fun q3 => ?_) (fun q3 => ?_)
  · have hf := pv_gn hf q3
    refine EV.iload_n dX9_bent_14 rfl rfl ?_
    refine EV.if_lt (tgt := 25) dX9_bent_15 (by decide) (fun q4 => ?_) (fun q4 => ?_)
    · have hf := pv_gp hf q4
      refine EV.weak (L2 := [some (.inr (.inr (0))), none, none, none]) (And.intro rfl trivial) ?_
      exact tX9_bent_25 hd    hf
    · have hf := pv_gn hf q4
      refine EV.iload_n dX9_bent_18 rfl rfl ?_
      refine EV.sipush dX9_bent_19 (by decide) (by decide) ?_
      refine EV.icmp_lt (tgt := 32) dX9_bent_22 (by decide) (fun q5 => ?_) (fun q5 => ?_)
      · have hf := pv_gp hf q5
        refine EV.iload_n dX9_bent_32 rfl rfl ?_
        refine EV.if_eq (tgt := 55) dX9_bent_33 (by decide) (fun q6 => ?_) (fun q6 => ?_)
        · have hf := pv_gp hf q6
          refine EV.aload_n dX9_bent_55 rfl rfl ?_
          refine FV.getF (v := 20) dX9_bent_56 sc_0 fl_9_19 rfl rfl hvc_0_1 ?_
          refine FV.getF (v := 22) dX9_bent_59 sc_20 fl_9_105 rfl rfl hvc_20_3 ?_
          refine EV.iload_n dX9_bent_62 rfl rfl ?_
          obtain ⟨g7, hf⟩ := pv_gd hf
          obtain ⟨x8, ex8, hf⟩ := pv_bo hf
          have mx8 : x8 ∈ pv_l0 := ex8 ▸ mq_22 _ (by omega)
          refine FV.aald (a := 1) (v := x8) dX9_bent_63 sc_22 (by decide) g7.1 g7.2 (j := (Int.toNat (a1))) rfl rfl (by rw [hq_22 _ (by omega), ex8]) ?_
          refine EV.iload_n dX9_bent_64 rfl rfl ?_
          refine EV.iconst dX9_bent_65 (by decide) (by decide) ?_
          refine EV.iadd dX9_bent_66 ?_
          refine EV.iconst dX9_bent_67 (by decide) (by decide) ?_
          obtain ⟨r10, hc9, hf⟩ := pv_c1o hf
          refine EV.invV (As := [.inl (pv_w (a2 + 1)), .inl (1)]) (st := []) (d1 := d - 1) (sh1 := pv_SC) (h1 := MC h) (r1 := (some (.inl r10))) dX9_bent_68 (sl0_0 _ mx8) (by decide) md_X0_bendBehind ml_X9_179 im_X0_bendBehind se_X0_bendBehind (tX0_bendBehind (by omega) (mx8) hc9) (by omega) rfl rfl (Nat.le_of_ble_eq_true rfl) ⟨[], (List.append_nil _).symm⟩ ?_
          refine EV.eqS (st2 := [.inl (r10)]) rfl ?_
          refine EV.weak (L2 := [none, none, none, none]) trivial ?_
          exact tX9_bent_71 hd    hf
        · have hf := pv_gn hf q6
          refine EV.aload_n dX9_bent_36 rfl rfl ?_
          refine FV.getF (v := 20) dX9_bent_37 sc_0 fl_9_19 rfl rfl hvc_0_1 ?_
          refine FV.getF (v := 22) dX9_bent_40 sc_20 fl_9_105 rfl rfl hvc_20_3 ?_
          refine EV.iload_n dX9_bent_43 rfl rfl ?_
          obtain ⟨g11, hf⟩ := pv_gd hf
          obtain ⟨x12, ex12, hf⟩ := pv_bo hf
          have mx12 : x12 ∈ pv_l0 := ex12 ▸ mq_22 _ (by omega)
          refine FV.aald (a := 1) (v := x12) dX9_bent_44 sc_22 (by decide) g11.1 g11.2 (j := (Int.toNat (a1))) rfl rfl (by rw [hq_22 _ (by omega), ex12]) ?_
          refine EV.iload_n dX9_bent_45 rfl rfl ?_
          refine EV.iconst dX9_bent_46 (by decide) (by decide) ?_
          refine EV.iadd dX9_bent_47 ?_
          refine EV.iconst dX9_bent_48 (by decide) (by decide) ?_
          obtain ⟨r14, hc13, hf⟩ := pv_c1o hf
          refine EV.invV (As := [.inl (pv_w (a2 + 1)), .inl (1)]) (st := []) (d1 := d - 1) (sh1 := pv_SC) (h1 := MC h) (r1 := (some (.inl r14))) dX9_bent_49 (sl0_0 _ mx12) (by decide) md_X0_turnBehind ml_X9_175 im_X0_turnBehind se_X0_turnBehind (tX0_turnBehind (by omega) (mx12) hc13) (by omega) rfl rfl (Nat.le_of_ble_eq_true rfl) ⟨[], (List.append_nil _).symm⟩ ?_
          refine EV.eqS (st2 := [.inl (r14)]) rfl ?_
          refine EV.goto (tgt := 71) dX9_bent_52 (by decide) ?_
          refine EV.weak (L2 := [none, none, none, none]) trivial ?_
          exact tX9_bent_71 hd    hf
      · have hf := pv_gn hf q5
        refine EV.weak (L2 := [some (.inr (.inr (0))), none, none, none]) (And.intro rfl trivial) ?_
        exact tX9_bent_25 hd    hf
  · have hf := pv_gp hf q3
    refine EV.aload_n dX9_bent_7 rfl rfl ?_
    refine EV.bipush dX9_bent_8 (by decide) (by decide) ?_
    obtain ⟨h16, r17, hc15, hf⟩ := pv_c2o hf
    refine EV.invV (As := [.inl (-2)]) (st := []) (d1 := d - 1) (sh1 := pv_SC) (h1 := MC h16) (r1 := (some (.inl r17))) dX9_bent_10 sc_0 (by decide) md_X9_refuse ml_X9_59 im_X9_refuse se_X9_refuse (tX9_refuse (by omega)  hc15) (by omega) rfl rfl (Nat.le_of_ble_eq_true rfl) ⟨[], (List.append_nil _).symm⟩ ?_
    refine EV.eqS (st2 := [.inl (r17)]) rfl ?_
    exact FV.iret dX9_bent_13 hf

noncomputable def fX9_go_15 (N : Nat)  (a1 : Int) (a2 : Int) (a3 : Int)  (h : pv_H) : Option (pv_H × Int) :=
  pv_c2b (fX9_refuse N (-2) h) fun h18 r19 => some (h18, r19)

noncomputable def fX9_go (N : Nat) (a1 : Int) (a2 : Int) (a3 : Int) (h : pv_H) : Option (pv_H × Int) :=
  pv_c1 (fX9_hasRod N a1 h) fun r2 => if r2 = 0 then (fX9_go_15 N  a1 a2 a3  h) else (pv_c1 (fX9_hasDoings N a2 h) fun r5 => if r5 = 0 then (fX9_go_15 N  a1 a2 a3  h) else (if 0 ≤ a1 ∧ a1 < 4 then (pv_b (35 + 6 * (Int.toNat (a1))) fun x8 => if 0 ≤ a2 ∧ a2 < 4 then (pv_b (59 + 4 * (Int.toNat (a2))) fun x10 => pv_c2b (fX1_breakRod N x8 x10 23 a3 h) fun h12 r13 => pv_c1 (fX7_copyFrom N 30 79 h12) fun h15 => pv_b (pv_up h15 20 1 1) fun h16 => some (h16, r13)) else none) else none))

set_option maxHeartbeats 4000000 in
set_option maxRecDepth 20000 in
theorem tX9_go_15 {d N : Nat}  {a1 : Int} {a2 : Int} {a3 : Int}  {h h' : pv_H} {r : Int} (hd : 7 ≤ d)    (hf : fX9_go_15 N  a1 a2 a3  h = some (h', r)) : EV RX9 cX9_go 5 (some .int) false d pv_SC (MC h') (some (.inl r)) 15 [some (.inr (.inr (0))), none, none, none, none] [] pv_SC (MC h) := by
  unfold fX9_go_15 at hf
  refine EV.aload_n dX9_go_15 rfl rfl ?_
  refine EV.bipush dX9_go_16 (by decide) (by decide) ?_
  obtain ⟨h18, r19, hc17, hf⟩ := pv_c2o hf
  refine EV.invV (As := [.inl (-2)]) (st := []) (d1 := d - 1) (sh1 := pv_SC) (h1 := MC h18) (r1 := (some (.inl r19))) dX9_go_18 sc_0 (by decide) md_X9_refuse ml_X9_59 im_X9_refuse se_X9_refuse (tX9_refuse (by omega)  hc17) (by omega) rfl rfl (Nat.le_of_ble_eq_true rfl) ⟨[], (List.append_nil _).symm⟩ ?_
  refine EV.eqS (st2 := [.inl (r19)]) rfl ?_
  exact FV.iret dX9_go_21 hf

set_option maxHeartbeats 4000000 in
set_option maxRecDepth 20000 in
theorem tX9_go {d N : Nat} {a1 : Int} {a2 : Int} {a3 : Int} {h h' : pv_H} {r : Int} (hd : 7 ≤ d)  (hf : fX9_go N a1 a2 a3 h = some (h', r)) : CALL yX9_go cX9_go 5 (some .int) d pv_SC (MC h) [.inr (.inr (0)), .inl (a1), .inl (a2), .inl (a3)] pv_SC (MC h') (some (.inl r)) := by
  unfold fX9_go at hf
  refine EV.call (own := RX9) (ini := false) rfl rfl (fun q => by cases q) ⟨[], (List.append_nil _).symm⟩ (Nat.le_of_ble_eq_true rfl) ?_
  refine EV.eqL (L2 := [some (.inr (.inr (0))), some (.inl (a1)), some (.inl (a2)), some (.inl (a3)), none]) rfl ?_
  refine EV.aload_n dX9_go_0 rfl rfl ?_
  refine EV.iload_n dX9_go_1 rfl rfl ?_
  obtain ⟨r2, hc1, hf⟩ := pv_c1o hf
  refine EV.invV (As := [.inl (a1)]) (st := []) (d1 := d - 1) (sh1 := pv_SC) (h1 := MC h) (r1 := (some (.inl r2))) dX9_go_2 sc_0 (by decide) md_X9_hasRod ml_X9_140 im_X9_hasRod se_X9_hasRod (tX9_hasRod (by omega)  hc1) (by omega) rfl rfl (Nat.le_of_ble_eq_true rfl) ⟨[], (List.append_nil _).symm⟩ ?_
  refine EV.eqS (st2 := [.inl (r2)]) rfl ?_
  refine EV.if_eq (tgt := 15) dX9_go_5 (by decide) (fun q3 => ?_) (fun q3 => ?_)
  · have hf := pv_gp hf q3
    refine EV.weak (L2 := [some (.inr (.inr (0))), none, none, none, none]) (And.intro rfl trivial) ?_
    exact tX9_go_15 hd    hf
  · have hf := pv_gn hf q3
    refine EV.iload_n dX9_go_8 rfl rfl ?_
    obtain ⟨r5, hc4, hf⟩ := pv_c1o hf
    refine EV.invS (As := [.inl (a2)]) (st := []) (d1 := d - 1) (sh1 := pv_SC) (h1 := MC h) (r1 := (some (.inl r5))) dX9_go_9 md_X9_hasDoings ml_X9_172 st_X9_hasDoings (tX9_hasDoings (by omega)  hc4) (by omega) rfl rfl (Nat.le_of_ble_eq_true rfl) ⟨[], (List.append_nil _).symm⟩ ?_
    refine EV.eqS (st2 := [.inl (r5)]) rfl ?_
    refine EV.if_ne (tgt := 22) dX9_go_12 (by decide) (fun q6 => ?_) (fun q6 => ?_)
    · have hf := pv_gn hf q6
      refine EV.aload_n dX9_go_22 rfl rfl ?_
      refine FV.getF (v := 78) dX9_go_23 sc_0 fl_9_40 rfl rfl hvc_0_5 ?_
      refine EV.aload_n dX9_go_26 rfl rfl ?_
      refine FV.getF (v := 20) dX9_go_27 sc_0 fl_9_19 rfl rfl hvc_0_1 ?_
      refine FV.getF (v := 21) dX9_go_30 sc_20 fl_9_94 rfl rfl hvc_20_2 ?_
      refine EV.iload_n dX9_go_33 rfl rfl ?_
      obtain ⟨g7, hf⟩ := pv_gd hf
      obtain ⟨x8, ex8, hf⟩ := pv_bo hf
      have mx8 : x8 ∈ pv_l5 := ex8 ▸ mq_21 _ (by omega)
      refine FV.aald (a := 0) (v := x8) dX9_go_34 sc_21 (by decide) g7.1 g7.2 (j := (Int.toNat (a1))) rfl rfl (by rw [hq_21 _ (by omega), ex8]) ?_
      refine EV.aload_n dX9_go_35 rfl rfl ?_
      refine FV.getF (v := 20) dX9_go_36 sc_0 fl_9_19 rfl rfl hvc_0_1 ?_
      refine FV.getF (v := 22) dX9_go_39 sc_20 fl_9_105 rfl rfl hvc_20_3 ?_
      refine EV.iload_n dX9_go_42 rfl rfl ?_
      obtain ⟨g9, hf⟩ := pv_gd hf
      obtain ⟨x10, ex10, hf⟩ := pv_bo hf
      have mx10 : x10 ∈ pv_l0 := ex10 ▸ mq_22 _ (by omega)
      refine FV.aald (a := 1) (v := x10) dX9_go_43 sc_22 (by decide) g9.1 g9.2 (j := (Int.toNat (a2))) rfl rfl (by rw [hq_22 _ (by omega), ex10]) ?_
      refine EV.aload_n dX9_go_44 rfl rfl ?_
      refine FV.getF (v := 20) dX9_go_45 sc_0 fl_9_19 rfl rfl hvc_0_1 ?_
      refine FV.getF (v := 23) dX9_go_48 sc_20 fl_9_117 rfl rfl hvc_20_4 ?_
      refine EV.iload_n dX9_go_51 rfl rfl ?_
      obtain ⟨h12, r13, hc11, hf⟩ := pv_c2o hf
      refine EV.invV (As := [.inr (.inr (x8)), .inr (.inr (x10)), .inr (.inr (23)), .inl (a3)]) (st := []) (d1 := d - 1) (sh1 := pv_SC) (h1 := MC h12) (r1 := (some (.inl r13))) dX9_go_52 sc_78 (by decide) md_X1_breakRod ml_X9_182 im_X1_breakRod se_X1_breakRod (tX1_breakRod (by omega) (mx8) (mx10) ((by decide : 23 ∈ pv_l2)) hc11) (by omega) rfl rfl (Nat.le_of_ble_eq_true rfl) ⟨[], (List.append_nil _).symm⟩ ?_
      refine EV.eqS (st2 := [.inl (r13)]) rfl ?_
      refine FV.stiw (L2 := [some (.inr (.inr (0))), some (.inl (a1)), some (.inl (a2)), some (.inl (a3)), some (.inl (r13))]) dX9_go_55 (Nat.le_of_ble_eq_true rfl) rfl rfl ?_
      refine EV.aload_n dX9_go_57 rfl rfl ?_
      refine FV.getF (v := 20) dX9_go_58 sc_0 fl_9_19 rfl rfl hvc_0_1 ?_
      refine FV.getF (v := 30) dX9_go_61 sc_20 fl_9_186 rfl rfl hvc_20_6 ?_
      refine EV.aload_n dX9_go_64 rfl rfl ?_
      refine FV.getF (v := 78) dX9_go_65 sc_0 fl_9_40 rfl rfl hvc_0_5 ?_
      refine FV.getF (v := 79) dX9_go_68 sc_78 fl_9_190 rfl rfl hvc_78_0 ?_
      obtain ⟨h15, hc14, hf⟩ := pv_c1o hf
      refine EV.invV (As := [.inr (.inr (79))]) (st := []) (d1 := d - 1) (sh1 := pv_SC) (h1 := MC h15) (r1 := none) dX9_go_71 sc_30 (by decide) md_X7_copyFrom ml_X9_193 im_X7_copyFrom se_X7_copyFrom (tX7_copyFrom (by omega) ((by decide : 30 ∈ pv_l7)) ((by decide : 79 ∈ pv_l7)) hc14) (by omega) rfl rfl (Nat.le_of_ble_eq_true rfl) ⟨[], (List.append_nil _).symm⟩ ?_
      refine EV.aload_n dX9_go_74 rfl rfl ?_
      refine FV.getF (v := 20) dX9_go_75 sc_0 fl_9_19 rfl rfl hvc_0_1 ?_
      refine EV.iconst dX9_go_78 (by decide) (by decide) ?_
      obtain ⟨h16, eh16, hf⟩ := pv_bo hf
      refine FV.putZ dX9_go_79 sc_20 fl_9_198 rfl rfl (by decide) eh16 ?_
      refine EV.iload dX9_go_82 rfl ?_
      exact FV.iret dX9_go_84 hf
    · have hf := pv_gp hf q6
      refine EV.weak (L2 := [some (.inr (.inr (0))), none, none, none, none]) (And.intro rfl trivial) ?_
      exact tX9_go_15 hd    hf

noncomputable def fX9_broke_13 (N : Nat)  (a1 : Int) (a2 : Int)  (h : pv_H) : Option (pv_H × Int) :=
  pv_c2b (fX9_refuse N (-2) h) fun h14 r15 => some (h14, r15)

noncomputable def fX9_broke (N : Nat) (a1 : Int) (a2 : Int) (h : pv_H) : Option (pv_H × Int) :=
  if a1 < 0 then (fX9_broke_13 N  a1 a2  h) else (if a2 < 0 then (fX9_broke_13 N  a1 a2  h) else (if a2 < 4 then (if (h 20 1) = 0 then (pv_c2b (fX9_refuse N (-5) h) fun h11 r12 => some (h11, r12)) else (if a1 < (h 31 0) then (if 0 ≤ pv_w ((pv_w (a2 * 60)) + a1) ∧ pv_w ((pv_w (a2 * 60)) + a1) < 240 then (some (h, h 32 (Int.toNat (pv_w ((pv_w (a2 * 60)) + a1))))) else none) else (pv_c2b (fX9_refuse N (-2) h) fun h8 r9 => some (h8, r9)))) else (fX9_broke_13 N  a1 a2  h)))

set_option maxHeartbeats 4000000 in
set_option maxRecDepth 20000 in
theorem tX9_broke_13 {d N : Nat}  {a1 : Int} {a2 : Int}  {h h' : pv_H} {r : Int} (hd : 2 ≤ d)    (hf : fX9_broke_13 N  a1 a2  h = some (h', r)) : EV RX9 cX9_broke 3 (some .int) false d pv_SC (MC h') (some (.inl r)) 13 [some (.inr (.inr (0))), none, none] [] pv_SC (MC h) := by
  unfold fX9_broke_13 at hf
  refine EV.aload_n dX9_broke_13 rfl rfl ?_
  refine EV.bipush dX9_broke_14 (by decide) (by decide) ?_
  obtain ⟨h14, r15, hc13, hf⟩ := pv_c2o hf
  refine EV.invV (As := [.inl (-2)]) (st := []) (d1 := d - 1) (sh1 := pv_SC) (h1 := MC h14) (r1 := (some (.inl r15))) dX9_broke_16 sc_0 (by decide) md_X9_refuse ml_X9_59 im_X9_refuse se_X9_refuse (tX9_refuse (by omega)  hc13) (by omega) rfl rfl (Nat.le_of_ble_eq_true rfl) ⟨[], (List.append_nil _).symm⟩ ?_
  refine EV.eqS (st2 := [.inl (r15)]) rfl ?_
  exact FV.iret dX9_broke_19 hf

set_option maxHeartbeats 4000000 in
set_option maxRecDepth 20000 in
theorem tX9_broke {d N : Nat} {a1 : Int} {a2 : Int} {h h' : pv_H} {r : Int} (hd : 2 ≤ d)  (hf : fX9_broke N a1 a2 h = some (h', r)) : CALL yX9_broke cX9_broke 3 (some .int) d pv_SC (MC h) [.inr (.inr (0)), .inl (a1), .inl (a2)] pv_SC (MC h') (some (.inl r)) := by
  unfold fX9_broke at hf
  refine EV.call (own := RX9) (ini := false) rfl rfl (fun q => by cases q) ⟨[], (List.append_nil _).symm⟩ (Nat.le_of_ble_eq_true rfl) ?_
  refine EV.eqL (L2 := [some (.inr (.inr (0))), some (.inl (a1)), some (.inl (a2))]) rfl ?_
  refine EV.iload_n dX9_broke_0 rfl rfl ?_
  refine EV.if_lt (tgt := 13) dX9_broke_1 (by decide) (fun q1 => ?_) (fun q1 => ?_)
  · have hf := pv_gp hf q1
    refine EV.weak (L2 := [some (.inr (.inr (0))), none, none]) (And.intro rfl trivial) ?_
    exact tX9_broke_13 hd    hf
  · have hf := pv_gn hf q1
    refine EV.iload_n dX9_broke_4 rfl rfl ?_
    refine EV.if_lt (tgt := 13) dX9_broke_5 (by decide) (fun q2 => ?_) (fun q2 => ?_)
    · have hf := pv_gp hf q2
      refine EV.weak (L2 := [some (.inr (.inr (0))), none, none]) (And.intro rfl trivial) ?_
      exact tX9_broke_13 hd    hf
    · have hf := pv_gn hf q2
      refine EV.iload_n dX9_broke_8 rfl rfl ?_
      refine EV.iconst dX9_broke_9 (by decide) (by decide) ?_
      refine EV.icmp_lt (tgt := 20) dX9_broke_10 (by decide) (fun q3 => ?_) (fun q3 => ?_)
      · have hf := pv_gp hf q3
        refine EV.aload_n dX9_broke_20 rfl rfl ?_
        refine FV.getF (v := 20) dX9_broke_21 sc_0 fl_9_19 rfl rfl hvc_0_1 ?_
        refine FV.getI dX9_broke_24 sc_20 fl_9_198 rfl ?_
        refine EV.if_ne (tgt := 37) dX9_broke_27 (by decide) (fun q4 => ?_) (fun q4 => ?_)
        · have hf := pv_gn hf q4
          refine EV.iload_n dX9_broke_37 rfl rfl ?_
          refine EV.aload_n dX9_broke_38 rfl rfl ?_
          refine FV.getF (v := 20) dX9_broke_39 sc_0 fl_9_19 rfl rfl hvc_0_1 ?_
          refine FV.getF (v := 30) dX9_broke_42 sc_20 fl_9_186 rfl rfl hvc_20_6 ?_
          refine FV.getF (v := 31) dX9_broke_45 sc_30 fl_9_202 rfl rfl hvc_30_1 ?_
          refine EV.iconst dX9_broke_48 (by decide) (by decide) ?_
          refine FV.iald dX9_broke_49 sc_31 (by decide) (by decide) (j := 0) rfl ?_
          refine EV.icmp_lt (tgt := 60) dX9_broke_50 (by decide) (fun q5 => ?_) (fun q5 => ?_)
          · have hf := pv_gp hf q5
            refine EV.aload_n dX9_broke_60 rfl rfl ?_
            refine FV.getF (v := 20) dX9_broke_61 sc_0 fl_9_19 rfl rfl hvc_0_1 ?_
            refine FV.getF (v := 30) dX9_broke_64 sc_20 fl_9_186 rfl rfl hvc_20_6 ?_
            refine FV.getF (v := 32) dX9_broke_67 sc_30 fl_9_205 rfl rfl hvc_30_2 ?_
            refine EV.iload_n dX9_broke_70 rfl rfl ?_
            refine EV.bipush dX9_broke_71 (by decide) (by decide) ?_
            refine EV.imul dX9_broke_73 ?_
            refine EV.iload_n dX9_broke_74 rfl rfl ?_
            refine EV.iadd dX9_broke_75 ?_
            obtain ⟨g6, hf⟩ := pv_gd hf
            refine FV.iald dX9_broke_76 sc_32 g6.1 g6.2 (j := (Int.toNat (pv_w ((pv_w (a2 * 60)) + a1)))) rfl ?_
            exact FV.iret dX9_broke_77 hf
          · have hf := pv_gn hf q5
            refine EV.aload_n dX9_broke_53 rfl rfl ?_
            refine EV.bipush dX9_broke_54 (by decide) (by decide) ?_
            obtain ⟨h8, r9, hc7, hf⟩ := pv_c2o hf
            refine EV.invV (As := [.inl (-2)]) (st := []) (d1 := d - 1) (sh1 := pv_SC) (h1 := MC h8) (r1 := (some (.inl r9))) dX9_broke_56 sc_0 (by decide) md_X9_refuse ml_X9_59 im_X9_refuse se_X9_refuse (tX9_refuse (by omega)  hc7) (by omega) rfl rfl (Nat.le_of_ble_eq_true rfl) ⟨[], (List.append_nil _).symm⟩ ?_
            refine EV.eqS (st2 := [.inl (r9)]) rfl ?_
            exact FV.iret dX9_broke_59 hf
        · have hf := pv_gp hf q4
          refine EV.aload_n dX9_broke_30 rfl rfl ?_
          refine EV.bipush dX9_broke_31 (by decide) (by decide) ?_
          obtain ⟨h11, r12, hc10, hf⟩ := pv_c2o hf
          refine EV.invV (As := [.inl (-5)]) (st := []) (d1 := d - 1) (sh1 := pv_SC) (h1 := MC h11) (r1 := (some (.inl r12))) dX9_broke_33 sc_0 (by decide) md_X9_refuse ml_X9_59 im_X9_refuse se_X9_refuse (tX9_refuse (by omega)  hc10) (by omega) rfl rfl (Nat.le_of_ble_eq_true rfl) ⟨[], (List.append_nil _).symm⟩ ?_
          refine EV.eqS (st2 := [.inl (r12)]) rfl ?_
          exact FV.iret dX9_broke_36 hf
      · have hf := pv_gn hf q3
        refine EV.weak (L2 := [some (.inr (.inr (0))), none, none]) (And.intro rfl trivial) ?_
        exact tX9_broke_13 hd    hf

noncomputable def fX9_codeForPiece_42 (N : Nat)  (a1 : Int) (s0 : Int) (h : pv_H) : Option (Int) :=
  some (s0)

noncomputable def fX9_codeForPiece (N : Nat) (a1 : Int) (h : pv_H) : Option (Int) :=
  if 0 ≤ a1 then (if (h 20 1) = 0 then (some (-5)) else (if (h 31 1) ≤ a1 then (fX9_codeForPiece_42 N  a1 (-2) h) else (fX9_codeForPiece_42 N  a1 (0) h))) else (some (-2))

set_option maxHeartbeats 4000000 in
set_option maxRecDepth 20000 in
theorem tX9_codeForPiece_42 {d N : Nat}  {a1 : Int} {s0 : Int} {h : pv_H} {r : Int} (hd : 1 ≤ d)    (hf : fX9_codeForPiece_42 N  a1 s0 h = some r) : EV RX9 cX9_codeForPiece 2 (some .int) false d pv_SC (MC h) (some (.inl r)) 42 [none, none] [.inl (s0)] pv_SC (MC h) := by
  unfold fX9_codeForPiece_42 at hf
  exact FV.iretp dX9_codeForPiece_42 hf

set_option maxHeartbeats 4000000 in
set_option maxRecDepth 20000 in
theorem tX9_codeForPiece {d N : Nat} {a1 : Int} {h : pv_H} {r : Int} (hd : 1 ≤ d)  (hf : fX9_codeForPiece N a1 h = some r) : CALL yX9_codeForPiece cX9_codeForPiece 2 (some .int) d pv_SC (MC h) [.inr (.inr (0)), .inl (a1)] pv_SC (MC h) (some (.inl r)) := by
  unfold fX9_codeForPiece at hf
  refine EV.call (own := RX9) (ini := false) rfl rfl (fun q => by cases q) ⟨[], (List.append_nil _).symm⟩ (Nat.le_of_ble_eq_true rfl) ?_
  refine EV.eqL (L2 := [some (.inr (.inr (0))), some (.inl (a1))]) rfl ?_
  refine EV.iload_n dX9_codeForPiece_0 rfl rfl ?_
  refine EV.if_ge (tgt := 7) dX9_codeForPiece_1 (by decide) (fun q1 => ?_) (fun q1 => ?_)
  · have hf := pv_gp hf q1
    refine EV.aload_n dX9_codeForPiece_7 rfl rfl ?_
    refine FV.getF (v := 20) dX9_codeForPiece_8 sc_0 fl_9_19 rfl rfl hvc_0_1 ?_
    refine FV.getI dX9_codeForPiece_11 sc_20 fl_9_198 rfl ?_
    refine EV.if_ne (tgt := 20) dX9_codeForPiece_14 (by decide) (fun q2 => ?_) (fun q2 => ?_)
    · have hf := pv_gn hf q2
      refine EV.iload_n dX9_codeForPiece_20 rfl rfl ?_
      refine EV.aload_n dX9_codeForPiece_21 rfl rfl ?_
      refine FV.getF (v := 20) dX9_codeForPiece_22 sc_0 fl_9_19 rfl rfl hvc_0_1 ?_
      refine FV.getF (v := 30) dX9_codeForPiece_25 sc_20 fl_9_186 rfl rfl hvc_20_6 ?_
      refine FV.getF (v := 31) dX9_codeForPiece_28 sc_30 fl_9_202 rfl rfl hvc_30_1 ?_
      refine EV.iconst dX9_codeForPiece_31 (by decide) (by decide) ?_
      refine FV.iald dX9_codeForPiece_32 sc_31 (by decide) (by decide) (j := 1) rfl ?_
      refine EV.icmp_ge (tgt := 40) dX9_codeForPiece_33 (by decide) (fun q3 => ?_) (fun q3 => ?_)
      · have hf := pv_gp hf q3
        refine EV.bipush dX9_codeForPiece_40 (by decide) (by decide) ?_
        refine EV.weak (L2 := [none, none]) trivial ?_
        exact tX9_codeForPiece_42 hd    hf
      · have hf := pv_gn hf q3
        refine EV.iconst dX9_codeForPiece_36 (by decide) (by decide) ?_
        refine EV.goto (tgt := 42) dX9_codeForPiece_37 (by decide) ?_
        refine EV.weak (L2 := [none, none]) trivial ?_
        exact tX9_codeForPiece_42 hd    hf
    · have hf := pv_gp hf q2
      refine EV.bipush dX9_codeForPiece_17 (by decide) (by decide) ?_
      exact FV.iretp dX9_codeForPiece_19 hf
  · have hf := pv_gn hf q1
    refine EV.bipush dX9_codeForPiece_4 (by decide) (by decide) ?_
    exact FV.iretp dX9_codeForPiece_6 hf

noncomputable def fX9_piece_30 (N : Nat)  (a1 : Int) (s0 : Int) (h : pv_H) : Option (pv_H × Int) :=
  some (h, s0)

noncomputable def fX9_piece (N : Nat) (a1 : Int) (h : pv_H) : Option (pv_H × Int) :=
  pv_c1 (fX9_codeForPiece N a1 h) fun r2 => if r2 = 0 then (if 0 ≤ a1 ∧ a1 < 60 then (fX9_piece_30 N  a1 (h 34 (Int.toNat (a1))) h) else none) else (pv_c2b (fX9_refuse N r2 h) fun h6 r7 => fX9_piece_30 N  a1 (r7) h6)

set_option maxHeartbeats 4000000 in
set_option maxRecDepth 20000 in
theorem tX9_piece_30 {d N : Nat}  {a1 : Int} {s0 : Int} {h h' : pv_H} {r : Int} (hd : 2 ≤ d)    (hf : fX9_piece_30 N  a1 s0 h = some (h', r)) : EV RX9 cX9_piece 3 (some .int) false d pv_SC (MC h') (some (.inl r)) 30 [none, none, none] [.inl (s0)] pv_SC (MC h) := by
  unfold fX9_piece_30 at hf
  exact FV.iret dX9_piece_30 hf

set_option maxHeartbeats 4000000 in
set_option maxRecDepth 20000 in
theorem tX9_piece {d N : Nat} {a1 : Int} {h h' : pv_H} {r : Int} (hd : 2 ≤ d)  (hf : fX9_piece N a1 h = some (h', r)) : CALL yX9_piece cX9_piece 3 (some .int) d pv_SC (MC h) [.inr (.inr (0)), .inl (a1)] pv_SC (MC h') (some (.inl r)) := by
  unfold fX9_piece at hf
  refine EV.call (own := RX9) (ini := false) rfl rfl (fun q => by cases q) ⟨[], (List.append_nil _).symm⟩ (Nat.le_of_ble_eq_true rfl) ?_
  refine EV.eqL (L2 := [some (.inr (.inr (0))), some (.inl (a1)), none]) rfl ?_
  refine EV.aload_n dX9_piece_0 rfl rfl ?_
  refine EV.iload_n dX9_piece_1 rfl rfl ?_
  obtain ⟨r2, hc1, hf⟩ := pv_c1o hf
  refine EV.invV (As := [.inl (a1)]) (st := []) (d1 := d - 1) (sh1 := pv_SC) (h1 := MC h) (r1 := (some (.inl r2))) dX9_piece_2 sc_0 (by decide) md_X9_codeForPiece ml_X9_208 im_X9_codeForPiece se_X9_codeForPiece (tX9_codeForPiece (by omega)  hc1) (by omega) rfl rfl (Nat.le_of_ble_eq_true rfl) ⟨[], (List.append_nil _).symm⟩ ?_
  refine EV.eqS (st2 := [.inl (r2)]) rfl ?_
  refine FV.sti (L2 := [some (.inr (.inr (0))), some (.inl (a1)), some (.inl (r2))]) dX9_piece_5 rfl (Nat.le_of_ble_eq_true rfl) rfl rfl ?_
  refine EV.iload_n dX9_piece_6 rfl rfl ?_
  refine EV.if_eq (tgt := 18) dX9_piece_7 (by decide) (fun q3 => ?_) (fun q3 => ?_)
  · have hf := pv_gp hf q3
    refine EV.aload_n dX9_piece_18 rfl rfl ?_
    refine FV.getF (v := 20) dX9_piece_19 sc_0 fl_9_19 rfl rfl hvc_0_1 ?_
    refine FV.getF (v := 30) dX9_piece_22 sc_20 fl_9_186 rfl rfl hvc_20_6 ?_
    refine FV.getF (v := 34) dX9_piece_25 sc_30 fl_9_211 rfl rfl hvc_30_4 ?_
    refine EV.iload_n dX9_piece_28 rfl rfl ?_
    obtain ⟨g4, hf⟩ := pv_gd hf
    refine FV.iald dX9_piece_29 sc_34 g4.1 g4.2 (j := (Int.toNat (a1))) rfl ?_
    refine EV.weak (L2 := [none, none, none]) trivial ?_
    exact tX9_piece_30 hd    hf
  · have hf := pv_gn hf q3
    refine EV.aload_n dX9_piece_10 rfl rfl ?_
    refine EV.iload_n dX9_piece_11 rfl rfl ?_
    obtain ⟨h6, r7, hc5, hf⟩ := pv_c2o hf
    refine EV.invV (As := [.inl (r2)]) (st := []) (d1 := d - 1) (sh1 := pv_SC) (h1 := MC h6) (r1 := (some (.inl r7))) dX9_piece_12 sc_0 (by decide) md_X9_refuse ml_X9_59 im_X9_refuse se_X9_refuse (tX9_refuse (by omega)  hc5) (by omega) rfl rfl (Nat.le_of_ble_eq_true rfl) ⟨[], (List.append_nil _).symm⟩ ?_
    refine EV.eqS (st2 := [.inl (r7)]) rfl ?_
    refine EV.goto (tgt := 30) dX9_piece_15 (by decide) ?_
    refine EV.weak (L2 := [none, none, none]) trivial ?_
    exact tX9_piece_30 hd    hf

noncomputable def fX9_wave_14 (N : Nat)  (a1 : Int) (a2 : Int)  (h : pv_H) : Option (pv_H × Int) :=
  pv_c2b (fX9_refuse N (-2) h) fun h14 r15 => some (h14, r15)

noncomputable def fX9_wave (N : Nat) (a1 : Int) (a2 : Int) (h : pv_H) : Option (pv_H × Int) :=
  if a1 < 0 then (fX9_wave_14 N  a1 a2  h) else (if a2 < 0 then (fX9_wave_14 N  a1 a2  h) else (if a2 < 6 then (if (h 20 1) = 0 then (pv_c2b (fX9_refuse N (-5) h) fun h11 r12 => some (h11, r12)) else (if a1 < (h 31 2) then (if 0 ≤ pv_w ((pv_w (a2 * 200)) + a1) ∧ pv_w ((pv_w (a2 * 200)) + a1) < 1200 then (some (h, h 33 (Int.toNat (pv_w ((pv_w (a2 * 200)) + a1))))) else none) else (pv_c2b (fX9_refuse N (-2) h) fun h8 r9 => some (h8, r9)))) else (fX9_wave_14 N  a1 a2  h)))

set_option maxHeartbeats 4000000 in
set_option maxRecDepth 20000 in
theorem tX9_wave_14 {d N : Nat}  {a1 : Int} {a2 : Int}  {h h' : pv_H} {r : Int} (hd : 2 ≤ d)    (hf : fX9_wave_14 N  a1 a2  h = some (h', r)) : EV RX9 cX9_wave 3 (some .int) false d pv_SC (MC h') (some (.inl r)) 14 [some (.inr (.inr (0))), none, none] [] pv_SC (MC h) := by
  unfold fX9_wave_14 at hf
  refine EV.aload_n dX9_wave_14 rfl rfl ?_
  refine EV.bipush dX9_wave_15 (by decide) (by decide) ?_
  obtain ⟨h14, r15, hc13, hf⟩ := pv_c2o hf
  refine EV.invV (As := [.inl (-2)]) (st := []) (d1 := d - 1) (sh1 := pv_SC) (h1 := MC h14) (r1 := (some (.inl r15))) dX9_wave_17 sc_0 (by decide) md_X9_refuse ml_X9_59 im_X9_refuse se_X9_refuse (tX9_refuse (by omega)  hc13) (by omega) rfl rfl (Nat.le_of_ble_eq_true rfl) ⟨[], (List.append_nil _).symm⟩ ?_
  refine EV.eqS (st2 := [.inl (r15)]) rfl ?_
  exact FV.iret dX9_wave_20 hf

set_option maxHeartbeats 4000000 in
set_option maxRecDepth 20000 in
theorem tX9_wave {d N : Nat} {a1 : Int} {a2 : Int} {h h' : pv_H} {r : Int} (hd : 2 ≤ d)  (hf : fX9_wave N a1 a2 h = some (h', r)) : CALL yX9_wave cX9_wave 3 (some .int) d pv_SC (MC h) [.inr (.inr (0)), .inl (a1), .inl (a2)] pv_SC (MC h') (some (.inl r)) := by
  unfold fX9_wave at hf
  refine EV.call (own := RX9) (ini := false) rfl rfl (fun q => by cases q) ⟨[], (List.append_nil _).symm⟩ (Nat.le_of_ble_eq_true rfl) ?_
  refine EV.eqL (L2 := [some (.inr (.inr (0))), some (.inl (a1)), some (.inl (a2))]) rfl ?_
  refine EV.iload_n dX9_wave_0 rfl rfl ?_
  refine EV.if_lt (tgt := 14) dX9_wave_1 (by decide) (fun q1 => ?_) (fun q1 => ?_)
  · have hf := pv_gp hf q1
    refine EV.weak (L2 := [some (.inr (.inr (0))), none, none]) (And.intro rfl trivial) ?_
    exact tX9_wave_14 hd    hf
  · have hf := pv_gn hf q1
    refine EV.iload_n dX9_wave_4 rfl rfl ?_
    refine EV.if_lt (tgt := 14) dX9_wave_5 (by decide) (fun q2 => ?_) (fun q2 => ?_)
    · have hf := pv_gp hf q2
      refine EV.weak (L2 := [some (.inr (.inr (0))), none, none]) (And.intro rfl trivial) ?_
      exact tX9_wave_14 hd    hf
    · have hf := pv_gn hf q2
      refine EV.iload_n dX9_wave_8 rfl rfl ?_
      refine EV.bipush dX9_wave_9 (by decide) (by decide) ?_
      refine EV.icmp_lt (tgt := 21) dX9_wave_11 (by decide) (fun q3 => ?_) (fun q3 => ?_)
      · have hf := pv_gp hf q3
        refine EV.aload_n dX9_wave_21 rfl rfl ?_
        refine FV.getF (v := 20) dX9_wave_22 sc_0 fl_9_19 rfl rfl hvc_0_1 ?_
        refine FV.getI dX9_wave_25 sc_20 fl_9_198 rfl ?_
        refine EV.if_ne (tgt := 38) dX9_wave_28 (by decide) (fun q4 => ?_) (fun q4 => ?_)
        · have hf := pv_gn hf q4
          refine EV.iload_n dX9_wave_38 rfl rfl ?_
          refine EV.aload_n dX9_wave_39 rfl rfl ?_
          refine FV.getF (v := 20) dX9_wave_40 sc_0 fl_9_19 rfl rfl hvc_0_1 ?_
          refine FV.getF (v := 30) dX9_wave_43 sc_20 fl_9_186 rfl rfl hvc_20_6 ?_
          refine FV.getF (v := 31) dX9_wave_46 sc_30 fl_9_202 rfl rfl hvc_30_1 ?_
          refine EV.iconst dX9_wave_49 (by decide) (by decide) ?_
          refine FV.iald dX9_wave_50 sc_31 (by decide) (by decide) (j := 2) rfl ?_
          refine EV.icmp_lt (tgt := 61) dX9_wave_51 (by decide) (fun q5 => ?_) (fun q5 => ?_)
          · have hf := pv_gp hf q5
            refine EV.aload_n dX9_wave_61 rfl rfl ?_
            refine FV.getF (v := 20) dX9_wave_62 sc_0 fl_9_19 rfl rfl hvc_0_1 ?_
            refine FV.getF (v := 30) dX9_wave_65 sc_20 fl_9_186 rfl rfl hvc_20_6 ?_
            refine FV.getF (v := 33) dX9_wave_68 sc_30 fl_9_214 rfl rfl hvc_30_3 ?_
            refine EV.iload_n dX9_wave_71 rfl rfl ?_
            refine EV.sipush dX9_wave_72 (by decide) (by decide) ?_
            refine EV.imul dX9_wave_75 ?_
            refine EV.iload_n dX9_wave_76 rfl rfl ?_
            refine EV.iadd dX9_wave_77 ?_
            obtain ⟨g6, hf⟩ := pv_gd hf
            refine FV.iald dX9_wave_78 sc_33 g6.1 g6.2 (j := (Int.toNat (pv_w ((pv_w (a2 * 200)) + a1)))) rfl ?_
            exact FV.iret dX9_wave_79 hf
          · have hf := pv_gn hf q5
            refine EV.aload_n dX9_wave_54 rfl rfl ?_
            refine EV.bipush dX9_wave_55 (by decide) (by decide) ?_
            obtain ⟨h8, r9, hc7, hf⟩ := pv_c2o hf
            refine EV.invV (As := [.inl (-2)]) (st := []) (d1 := d - 1) (sh1 := pv_SC) (h1 := MC h8) (r1 := (some (.inl r9))) dX9_wave_57 sc_0 (by decide) md_X9_refuse ml_X9_59 im_X9_refuse se_X9_refuse (tX9_refuse (by omega)  hc7) (by omega) rfl rfl (Nat.le_of_ble_eq_true rfl) ⟨[], (List.append_nil _).symm⟩ ?_
            refine EV.eqS (st2 := [.inl (r9)]) rfl ?_
            exact FV.iret dX9_wave_60 hf
        · have hf := pv_gp hf q4
          refine EV.aload_n dX9_wave_31 rfl rfl ?_
          refine EV.bipush dX9_wave_32 (by decide) (by decide) ?_
          obtain ⟨h11, r12, hc10, hf⟩ := pv_c2o hf
          refine EV.invV (As := [.inl (-5)]) (st := []) (d1 := d - 1) (sh1 := pv_SC) (h1 := MC h11) (r1 := (some (.inl r12))) dX9_wave_34 sc_0 (by decide) md_X9_refuse ml_X9_59 im_X9_refuse se_X9_refuse (tX9_refuse (by omega)  hc10) (by omega) rfl rfl (Nat.le_of_ble_eq_true rfl) ⟨[], (List.append_nil _).symm⟩ ?_
          refine EV.eqS (st2 := [.inl (r12)]) rfl ?_
          exact FV.iret dX9_wave_37 hf
      · have hf := pv_gn hf q3
        refine EV.weak (L2 := [some (.inr (.inr (0))), none, none]) (And.intro rfl trivial) ?_
        exact tX9_wave_14 hd    hf

noncomputable def fX9_run_10 (N : Nat)  (a1 : Int)  (h : pv_H) : Option (pv_H × Int) :=
  pv_c2b (fX9_refuse N (-2) h) fun h9 r10 => some (h9, r10)

noncomputable def fX9_run (N : Nat) (a1 : Int) (h : pv_H) : Option (pv_H × Int) :=
  if a1 < 0 then (fX9_run_10 N  a1  h) else (if a1 < 8 then (if (h 20 1) = 0 then (pv_c2b (fX9_refuse N (-5) h) fun h6 r7 => some (h6, r7)) else (if 0 ≤ a1 ∧ a1 < 8 then (some (h, h 31 (Int.toNat (a1)))) else none)) else (fX9_run_10 N  a1  h))

set_option maxHeartbeats 4000000 in
set_option maxRecDepth 20000 in
theorem tX9_run_10 {d N : Nat}  {a1 : Int}  {h h' : pv_H} {r : Int} (hd : 2 ≤ d)    (hf : fX9_run_10 N  a1  h = some (h', r)) : EV RX9 cX9_run 2 (some .int) false d pv_SC (MC h') (some (.inl r)) 10 [some (.inr (.inr (0))), none] [] pv_SC (MC h) := by
  unfold fX9_run_10 at hf
  refine EV.aload_n dX9_run_10 rfl rfl ?_
  refine EV.bipush dX9_run_11 (by decide) (by decide) ?_
  obtain ⟨h9, r10, hc8, hf⟩ := pv_c2o hf
  refine EV.invV (As := [.inl (-2)]) (st := []) (d1 := d - 1) (sh1 := pv_SC) (h1 := MC h9) (r1 := (some (.inl r10))) dX9_run_13 sc_0 (by decide) md_X9_refuse ml_X9_59 im_X9_refuse se_X9_refuse (tX9_refuse (by omega)  hc8) (by omega) rfl rfl (Nat.le_of_ble_eq_true rfl) ⟨[], (List.append_nil _).symm⟩ ?_
  refine EV.eqS (st2 := [.inl (r10)]) rfl ?_
  exact FV.iret dX9_run_16 hf

set_option maxHeartbeats 4000000 in
set_option maxRecDepth 20000 in
theorem tX9_run {d N : Nat} {a1 : Int} {h h' : pv_H} {r : Int} (hd : 2 ≤ d)  (hf : fX9_run N a1 h = some (h', r)) : CALL yX9_run cX9_run 2 (some .int) d pv_SC (MC h) [.inr (.inr (0)), .inl (a1)] pv_SC (MC h') (some (.inl r)) := by
  unfold fX9_run at hf
  refine EV.call (own := RX9) (ini := false) rfl rfl (fun q => by cases q) ⟨[], (List.append_nil _).symm⟩ (Nat.le_of_ble_eq_true rfl) ?_
  refine EV.eqL (L2 := [some (.inr (.inr (0))), some (.inl (a1))]) rfl ?_
  refine EV.iload_n dX9_run_0 rfl rfl ?_
  refine EV.if_lt (tgt := 10) dX9_run_1 (by decide) (fun q1 => ?_) (fun q1 => ?_)
  · have hf := pv_gp hf q1
    refine EV.weak (L2 := [some (.inr (.inr (0))), none]) (And.intro rfl trivial) ?_
    exact tX9_run_10 hd    hf
  · have hf := pv_gn hf q1
    refine EV.iload_n dX9_run_4 rfl rfl ?_
    refine EV.bipush dX9_run_5 (by decide) (by decide) ?_
    refine EV.icmp_lt (tgt := 17) dX9_run_7 (by decide) (fun q2 => ?_) (fun q2 => ?_)
    · have hf := pv_gp hf q2
      refine EV.aload_n dX9_run_17 rfl rfl ?_
      refine FV.getF (v := 20) dX9_run_18 sc_0 fl_9_19 rfl rfl hvc_0_1 ?_
      refine FV.getI dX9_run_21 sc_20 fl_9_198 rfl ?_
      refine EV.if_ne (tgt := 34) dX9_run_24 (by decide) (fun q3 => ?_) (fun q3 => ?_)
      · have hf := pv_gn hf q3
        refine EV.aload_n dX9_run_34 rfl rfl ?_
        refine FV.getF (v := 20) dX9_run_35 sc_0 fl_9_19 rfl rfl hvc_0_1 ?_
        refine FV.getF (v := 30) dX9_run_38 sc_20 fl_9_186 rfl rfl hvc_20_6 ?_
        refine FV.getF (v := 31) dX9_run_41 sc_30 fl_9_202 rfl rfl hvc_30_1 ?_
        refine EV.iload_n dX9_run_44 rfl rfl ?_
        obtain ⟨g4, hf⟩ := pv_gd hf
        refine FV.iald dX9_run_45 sc_31 g4.1 g4.2 (j := (Int.toNat (a1))) rfl ?_
        exact FV.iret dX9_run_46 hf
      · have hf := pv_gp hf q3
        refine EV.aload_n dX9_run_27 rfl rfl ?_
        refine EV.bipush dX9_run_28 (by decide) (by decide) ?_
        obtain ⟨h6, r7, hc5, hf⟩ := pv_c2o hf
        refine EV.invV (As := [.inl (-5)]) (st := []) (d1 := d - 1) (sh1 := pv_SC) (h1 := MC h6) (r1 := (some (.inl r7))) dX9_run_30 sc_0 (by decide) md_X9_refuse ml_X9_59 im_X9_refuse se_X9_refuse (tX9_refuse (by omega)  hc5) (by omega) rfl rfl (Nat.le_of_ble_eq_true rfl) ⟨[], (List.append_nil _).symm⟩ ?_
        refine EV.eqS (st2 := [.inl (r7)]) rfl ?_
        exact FV.iret dX9_run_33 hf
    · have hf := pv_gn hf q2
      refine EV.weak (L2 := [some (.inr (.inr (0))), none]) (And.intro rfl trivial) ?_
      exact tX9_run_10 hd    hf

noncomputable def fX9_why (N : Nat)  (h : pv_H) : Option (pv_H × Int) :=
  if (h 20 1) = 0 then (pv_c2b (fX9_refuse N (-5) h) fun h5 r6 => some (h5, r6)) else (pv_c1 (fX7_turnAhead N 30 h) fun r3 => some (h, r3))

set_option maxHeartbeats 4000000 in
set_option maxRecDepth 20000 in
theorem tX9_why {d N : Nat}  {h h' : pv_H} {r : Int} (hd : 3 ≤ d)  (hf : fX9_why N  h = some (h', r)) : CALL yX9_why cX9_why 1 (some .int) d pv_SC (MC h) [.inr (.inr (0))] pv_SC (MC h') (some (.inl r)) := by
  unfold fX9_why at hf
  refine EV.call (own := RX9) (ini := false) rfl rfl (fun q => by cases q) ⟨[], (List.append_nil _).symm⟩ (Nat.le_of_ble_eq_true rfl) ?_
  refine EV.eqL (L2 := [some (.inr (.inr (0)))]) rfl ?_
  refine EV.aload_n dX9_why_0 rfl rfl ?_
  refine FV.getF (v := 20) dX9_why_1 sc_0 fl_9_19 rfl rfl hvc_0_1 ?_
  refine FV.getI dX9_why_4 sc_20 fl_9_198 rfl ?_
  refine EV.if_ne (tgt := 17) dX9_why_7 (by decide) (fun q1 => ?_) (fun q1 => ?_)
  · have hf := pv_gn hf q1
    refine EV.aload_n dX9_why_17 rfl rfl ?_
    refine FV.getF (v := 20) dX9_why_18 sc_0 fl_9_19 rfl rfl hvc_0_1 ?_
    refine FV.getF (v := 30) dX9_why_21 sc_20 fl_9_186 rfl rfl hvc_20_6 ?_
    obtain ⟨r3, hc2, hf⟩ := pv_c1o hf
    refine EV.invV (As := []) (st := []) (d1 := d - 1) (sh1 := pv_SC) (h1 := MC h) (r1 := (some (.inl r3))) dX9_why_24 sc_30 (by decide) md_X7_turnAhead ml_X9_217 im_X7_turnAhead se_X7_turnAhead (tX7_turnAhead (by omega) ((by decide : 30 ∈ pv_l7)) hc2) (by omega) rfl rfl (Nat.le_of_ble_eq_true rfl) ⟨[], (List.append_nil _).symm⟩ ?_
    refine EV.eqS (st2 := [.inl (r3)]) rfl ?_
    exact FV.iret dX9_why_27 hf
  · have hf := pv_gp hf q1
    refine EV.aload_n dX9_why_10 rfl rfl ?_
    refine EV.bipush dX9_why_11 (by decide) (by decide) ?_
    obtain ⟨h5, r6, hc4, hf⟩ := pv_c2o hf
    refine EV.invV (As := [.inl (-5)]) (st := []) (d1 := d - 1) (sh1 := pv_SC) (h1 := MC h5) (r1 := (some (.inl r6))) dX9_why_13 sc_0 (by decide) md_X9_refuse ml_X9_59 im_X9_refuse se_X9_refuse (tX9_refuse (by omega)  hc4) (by omega) rfl rfl (Nat.le_of_ble_eq_true rfl) ⟨[], (List.append_nil _).symm⟩ ?_
    refine EV.eqS (st2 := [.inl (r6)]) rfl ?_
    exact FV.iret dX9_why_16 hf

noncomputable def fX9_isRow_14 (N : Nat)  (a0 : Int) (s0 : Int) (h : pv_H) : Option (Int) :=
  if s0 = 0 ∨ s0 = 1 then (some (s0)) else none

noncomputable def fX9_isRow_13 (N : Nat)  (a0 : Int)  (h : pv_H) : Option (Int) :=
  fX9_isRow_14 N  a0 (0) h

noncomputable def fX9_isRow (N : Nat) (a0 : Int) (h : pv_H) : Option (Int) :=
  if a0 < 0 then (fX9_isRow_13 N  a0  h) else (if 4 ≤ a0 then (fX9_isRow_13 N  a0  h) else (fX9_isRow_14 N  a0 (1) h))

set_option maxHeartbeats 4000000 in
set_option maxRecDepth 20000 in
theorem tX9_isRow_14 {d N : Nat}  {a0 : Int} {s0 : Int} {h : pv_H} {r : Int} (hd : 1 ≤ d)    (hf : fX9_isRow_14 N  a0 s0 h = some r) : EV RX9 cX9_isRow 1 (some .boolean) false d pv_SC (MC h) (some (.inl r)) 14 [none] [.inl (s0)] pv_SC (MC h) := by
  unfold fX9_isRow_14 at hf
  obtain ⟨g3, hf⟩ := pv_gd hf
  exact FV.zretp dX9_isRow_14 g3 hf

set_option maxHeartbeats 4000000 in
set_option maxRecDepth 20000 in
theorem tX9_isRow_13 {d N : Nat}  {a0 : Int}  {h : pv_H} {r : Int} (hd : 1 ≤ d)    (hf : fX9_isRow_13 N  a0  h = some r) : EV RX9 cX9_isRow 1 (some .boolean) false d pv_SC (MC h) (some (.inl r)) 13 [none] [] pv_SC (MC h) := by
  unfold fX9_isRow_13 at hf
  refine EV.iconst dX9_isRow_13 (by decide) (by decide) ?_
  refine EV.weak (L2 := [none]) trivial ?_
  exact tX9_isRow_14 hd    hf

set_option maxHeartbeats 4000000 in
set_option maxRecDepth 20000 in
theorem tX9_isRow {d N : Nat} {a0 : Int} {h : pv_H} {r : Int} (hd : 1 ≤ d)  (hf : fX9_isRow N a0 h = some r) : CALL yX9_isRow cX9_isRow 1 (some .boolean) d pv_SC (MC h) [.inl (a0)] pv_SC (MC h) (some (.inl r)) := by
  unfold fX9_isRow at hf
  refine EV.call (own := RX9) (ini := false) rfl rfl (fun q => by cases q) ⟨[], (List.append_nil _).symm⟩ (Nat.le_of_ble_eq_true rfl) ?_
  refine EV.eqL (L2 := [some (.inl (a0))]) rfl ?_
  refine EV.iload_n dX9_isRow_0 rfl rfl ?_
  refine EV.if_lt (tgt := 13) dX9_isRow_1 (by decide) (fun q1 => ?_) (fun q1 => ?_)
  · have hf := pv_gp hf q1
    refine EV.weak (L2 := [none]) trivial ?_
    exact tX9_isRow_13 hd    hf
  · have hf := pv_gn hf q1
    refine EV.iload_n dX9_isRow_4 rfl rfl ?_
    refine EV.iconst dX9_isRow_5 (by decide) (by decide) ?_
    refine EV.icmp_ge (tgt := 13) dX9_isRow_6 (by decide) (fun q2 => ?_) (fun q2 => ?_)
    · have hf := pv_gp hf q2
      refine EV.weak (L2 := [none]) trivial ?_
      exact tX9_isRow_13 hd    hf
    · have hf := pv_gn hf q2
      refine EV.iconst dX9_isRow_9 (by decide) (by decide) ?_
      refine EV.goto (tgt := 14) dX9_isRow_10 (by decide) ?_
      refine EV.weak (L2 := [none]) trivial ?_
      exact tX9_isRow_14 hd    hf

noncomputable def fX9_film_74 (N : Nat)  (a1 : Int) (s0 : Int) (h : pv_H) : Option (pv_H × Int) :=
  some (h, s0)

noncomputable def fX9_film (N : Nat) (a1 : Int) (h : pv_H) : Option (pv_H × Int) :=
  pv_c1 (fX9_isRow N a1 h) fun r2 => if r2 = 0 then (pv_c2b (fX9_refuse N (-2) h) fun h20 r21 => some (h20, r21)) else (if (h 20 1) = 0 then (pv_c2b (fX9_refuse N (-5) h) fun h17 r18 => some (h17, r18)) else (if 0 ≤ a1 ∧ a1 < 4 then (pv_b (216 + 2 * (Int.toNat (a1))) fun x6 => if (h x6 0) = 0 then (pv_c2b (fX9_refuse N (-6) h) fun h14 r15 => some (h14, r15)) else (if 0 ≤ a1 ∧ a1 < 4 then (pv_b (216 + 2 * (Int.toNat (a1))) fun x9 => pv_c1 (fX7_holdsTicks N 30 x9 h) fun r11 => if r11 = 0 then (fX9_film_74 N  a1 (0) h) else (fX9_film_74 N  a1 (1) h)) else none)) else none))

set_option maxHeartbeats 4000000 in
set_option maxRecDepth 20000 in
theorem tX9_film_74 {d N : Nat}  {a1 : Int} {s0 : Int} {h h' : pv_H} {r : Int} (hd : 3 ≤ d)    (hf : fX9_film_74 N  a1 s0 h = some (h', r)) : EV RX9 cX9_film 2 (some .int) false d pv_SC (MC h') (some (.inl r)) 74 [none, none] [.inl (s0)] pv_SC (MC h) := by
  unfold fX9_film_74 at hf
  exact FV.iret dX9_film_74 hf

set_option maxHeartbeats 4000000 in
set_option maxRecDepth 20000 in
theorem tX9_film {d N : Nat} {a1 : Int} {h h' : pv_H} {r : Int} (hd : 3 ≤ d)  (hf : fX9_film N a1 h = some (h', r)) : CALL yX9_film cX9_film 2 (some .int) d pv_SC (MC h) [.inr (.inr (0)), .inl (a1)] pv_SC (MC h') (some (.inl r)) := by
  unfold fX9_film at hf
  refine EV.call (own := RX9) (ini := false) rfl rfl (fun q => by cases q) ⟨[], (List.append_nil _).symm⟩ (Nat.le_of_ble_eq_true rfl) ?_
  refine EV.eqL (L2 := [some (.inr (.inr (0))), some (.inl (a1))]) rfl ?_
  refine EV.iload_n dX9_film_0 rfl rfl ?_
  obtain ⟨r2, hc1, hf⟩ := pv_c1o hf
  refine EV.invS (As := [.inl (a1)]) (st := []) (d1 := d - 1) (sh1 := pv_SC) (h1 := MC h) (r1 := (some (.inl r2))) dX9_film_1 md_X9_isRow ml_X9_220 st_X9_isRow (tX9_isRow (by omega)  hc1) (by omega) rfl rfl (Nat.le_of_ble_eq_true rfl) ⟨[], (List.append_nil _).symm⟩ ?_
  refine EV.eqS (st2 := [.inl (r2)]) rfl ?_
  refine EV.if_ne (tgt := 14) dX9_film_4 (by decide) (fun q3 => ?_) (fun q3 => ?_)
  · have hf := pv_gn hf q3
    refine EV.aload_n dX9_film_14 rfl rfl ?_
    refine FV.getF (v := 20) dX9_film_15 sc_0 fl_9_19 rfl rfl hvc_0_1 ?_
    refine FV.getI dX9_film_18 sc_20 fl_9_198 rfl ?_
    refine EV.if_ne (tgt := 31) dX9_film_21 (by decide) (fun q4 => ?_) (fun q4 => ?_)
    · have hf := pv_gn hf q4
      refine EV.aload_n dX9_film_31 rfl rfl ?_
      refine FV.getF (v := 76) dX9_film_32 sc_0 fl_9_29 rfl rfl hvc_0_3 ?_
      refine EV.iload_n dX9_film_35 rfl rfl ?_
      obtain ⟨g5, hf⟩ := pv_gd hf
      obtain ⟨x6, ex6, hf⟩ := pv_bo hf
      have mx6 : x6 ∈ pv_l6 := ex6 ▸ mq_76 _ (by omega)
      refine FV.aald (a := 3) (v := x6) dX9_film_36 sc_76 (by decide) g5.1 g5.2 (j := (Int.toNat (a1))) rfl rfl (by rw [hq_76 _ (by omega), ex6]) ?_
      refine FV.getI dX9_film_37 (sl6_0 _ mx6) fl_9_223 rfl ?_
      refine EV.if_ne (tgt := 50) dX9_film_40 (by decide) (fun q7 => ?_) (fun q7 => ?_)
      · have hf := pv_gn hf q7
        refine EV.aload_n dX9_film_50 rfl rfl ?_
        refine FV.getF (v := 20) dX9_film_51 sc_0 fl_9_19 rfl rfl hvc_0_1 ?_
        refine FV.getF (v := 30) dX9_film_54 sc_20 fl_9_186 rfl rfl hvc_20_6 ?_
        refine EV.aload_n dX9_film_57 rfl rfl ?_
        refine FV.getF (v := 76) dX9_film_58 sc_0 fl_9_29 rfl rfl hvc_0_3 ?_
        refine EV.iload_n dX9_film_61 rfl rfl ?_
        obtain ⟨g8, hf⟩ := pv_gd hf
        obtain ⟨x9, ex9, hf⟩ := pv_bo hf
        have mx9 : x9 ∈ pv_l6 := ex9 ▸ mq_76 _ (by omega)
        refine FV.aald (a := 3) (v := x9) dX9_film_62 sc_76 (by decide) g8.1 g8.2 (j := (Int.toNat (a1))) rfl rfl (by rw [hq_76 _ (by omega), ex9]) ?_
        obtain ⟨r11, hc10, hf⟩ := pv_c1o hf
        refine EV.invV (As := [.inr (.inr (x9))]) (st := []) (d1 := d - 1) (sh1 := pv_SC) (h1 := MC h) (r1 := (some (.inl r11))) dX9_film_63 sc_30 (by decide) md_X7_holdsTicks ml_X9_226 im_X7_holdsTicks se_X7_holdsTicks (tX7_holdsTicks (by omega) ((by decide : 30 ∈ pv_l7)) (mx9) hc10) (by omega) rfl rfl (Nat.le_of_ble_eq_true rfl) ⟨[], (List.append_nil _).symm⟩ ?_
        refine EV.eqS (st2 := [.inl (r11)]) rfl ?_
        refine EV.if_eq (tgt := 73) dX9_film_66 (by decide) (fun q12 => ?_) (fun q12 => ?_)
        · have hf := pv_gp hf q12
          refine EV.iconst dX9_film_73 (by decide) (by decide) ?_
          refine EV.weak (L2 := [none, none]) trivial ?_
          exact tX9_film_74 hd    hf
        · have hf := pv_gn hf q12
          refine EV.iconst dX9_film_69 (by decide) (by decide) ?_
          refine EV.goto (tgt := 74) dX9_film_70 (by decide) ?_
          refine EV.weak (L2 := [none, none]) trivial ?_
          exact tX9_film_74 hd    hf
      · have hf := pv_gp hf q7
        refine EV.aload_n dX9_film_43 rfl rfl ?_
        refine EV.bipush dX9_film_44 (by decide) (by decide) ?_
        obtain ⟨h14, r15, hc13, hf⟩ := pv_c2o hf
        refine EV.invV (As := [.inl (-6)]) (st := []) (d1 := d - 1) (sh1 := pv_SC) (h1 := MC h14) (r1 := (some (.inl r15))) dX9_film_46 sc_0 (by decide) md_X9_refuse ml_X9_59 im_X9_refuse se_X9_refuse (tX9_refuse (by omega)  hc13) (by omega) rfl rfl (Nat.le_of_ble_eq_true rfl) ⟨[], (List.append_nil _).symm⟩ ?_
        refine EV.eqS (st2 := [.inl (r15)]) rfl ?_
        exact FV.iret dX9_film_49 hf
    · have hf := pv_gp hf q4
      refine EV.aload_n dX9_film_24 rfl rfl ?_
      refine EV.bipush dX9_film_25 (by decide) (by decide) ?_
      obtain ⟨h17, r18, hc16, hf⟩ := pv_c2o hf
      refine EV.invV (As := [.inl (-5)]) (st := []) (d1 := d - 1) (sh1 := pv_SC) (h1 := MC h17) (r1 := (some (.inl r18))) dX9_film_27 sc_0 (by decide) md_X9_refuse ml_X9_59 im_X9_refuse se_X9_refuse (tX9_refuse (by omega)  hc16) (by omega) rfl rfl (Nat.le_of_ble_eq_true rfl) ⟨[], (List.append_nil _).symm⟩ ?_
      refine EV.eqS (st2 := [.inl (r18)]) rfl ?_
      exact FV.iret dX9_film_30 hf
  · have hf := pv_gp hf q3
    refine EV.aload_n dX9_film_7 rfl rfl ?_
    refine EV.bipush dX9_film_8 (by decide) (by decide) ?_
    obtain ⟨h20, r21, hc19, hf⟩ := pv_c2o hf
    refine EV.invV (As := [.inl (-2)]) (st := []) (d1 := d - 1) (sh1 := pv_SC) (h1 := MC h20) (r1 := (some (.inl r21))) dX9_film_10 sc_0 (by decide) md_X9_refuse ml_X9_59 im_X9_refuse se_X9_refuse (tX9_refuse (by omega)  hc19) (by omega) rfl rfl (Nat.le_of_ble_eq_true rfl) ⟨[], (List.append_nil _).symm⟩ ?_
    refine EV.eqS (st2 := [.inl (r21)]) rfl ?_
    exact FV.iret dX9_film_13 hf

noncomputable def fX9_beyond_26 (N : Nat)  (a1 : Int) (a2 : Int) (a3 : Int) (a4 : Int)  (h : pv_H) : Option (pv_H × Int) :=
  pv_c2b (fX9_refuse N (-2) h) fun h25 r26 => some (h25, r26)

noncomputable def fX9_beyond (N : Nat) (a1 : Int) (a2 : Int) (a3 : Int) (a4 : Int) (h : pv_H) : Option (pv_H × Int) :=
  pv_c1 (fX9_hasRod N a1 h) fun r2 => if r2 = 0 then (fX9_beyond_26 N  a1 a2 a3 a4  h) else (pv_c1 (fX9_hasDoings N a2 h) fun r5 => if r5 = 0 then (fX9_beyond_26 N  a1 a2 a3 a4  h) else (if a4 < 0 then (fX9_beyond_26 N  a1 a2 a3 a4  h) else (if a4 ≤ 2 then (if 0 ≤ a1 ∧ a1 < 4 then (pv_b (35 + 6 * (Int.toNat (a1))) fun x10 => pv_c1 (fX1_take N x10 23 a3 h) fun h12 => if 0 ≤ a2 ∧ a2 < 4 then (pv_b (59 + 4 * (Int.toNat (a2))) fun x14 => pv_c1 (fX1_bendBy N x14 1 h12) fun h16 => pv_c2b (fX1_sendWaves N (-1) 1 h16) fun h18 r19 => if a4 = 0 then (some (h18, h18 78 1)) else (if a4 = 1 then (some (h18, h18 78 2)) else (pv_c1 (fX1_aboveStrength N  h18) fun r23 => some (h18, r23)))) else none) else none) else (fX9_beyond_26 N  a1 a2 a3 a4  h))))

set_option maxHeartbeats 4000000 in
set_option maxRecDepth 20000 in
theorem tX9_beyond_26 {d N : Nat}  {a1 : Int} {a2 : Int} {a3 : Int} {a4 : Int}  {h h' : pv_H} {r : Int} (hd : 6 ≤ d)    (hf : fX9_beyond_26 N  a1 a2 a3 a4  h = some (h', r)) : EV RX9 cX9_beyond 5 (some .int) false d pv_SC (MC h') (some (.inl r)) 26 [some (.inr (.inr (0))), none, none, none, none] [] pv_SC (MC h) := by
  unfold fX9_beyond_26 at hf
  refine EV.aload_n dX9_beyond_26 rfl rfl ?_
  refine EV.bipush dX9_beyond_27 (by decide) (by decide) ?_
  obtain ⟨h25, r26, hc24, hf⟩ := pv_c2o hf
  refine EV.invV (As := [.inl (-2)]) (st := []) (d1 := d - 1) (sh1 := pv_SC) (h1 := MC h25) (r1 := (some (.inl r26))) dX9_beyond_29 sc_0 (by decide) md_X9_refuse ml_X9_59 im_X9_refuse se_X9_refuse (tX9_refuse (by omega)  hc24) (by omega) rfl rfl (Nat.le_of_ble_eq_true rfl) ⟨[], (List.append_nil _).symm⟩ ?_
  refine EV.eqS (st2 := [.inl (r26)]) rfl ?_
  exact FV.iret dX9_beyond_32 hf

set_option maxHeartbeats 4000000 in
set_option maxRecDepth 20000 in
theorem tX9_beyond {d N : Nat} {a1 : Int} {a2 : Int} {a3 : Int} {a4 : Int} {h h' : pv_H} {r : Int} (hd : 6 ≤ d)  (hf : fX9_beyond N a1 a2 a3 a4 h = some (h', r)) : CALL yX9_beyond cX9_beyond 5 (some .int) d pv_SC (MC h) [.inr (.inr (0)), .inl (a1), .inl (a2), .inl (a3), .inl (a4)] pv_SC (MC h') (some (.inl r)) := by
  unfold fX9_beyond at hf
  refine EV.call (own := RX9) (ini := false) rfl rfl (fun q => by cases q) ⟨[], (List.append_nil _).symm⟩ (Nat.le_of_ble_eq_true rfl) ?_
  refine EV.eqL (L2 := [some (.inr (.inr (0))), some (.inl (a1)), some (.inl (a2)), some (.inl (a3)), some (.inl (a4))]) rfl ?_
  refine EV.aload_n dX9_beyond_0 rfl rfl ?_
  refine EV.iload_n dX9_beyond_1 rfl rfl ?_
  obtain ⟨r2, hc1, hf⟩ := pv_c1o hf
  refine EV.invV (As := [.inl (a1)]) (st := []) (d1 := d - 1) (sh1 := pv_SC) (h1 := MC h) (r1 := (some (.inl r2))) dX9_beyond_2 sc_0 (by decide) md_X9_hasRod ml_X9_140 im_X9_hasRod se_X9_hasRod (tX9_hasRod (by omega)  hc1) (by omega) rfl rfl (Nat.le_of_ble_eq_true rfl) ⟨[], (List.append_nil _).symm⟩ ?_
  refine EV.eqS (st2 := [.inl (r2)]) rfl ?_
  refine EV.if_eq (tgt := 26) dX9_beyond_5 (by decide) (fun q3 => ?_) (fun q3 => ?_)
  · have hf := pv_gp hf q3
    refine EV.weak (L2 := [some (.inr (.inr (0))), none, none, none, none]) (And.intro rfl trivial) ?_
    exact tX9_beyond_26 hd    hf
  · have hf := pv_gn hf q3
    refine EV.iload_n dX9_beyond_8 rfl rfl ?_
    obtain ⟨r5, hc4, hf⟩ := pv_c1o hf
    refine EV.invS (As := [.inl (a2)]) (st := []) (d1 := d - 1) (sh1 := pv_SC) (h1 := MC h) (r1 := (some (.inl r5))) dX9_beyond_9 md_X9_hasDoings ml_X9_172 st_X9_hasDoings (tX9_hasDoings (by omega)  hc4) (by omega) rfl rfl (Nat.le_of_ble_eq_true rfl) ⟨[], (List.append_nil _).symm⟩ ?_
    refine EV.eqS (st2 := [.inl (r5)]) rfl ?_
    refine EV.if_eq (tgt := 26) dX9_beyond_12 (by decide) (fun q6 => ?_) (fun q6 => ?_)
    · have hf := pv_gp hf q6
      refine EV.weak (L2 := [some (.inr (.inr (0))), none, none, none, none]) (And.intro rfl trivial) ?_
      exact tX9_beyond_26 hd    hf
    · have hf := pv_gn hf q6
      refine EV.iload dX9_beyond_15 rfl ?_
      refine EV.if_lt (tgt := 26) dX9_beyond_17 (by decide) (fun q7 => ?_) (fun q7 => ?_)
      · have hf := pv_gp hf q7
        refine EV.weak (L2 := [some (.inr (.inr (0))), none, none, none, none]) (And.intro rfl trivial) ?_
        exact tX9_beyond_26 hd    hf
      · have hf := pv_gn hf q7
        refine EV.iload dX9_beyond_20 rfl ?_
        refine EV.iconst dX9_beyond_22 (by decide) (by decide) ?_
        refine EV.icmp_le (tgt := 33) dX9_beyond_23 (by decide) (fun q8 => ?_) (fun q8 => ?_)
        · have hf := pv_gp hf q8
          refine EV.aload_n dX9_beyond_33 rfl rfl ?_
          refine FV.getF (v := 78) dX9_beyond_34 sc_0 fl_9_40 rfl rfl hvc_0_5 ?_
          refine EV.aload_n dX9_beyond_37 rfl rfl ?_
          refine FV.getF (v := 20) dX9_beyond_38 sc_0 fl_9_19 rfl rfl hvc_0_1 ?_
          refine FV.getF (v := 21) dX9_beyond_41 sc_20 fl_9_94 rfl rfl hvc_20_2 ?_
          refine EV.iload_n dX9_beyond_44 rfl rfl ?_
          obtain ⟨g9, hf⟩ := pv_gd hf
          obtain ⟨x10, ex10, hf⟩ := pv_bo hf
          have mx10 : x10 ∈ pv_l5 := ex10 ▸ mq_21 _ (by omega)
          refine FV.aald (a := 0) (v := x10) dX9_beyond_45 sc_21 (by decide) g9.1 g9.2 (j := (Int.toNat (a1))) rfl rfl (by rw [hq_21 _ (by omega), ex10]) ?_
          refine EV.aload_n dX9_beyond_46 rfl rfl ?_
          refine FV.getF (v := 20) dX9_beyond_47 sc_0 fl_9_19 rfl rfl hvc_0_1 ?_
          refine FV.getF (v := 23) dX9_beyond_50 sc_20 fl_9_117 rfl rfl hvc_20_4 ?_
          refine EV.iload_n dX9_beyond_53 rfl rfl ?_
          obtain ⟨h12, hc11, hf⟩ := pv_c1o hf
          refine EV.invV (As := [.inr (.inr (x10)), .inr (.inr (23)), .inl (a3)]) (st := []) (d1 := d - 1) (sh1 := pv_SC) (h1 := MC h12) (r1 := none) dX9_beyond_54 sc_78 (by decide) md_X1_take ml_X9_230 im_X1_take se_X1_take (tX1_take (by omega) (mx10) ((by decide : 23 ∈ pv_l2)) hc11) (by omega) rfl rfl (Nat.le_of_ble_eq_true rfl) ⟨[], (List.append_nil _).symm⟩ ?_
          refine EV.aload_n dX9_beyond_57 rfl rfl ?_
          refine FV.getF (v := 78) dX9_beyond_58 sc_0 fl_9_40 rfl rfl hvc_0_5 ?_
          refine EV.aload_n dX9_beyond_61 rfl rfl ?_
          refine FV.getF (v := 20) dX9_beyond_62 sc_0 fl_9_19 rfl rfl hvc_0_1 ?_
          refine FV.getF (v := 22) dX9_beyond_65 sc_20 fl_9_105 rfl rfl hvc_20_3 ?_
          refine EV.iload_n dX9_beyond_68 rfl rfl ?_
          obtain ⟨g13, hf⟩ := pv_gd hf
          obtain ⟨x14, ex14, hf⟩ := pv_bo hf
          have mx14 : x14 ∈ pv_l0 := ex14 ▸ mq_22 _ (by omega)
          refine FV.aald (a := 1) (v := x14) dX9_beyond_69 sc_22 (by decide) g13.1 g13.2 (j := (Int.toNat (a2))) rfl rfl (by rw [hq_22 _ (by omega), ex14]) ?_
          refine EV.iconst dX9_beyond_70 (by decide) (by decide) ?_
          obtain ⟨h16, hc15, hf⟩ := pv_c1o hf
          refine EV.invV (As := [.inr (.inr (x14)), .inl (1)]) (st := []) (d1 := d - 1) (sh1 := pv_SC) (h1 := MC h16) (r1 := none) dX9_beyond_71 sc_78 (by decide) md_X1_bendBy ml_X9_234 im_X1_bendBy se_X1_bendBy (tX1_bendBy (by omega) (mx14) hc15) (by omega) rfl rfl (Nat.le_of_ble_eq_true rfl) ⟨[], (List.append_nil _).symm⟩ ?_
          refine EV.aload_n dX9_beyond_74 rfl rfl ?_
          refine FV.getF (v := 78) dX9_beyond_75 sc_0 fl_9_40 rfl rfl hvc_0_5 ?_
          refine EV.iconst dX9_beyond_78 (by decide) (by decide) ?_
          refine EV.iconst dX9_beyond_79 (by decide) (by decide) ?_
          obtain ⟨h18, r19, hc17, hf⟩ := pv_c2o hf
          refine EV.invV (As := [.inl (-1), .inl (1)]) (st := []) (d1 := d - 1) (sh1 := pv_SC) (h1 := MC h18) (r1 := (some (.inl r19))) dX9_beyond_80 sc_78 (by decide) md_X1_sendWaves ml_X9_238 im_X1_sendWaves se_X1_sendWaves (tX1_sendWaves (by omega)  hc17) (by omega) rfl rfl (Nat.le_of_ble_eq_true rfl) ⟨[], (List.append_nil _).symm⟩ ?_
          refine EV.eqS (st2 := [.inl (r19)]) rfl ?_
          refine EV.pop dX9_beyond_83 rfl ?_
          refine EV.iload dX9_beyond_84 rfl ?_
          refine EV.if_ne (tgt := 97) dX9_beyond_86 (by decide) (fun q20 => ?_) (fun q20 => ?_)
          · have hf := pv_gn hf q20
            refine EV.iload dX9_beyond_97 rfl ?_
            refine EV.iconst dX9_beyond_99 (by decide) (by decide) ?_
            refine EV.icmp_ne (tgt := 111) dX9_beyond_100 (by decide) (fun q21 => ?_) (fun q21 => ?_)
            · have hf := pv_gn hf q21
              refine EV.aload_n dX9_beyond_111 rfl rfl ?_
              refine FV.getF (v := 78) dX9_beyond_112 sc_0 fl_9_40 rfl rfl hvc_0_5 ?_
              obtain ⟨r23, hc22, hf⟩ := pv_c1o hf
              refine EV.invV (As := []) (st := []) (d1 := d - 1) (sh1 := pv_SC) (h1 := MC h18) (r1 := (some (.inl r23))) dX9_beyond_115 sc_78 (by decide) md_X1_aboveStrength ml_X9_248 im_X1_aboveStrength se_X1_aboveStrength (tX1_aboveStrength (by omega)  hc22) (by omega) rfl rfl (Nat.le_of_ble_eq_true rfl) ⟨[], (List.append_nil _).symm⟩ ?_
              refine EV.eqS (st2 := [.inl (r23)]) rfl ?_
              exact FV.iret dX9_beyond_118 hf
            · have hf := pv_gp hf q21
              refine EV.aload_n dX9_beyond_103 rfl rfl ?_
              refine FV.getF (v := 78) dX9_beyond_104 sc_0 fl_9_40 rfl rfl hvc_0_5 ?_
              refine FV.getI dX9_beyond_107 sc_78 fl_9_245 rfl ?_
              exact FV.iret dX9_beyond_110 hf
          · have hf := pv_gp hf q20
            refine EV.aload_n dX9_beyond_89 rfl rfl ?_
            refine FV.getF (v := 78) dX9_beyond_90 sc_0 fl_9_40 rfl rfl hvc_0_5 ?_
            refine FV.getI dX9_beyond_93 sc_78 fl_9_242 rfl ?_
            exact FV.iret dX9_beyond_96 hf
        · have hf := pv_gn hf q8
          refine EV.weak (L2 := [some (.inr (.inr (0))), none, none, none, none]) (And.intro rfl trivial) ?_
          exact tX9_beyond_26 hd    hf

noncomputable def fX9_areSeeds_16 (N : Nat)  (a0 : Int) (s0 : Int) (h : pv_H) : Option (Int) :=
  if s0 = 0 ∨ s0 = 1 then (some (s0)) else none

noncomputable def fX9_areSeeds_15 (N : Nat)  (a0 : Int)  (h : pv_H) : Option (Int) :=
  fX9_areSeeds_16 N  a0 (0) h

noncomputable def fX9_areSeeds (N : Nat) (a0 : Int) (h : pv_H) : Option (Int) :=
  if a0 < 1 then (fX9_areSeeds_15 N  a0  h) else (if 100 < a0 then (fX9_areSeeds_15 N  a0  h) else (fX9_areSeeds_16 N  a0 (1) h))

set_option maxHeartbeats 4000000 in
set_option maxRecDepth 20000 in
theorem tX9_areSeeds_16 {d N : Nat}  {a0 : Int} {s0 : Int} {h : pv_H} {r : Int} (hd : 1 ≤ d)    (hf : fX9_areSeeds_16 N  a0 s0 h = some r) : EV RX9 cX9_areSeeds 1 (some .boolean) false d pv_SC (MC h) (some (.inl r)) 16 [none] [.inl (s0)] pv_SC (MC h) := by
  unfold fX9_areSeeds_16 at hf
  obtain ⟨g3, hf⟩ := pv_gd hf
  exact FV.zretp dX9_areSeeds_16 g3 hf

set_option maxHeartbeats 4000000 in
set_option maxRecDepth 20000 in
theorem tX9_areSeeds_15 {d N : Nat}  {a0 : Int}  {h : pv_H} {r : Int} (hd : 1 ≤ d)    (hf : fX9_areSeeds_15 N  a0  h = some r) : EV RX9 cX9_areSeeds 1 (some .boolean) false d pv_SC (MC h) (some (.inl r)) 15 [none] [] pv_SC (MC h) := by
  unfold fX9_areSeeds_15 at hf
  refine EV.iconst dX9_areSeeds_15 (by decide) (by decide) ?_
  refine EV.weak (L2 := [none]) trivial ?_
  exact tX9_areSeeds_16 hd    hf

set_option maxHeartbeats 4000000 in
set_option maxRecDepth 20000 in
theorem tX9_areSeeds {d N : Nat} {a0 : Int} {h : pv_H} {r : Int} (hd : 1 ≤ d)  (hf : fX9_areSeeds N a0 h = some r) : CALL yX9_areSeeds cX9_areSeeds 1 (some .boolean) d pv_SC (MC h) [.inl (a0)] pv_SC (MC h) (some (.inl r)) := by
  unfold fX9_areSeeds at hf
  refine EV.call (own := RX9) (ini := false) rfl rfl (fun q => by cases q) ⟨[], (List.append_nil _).symm⟩ (Nat.le_of_ble_eq_true rfl) ?_
  refine EV.eqL (L2 := [some (.inl (a0))]) rfl ?_
  refine EV.iload_n dX9_areSeeds_0 rfl rfl ?_
  refine EV.iconst dX9_areSeeds_1 (by decide) (by decide) ?_
  refine EV.icmp_lt (tgt := 15) dX9_areSeeds_2 (by decide) (fun q1 => ?_) (fun q1 => ?_)
  · have hf := pv_gp hf q1
    refine EV.weak (L2 := [none]) trivial ?_
    exact tX9_areSeeds_15 hd    hf
  · have hf := pv_gn hf q1
    refine EV.iload_n dX9_areSeeds_5 rfl rfl ?_
    refine EV.bipush dX9_areSeeds_6 (by decide) (by decide) ?_
    refine EV.icmp_gt (tgt := 15) dX9_areSeeds_8 (by decide) (fun q2 => ?_) (fun q2 => ?_)
    · have hf := pv_gp hf q2
      refine EV.weak (L2 := [none]) trivial ?_
      exact tX9_areSeeds_15 hd    hf
    · have hf := pv_gn hf q2
      refine EV.iconst dX9_areSeeds_11 (by decide) (by decide) ?_
      refine EV.goto (tgt := 16) dX9_areSeeds_12 (by decide) ?_
      refine EV.weak (L2 := [none]) trivial ?_
      exact tX9_areSeeds_16 hd    hf

noncomputable def fX9_odds_15 (N : Nat)  (a1 : Int) (a2 : Int) (a3 : Int) (a4 : Int)  (h : pv_H) : Option (pv_H × Int) :=
  pv_c2b (fX9_refuse N (-2) h) fun h13 r14 => some (h13, r14)

noncomputable def fX9_odds_40 (N : Nat)  (a1 : Int) (a2 : Int) (a3 : Int) (a4 : Int)  (h : pv_H) : Option (pv_H × Int) :=
  pv_c2b (fX9_refuse N (-3) h) fun h16 r17 => some (h16, r17)

noncomputable def fX9_odds_109 (N : Nat) (k53 : Int → Int → pv_H → Option (pv_H × Int)) (a1 : Int) (a2 : Int) (a3 : Int) (a4 : Int) (v5 : Int) (v6 : Int) (h : pv_H) : Option (pv_H × Int) :=
  pv_b (pv_w (v6 + 1)) fun x28 => k53 (v5) (x28) h

noncomputable def fX9_odds_53 (N : Nat)  (a1 : Int) (a2 : Int) (a3 : Int) (a4 : Int) : Nat → Int → Int → pv_H → Option (pv_H × Int)
  | 0, _, _, _ => none
  | n + 1, v5, v6, h => if a4 < v6 then (some (h, v5)) else (if 0 ≤ a1 ∧ a1 < 4 then (pv_b (35 + 6 * (Int.toNat (a1))) fun x20 => if 0 ≤ a2 ∧ a2 < 4 then (pv_b (59 + 4 * (Int.toNat (a2))) fun x22 => pv_c2b (fX1_breakRod N x20 x22 23 v6 h) fun h24 r25 => if (min r25 4) = a3 then (pv_b (pv_w (v5 + 1)) fun x27 => fX9_odds_109 N (fun v5_ v6_ hh => fX9_odds_53 N  a1 a2 a3 a4 n v5_ v6_ hh) a1 a2 a3 a4 (x27) (v6) h24) else (fX9_odds_109 N (fun v5_ v6_ hh => fX9_odds_53 N  a1 a2 a3 a4 n v5_ v6_ hh) a1 a2 a3 a4 (v5) (v6) h24)) else none) else none)

noncomputable def fX9_odds (N : Nat) (a1 : Int) (a2 : Int) (a3 : Int) (a4 : Int) (h : pv_H) : Option (pv_H × Int) :=
  pv_c1 (fX9_hasRod N a1 h) fun r2 => if r2 = 0 then (fX9_odds_15 N  a1 a2 a3 a4  h) else (pv_c1 (fX9_hasDoings N a2 h) fun r5 => if r5 = 0 then (fX9_odds_15 N  a1 a2 a3 a4  h) else (if a3 < 1 then (fX9_odds_40 N  a1 a2 a3 a4  h) else (if 4 < a3 then (fX9_odds_40 N  a1 a2 a3 a4  h) else (pv_c1 (fX9_areSeeds N a4 h) fun r10 => if r10 = 0 then (fX9_odds_40 N  a1 a2 a3 a4  h) else (fX9_odds_53 N  a1 a2 a3 a4 N (0) (1) h)))))

set_option maxHeartbeats 4000000 in
set_option maxRecDepth 20000 in
theorem tX9_odds_15 {d N : Nat}  {a1 : Int} {a2 : Int} {a3 : Int} {a4 : Int}  {h h' : pv_H} {r : Int} (hd : 7 ≤ d)    (hf : fX9_odds_15 N  a1 a2 a3 a4  h = some (h', r)) : EV RX9 cX9_odds 8 (some .int) false d pv_SC (MC h') (some (.inl r)) 15 [some (.inr (.inr (0))), none, none, none, none, none, none, none] [] pv_SC (MC h) := by
  unfold fX9_odds_15 at hf
  refine EV.aload_n dX9_odds_15 rfl rfl ?_
  refine EV.bipush dX9_odds_16 (by decide) (by decide) ?_
  obtain ⟨h13, r14, hc12, hf⟩ := pv_c2o hf
  refine EV.invV (As := [.inl (-2)]) (st := []) (d1 := d - 1) (sh1 := pv_SC) (h1 := MC h13) (r1 := (some (.inl r14))) dX9_odds_18 sc_0 (by decide) md_X9_refuse ml_X9_59 im_X9_refuse se_X9_refuse (tX9_refuse (by omega)  hc12) (by omega) rfl rfl (Nat.le_of_ble_eq_true rfl) ⟨[], (List.append_nil _).symm⟩ ?_
  refine EV.eqS (st2 := [.inl (r14)]) rfl ?_
  exact FV.iret dX9_odds_21 hf

set_option maxHeartbeats 4000000 in
set_option maxRecDepth 20000 in
theorem tX9_odds_40 {d N : Nat}  {a1 : Int} {a2 : Int} {a3 : Int} {a4 : Int}  {h h' : pv_H} {r : Int} (hd : 7 ≤ d)    (hf : fX9_odds_40 N  a1 a2 a3 a4  h = some (h', r)) : EV RX9 cX9_odds 8 (some .int) false d pv_SC (MC h') (some (.inl r)) 40 [some (.inr (.inr (0))), none, none, none, none, none, none, none] [] pv_SC (MC h) := by
  unfold fX9_odds_40 at hf
  refine EV.aload_n dX9_odds_40 rfl rfl ?_
  refine EV.bipush dX9_odds_41 (by decide) (by decide) ?_
  obtain ⟨h16, r17, hc15, hf⟩ := pv_c2o hf
  refine EV.invV (As := [.inl (-3)]) (st := []) (d1 := d - 1) (sh1 := pv_SC) (h1 := MC h16) (r1 := (some (.inl r17))) dX9_odds_43 sc_0 (by decide) md_X9_refuse ml_X9_59 im_X9_refuse se_X9_refuse (tX9_refuse (by omega)  hc15) (by omega) rfl rfl (Nat.le_of_ble_eq_true rfl) ⟨[], (List.append_nil _).symm⟩ ?_
  refine EV.eqS (st2 := [.inl (r17)]) rfl ?_
  exact FV.iret dX9_odds_46 hf

set_option maxHeartbeats 4000000 in
set_option maxRecDepth 20000 in
theorem tX9_odds_109 {d N : Nat} {k53 : Int → Int → pv_H → Option (pv_H × Int)} {a1 : Int} {a2 : Int} {a3 : Int} {a4 : Int} {v5 : Int} {v6 : Int} {h h' : pv_H} {r : Int} (hd : 7 ≤ d) (hk53 : ∀ (v5 : Int) (v6 : Int)  (hh : pv_H), k53 v5 v6 hh = some (h', r) → EV RX9 cX9_odds 8 (some .int) false d pv_SC (MC h') (some (.inl r)) 53 [some (.inr (.inr (0))), some (.inl (a1)), some (.inl (a2)), some (.inl (a3)), some (.inl (a4)), some (.inl (v5)), some (.inl (v6)), none] [] pv_SC (MC hh))   (hf : fX9_odds_109 N k53 a1 a2 a3 a4 v5 v6 h = some (h', r)) : EV RX9 cX9_odds 8 (some .int) false d pv_SC (MC h') (some (.inl r)) 109 [some (.inr (.inr (0))), some (.inl (a1)), some (.inl (a2)), some (.inl (a3)), some (.inl (a4)), some (.inl (v5)), some (.inl (v6)), none] [] pv_SC (MC h) := by
  unfold fX9_odds_109 at hf
  obtain ⟨x28, ex28, hf⟩ := pv_bo hf
  refine FV.inc (L2 := [some (.inr (.inr (0))), some (.inl (a1)), some (.inl (a2)), some (.inl (a3)), some (.inl (a4)), some (.inl (v5)), some (.inl (x28)), none]) dX9_odds_109 rfl (Nat.le_of_ble_eq_true rfl) ex28 rfl ?_
  refine EV.goto (tgt := 53) dX9_odds_112 (by decide) ?_
  refine EV.weak (L2 := [some (.inr (.inr (0))), some (.inl (a1)), some (.inl (a2)), some (.inl (a3)), some (.inl (a4)), some (.inl (v5)), some (.inl (x28)), none]) (And.intro rfl (And.intro rfl (And.intro rfl (And.intro rfl (And.intro rfl (And.intro rfl (And.intro rfl trivial))))))) ?_
  exact hk53 _ _  _ hf

set_option maxHeartbeats 4000000 in
set_option maxRecDepth 20000 in
theorem tX9_odds_53 {d N : Nat}  {a1 : Int} {a2 : Int} {a3 : Int} {a4 : Int} {h' : pv_H} {r : Int} (hd : 7 ≤ d)   : ∀ (n : Nat) (v5 : Int) (v6 : Int)  (h : pv_H), fX9_odds_53 N  a1 a2 a3 a4 n v5 v6 h = some (h', r) → EV RX9 cX9_odds 8 (some .int) false d pv_SC (MC h') (some (.inl r)) 53 [some (.inr (.inr (0))), some (.inl (a1)), some (.inl (a2)), some (.inl (a3)), some (.inl (a4)), some (.inl (v5)), some (.inl (v6)), none] [] pv_SC (MC h) := by
  intro n
  induction n with
  | zero =>
    intro v5 v6  h hf
    cases hf
  | succ n ih =>
    intro v5 v6  h hf
    rw [fX9_odds_53] at hf
    refine EV.iload dX9_odds_53 rfl ?_
    refine EV.iload dX9_odds_55 rfl ?_
    refine EV.icmp_gt (tgt := 115) dX9_odds_57 (by decide) (fun q18 => ?_) (fun q18 => ?_)
    · have hf := pv_gp hf q18
      refine EV.iload dX9_odds_115 rfl ?_
      exact FV.iret dX9_odds_117 hf
    · have hf := pv_gn hf q18
      refine EV.aload_n dX9_odds_60 rfl rfl ?_
      refine FV.getF (v := 78) dX9_odds_61 sc_0 fl_9_40 rfl rfl hvc_0_5 ?_
      refine EV.aload_n dX9_odds_64 rfl rfl ?_
      refine FV.getF (v := 20) dX9_odds_65 sc_0 fl_9_19 rfl rfl hvc_0_1 ?_
      refine FV.getF (v := 21) dX9_odds_68 sc_20 fl_9_94 rfl rfl hvc_20_2 ?_
      refine EV.iload_n dX9_odds_71 rfl rfl ?_
      obtain ⟨g19, hf⟩ := pv_gd hf
      obtain ⟨x20, ex20, hf⟩ := pv_bo hf
      have mx20 : x20 ∈ pv_l5 := ex20 ▸ mq_21 _ (by omega)
      refine FV.aald (a := 0) (v := x20) dX9_odds_72 sc_21 (by decide) g19.1 g19.2 (j := (Int.toNat (a1))) rfl rfl (by rw [hq_21 _ (by omega), ex20]) ?_
      refine EV.aload_n dX9_odds_73 rfl rfl ?_
      refine FV.getF (v := 20) dX9_odds_74 sc_0 fl_9_19 rfl rfl hvc_0_1 ?_
      refine FV.getF (v := 22) dX9_odds_77 sc_20 fl_9_105 rfl rfl hvc_20_3 ?_
      refine EV.iload_n dX9_odds_80 rfl rfl ?_
      obtain ⟨g21, hf⟩ := pv_gd hf
      obtain ⟨x22, ex22, hf⟩ := pv_bo hf
      have mx22 : x22 ∈ pv_l0 := ex22 ▸ mq_22 _ (by omega)
      refine FV.aald (a := 1) (v := x22) dX9_odds_81 sc_22 (by decide) g21.1 g21.2 (j := (Int.toNat (a2))) rfl rfl (by rw [hq_22 _ (by omega), ex22]) ?_
      refine EV.aload_n dX9_odds_82 rfl rfl ?_
      refine FV.getF (v := 20) dX9_odds_83 sc_0 fl_9_19 rfl rfl hvc_0_1 ?_
      refine FV.getF (v := 23) dX9_odds_86 sc_20 fl_9_117 rfl rfl hvc_20_4 ?_
      refine EV.iload dX9_odds_89 rfl ?_
      obtain ⟨h24, r25, hc23, hf⟩ := pv_c2o hf
      refine EV.invV (As := [.inr (.inr (x20)), .inr (.inr (x22)), .inr (.inr (23)), .inl (v6)]) (st := []) (d1 := d - 1) (sh1 := pv_SC) (h1 := MC h24) (r1 := (some (.inl r25))) dX9_odds_91 sc_78 (by decide) md_X1_breakRod ml_X9_182 im_X1_breakRod se_X1_breakRod (tX1_breakRod (by omega) (mx20) (mx22) ((by decide : 23 ∈ pv_l2)) hc23) (by omega) rfl rfl (Nat.le_of_ble_eq_true rfl) ⟨[], (List.append_nil _).symm⟩ ?_
      refine EV.eqS (st2 := [.inl (r25)]) rfl ?_
      refine FV.stiw (L2 := [some (.inr (.inr (0))), some (.inl (a1)), some (.inl (a2)), some (.inl (a3)), some (.inl (a4)), some (.inl (v5)), some (.inl (v6)), some (.inl (r25))]) dX9_odds_94 (Nat.le_of_ble_eq_true rfl) rfl rfl ?_
      refine EV.iload dX9_odds_96 rfl ?_
      refine EV.iconst dX9_odds_98 (by decide) (by decide) ?_
      refine EV.mmin dX9_odds_99 ml_X9_254 w_mins w_mai w_minc (by omega) (Nat.le_of_ble_eq_true rfl) ?_
      refine EV.iload_n dX9_odds_102 rfl rfl ?_
      refine EV.icmp_ne (tgt := 109) dX9_odds_103 (by decide) (fun q26 => ?_) (fun q26 => ?_)
      · have hf := pv_gn hf q26
        refine EV.weak (L2 := [some (.inr (.inr (0))), some (.inl (a1)), some (.inl (a2)), some (.inl (a3)), some (.inl (a4)), some (.inl (v5)), some (.inl (v6)), none]) (And.intro rfl (And.intro rfl (And.intro rfl (And.intro rfl (And.intro rfl (And.intro rfl (And.intro rfl trivial))))))) ?_
        exact tX9_odds_109 hd (ih)   hf
      · have hf := pv_gp hf q26
        obtain ⟨x27, ex27, hf⟩ := pv_bo hf
        refine FV.inc (L2 := [some (.inr (.inr (0))), some (.inl (a1)), some (.inl (a2)), some (.inl (a3)), some (.inl (a4)), some (.inl (x27)), some (.inl (v6)), some (.inl (r25))]) dX9_odds_106 rfl (Nat.le_of_ble_eq_true rfl) ex27 rfl ?_
        refine EV.weak (L2 := [some (.inr (.inr (0))), some (.inl (a1)), some (.inl (a2)), some (.inl (a3)), some (.inl (a4)), some (.inl (x27)), some (.inl (v6)), none]) (And.intro rfl (And.intro rfl (And.intro rfl (And.intro rfl (And.intro rfl (And.intro rfl (And.intro rfl trivial))))))) ?_
        exact tX9_odds_109 hd (ih)   hf

set_option maxHeartbeats 4000000 in
set_option maxRecDepth 20000 in
theorem tX9_odds {d N : Nat} {a1 : Int} {a2 : Int} {a3 : Int} {a4 : Int} {h h' : pv_H} {r : Int} (hd : 7 ≤ d)  (hf : fX9_odds N a1 a2 a3 a4 h = some (h', r)) : CALL yX9_odds cX9_odds 8 (some .int) d pv_SC (MC h) [.inr (.inr (0)), .inl (a1), .inl (a2), .inl (a3), .inl (a4)] pv_SC (MC h') (some (.inl r)) := by
  unfold fX9_odds at hf
  refine EV.call (own := RX9) (ini := false) rfl rfl (fun q => by cases q) ⟨[], (List.append_nil _).symm⟩ (Nat.le_of_ble_eq_true rfl) ?_
  refine EV.eqL (L2 := [some (.inr (.inr (0))), some (.inl (a1)), some (.inl (a2)), some (.inl (a3)), some (.inl (a4)), none, none, none]) rfl ?_
  refine EV.aload_n dX9_odds_0 rfl rfl ?_
  refine EV.iload_n dX9_odds_1 rfl rfl ?_
  obtain ⟨r2, hc1, hf⟩ := pv_c1o hf
  refine EV.invV (As := [.inl (a1)]) (st := []) (d1 := d - 1) (sh1 := pv_SC) (h1 := MC h) (r1 := (some (.inl r2))) dX9_odds_2 sc_0 (by decide) md_X9_hasRod ml_X9_140 im_X9_hasRod se_X9_hasRod (tX9_hasRod (by omega)  hc1) (by omega) rfl rfl (Nat.le_of_ble_eq_true rfl) ⟨[], (List.append_nil _).symm⟩ ?_
  refine EV.eqS (st2 := [.inl (r2)]) rfl ?_
  refine EV.if_eq (tgt := 15) dX9_odds_5 (by decide) (fun q3 => ?_) (fun q3 => ?_)
  · have hf := pv_gp hf q3
    refine EV.weak (L2 := [some (.inr (.inr (0))), none, none, none, none, none, none, none]) (And.intro rfl trivial) ?_
    exact tX9_odds_15 hd    hf
  · have hf := pv_gn hf q3
    refine EV.iload_n dX9_odds_8 rfl rfl ?_
    obtain ⟨r5, hc4, hf⟩ := pv_c1o hf
    refine EV.invS (As := [.inl (a2)]) (st := []) (d1 := d - 1) (sh1 := pv_SC) (h1 := MC h) (r1 := (some (.inl r5))) dX9_odds_9 md_X9_hasDoings ml_X9_172 st_X9_hasDoings (tX9_hasDoings (by omega)  hc4) (by omega) rfl rfl (Nat.le_of_ble_eq_true rfl) ⟨[], (List.append_nil _).symm⟩ ?_
    refine EV.eqS (st2 := [.inl (r5)]) rfl ?_
    refine EV.if_ne (tgt := 22) dX9_odds_12 (by decide) (fun q6 => ?_) (fun q6 => ?_)
    · have hf := pv_gn hf q6
      refine EV.iload_n dX9_odds_22 rfl rfl ?_
      refine EV.iconst dX9_odds_23 (by decide) (by decide) ?_
      refine EV.icmp_lt (tgt := 40) dX9_odds_24 (by decide) (fun q7 => ?_) (fun q7 => ?_)
      · have hf := pv_gp hf q7
        refine EV.weak (L2 := [some (.inr (.inr (0))), none, none, none, none, none, none, none]) (And.intro rfl trivial) ?_
        exact tX9_odds_40 hd    hf
      · have hf := pv_gn hf q7
        refine EV.iload_n dX9_odds_27 rfl rfl ?_
        refine EV.iconst dX9_odds_28 (by decide) (by decide) ?_
        refine EV.icmp_gt (tgt := 40) dX9_odds_29 (by decide) (fun q8 => ?_) (fun q8 => ?_)
        · have hf := pv_gp hf q8
          refine EV.weak (L2 := [some (.inr (.inr (0))), none, none, none, none, none, none, none]) (And.intro rfl trivial) ?_
          exact tX9_odds_40 hd    hf
        · have hf := pv_gn hf q8
          refine EV.iload dX9_odds_32 rfl ?_
          obtain ⟨r10, hc9, hf⟩ := pv_c1o hf
          refine EV.invS (As := [.inl (a4)]) (st := []) (d1 := d - 1) (sh1 := pv_SC) (h1 := MC h) (r1 := (some (.inl r10))) dX9_odds_34 md_X9_areSeeds ml_X9_251 st_X9_areSeeds (tX9_areSeeds (by omega)  hc9) (by omega) rfl rfl (Nat.le_of_ble_eq_true rfl) ⟨[], (List.append_nil _).symm⟩ ?_
          refine EV.eqS (st2 := [.inl (r10)]) rfl ?_
          refine EV.if_ne (tgt := 47) dX9_odds_37 (by decide) (fun q11 => ?_) (fun q11 => ?_)
          · have hf := pv_gn hf q11
            refine EV.iconst dX9_odds_47 (by decide) (by decide) ?_
            refine FV.stiw (L2 := [some (.inr (.inr (0))), some (.inl (a1)), some (.inl (a2)), some (.inl (a3)), some (.inl (a4)), some (.inl (0)), none, none]) dX9_odds_48 (Nat.le_of_ble_eq_true rfl) rfl rfl ?_
            refine EV.iconst dX9_odds_50 (by decide) (by decide) ?_
            refine FV.stiw (L2 := [some (.inr (.inr (0))), some (.inl (a1)), some (.inl (a2)), some (.inl (a3)), some (.inl (a4)), some (.inl (0)), some (.inl (1)), none]) dX9_odds_51 (Nat.le_of_ble_eq_true rfl) rfl rfl ?_
            refine EV.weak (L2 := [some (.inr (.inr (0))), some (.inl (a1)), some (.inl (a2)), some (.inl (a3)), some (.inl (a4)), some (.inl (0)), some (.inl (1)), none]) (And.intro rfl (And.intro rfl (And.intro rfl (And.intro rfl (And.intro rfl (And.intro rfl (And.intro rfl trivial))))))) ?_
            exact tX9_odds_53 hd   _ _ _  _ hf
          · have hf := pv_gp hf q11
            refine EV.weak (L2 := [some (.inr (.inr (0))), none, none, none, none, none, none, none]) (And.intro rfl trivial) ?_
            exact tX9_odds_40 hd    hf
    · have hf := pv_gp hf q6
      refine EV.weak (L2 := [some (.inr (.inr (0))), none, none, none, none, none, none, none]) (And.intro rfl trivial) ?_
      exact tX9_odds_15 hd    hf

noncomputable def fX9_ends_16 (N : Nat)  (a1 : Int) (a2 : Int) (a3 : Int) (a4 : Int)  (h : pv_H) : Option (pv_H × Int) :=
  pv_c2b (fX9_refuse N (-2) h) fun h14 r15 => some (h14, r15)

noncomputable def fX9_ends_104 (N : Nat) (k44 : Int → Int → pv_H → Option (pv_H × Int)) (a1 : Int) (a2 : Int) (a3 : Int) (a4 : Int) (v5 : Int) (v6 : Int) (h : pv_H) : Option (pv_H × Int) :=
  pv_b (pv_w (v6 + 1)) fun x28 => k44 (v5) (x28) h

noncomputable def fX9_ends_44 (N : Nat)  (a1 : Int) (a2 : Int) (a3 : Int) (a4 : Int) : Nat → Int → Int → pv_H → Option (pv_H × Int)
  | 0, _, _, _ => none
  | n + 1, v5, v6, h => if a4 < v6 then (some (h, v5)) else (if 0 ≤ a1 ∧ a1 < 4 then (pv_b (35 + 6 * (Int.toNat (a1))) fun x18 => if 0 ≤ a2 ∧ a2 < 4 then (pv_b (59 + 4 * (Int.toNat (a2))) fun x20 => pv_c2b (fX1_breakRod N x18 x20 23 v6 h) fun h22 r23 => pv_c1 (fX7_breakAt N 79 a3 h22) fun r25 => if r25 = (-1) then (fX9_ends_104 N (fun v5_ v6_ hh => fX9_ends_44 N  a1 a2 a3 a4 n v5_ v6_ hh) a1 a2 a3 a4 (v5) (v6) h22) else (pv_b (pv_w (v5 + 1)) fun x27 => fX9_ends_104 N (fun v5_ v6_ hh => fX9_ends_44 N  a1 a2 a3 a4 n v5_ v6_ hh) a1 a2 a3 a4 (x27) (v6) h22)) else none) else none)

noncomputable def fX9_ends (N : Nat) (a1 : Int) (a2 : Int) (a3 : Int) (a4 : Int) (h : pv_H) : Option (pv_H × Int) :=
  pv_c1 (fX9_hasCell N a1 a3 h) fun r2 => if r2 = 0 then (fX9_ends_16 N  a1 a2 a3 a4  h) else (pv_c1 (fX9_hasDoings N a2 h) fun r5 => if r5 = 0 then (fX9_ends_16 N  a1 a2 a3 a4  h) else (pv_c1 (fX9_areSeeds N a4 h) fun r8 => if r8 = 0 then (pv_c2b (fX9_refuse N (-3) h) fun h11 r12 => some (h11, r12)) else (fX9_ends_44 N  a1 a2 a3 a4 N (0) (1) h)))

set_option maxHeartbeats 4000000 in
set_option maxRecDepth 20000 in
theorem tX9_ends_16 {d N : Nat}  {a1 : Int} {a2 : Int} {a3 : Int} {a4 : Int}  {h h' : pv_H} {r : Int} (hd : 7 ≤ d)    (hf : fX9_ends_16 N  a1 a2 a3 a4  h = some (h', r)) : EV RX9 cX9_ends 7 (some .int) false d pv_SC (MC h') (some (.inl r)) 16 [some (.inr (.inr (0))), none, none, none, none, none, none] [] pv_SC (MC h) := by
  unfold fX9_ends_16 at hf
  refine EV.aload_n dX9_ends_16 rfl rfl ?_
  refine EV.bipush dX9_ends_17 (by decide) (by decide) ?_
  obtain ⟨h14, r15, hc13, hf⟩ := pv_c2o hf
  refine EV.invV (As := [.inl (-2)]) (st := []) (d1 := d - 1) (sh1 := pv_SC) (h1 := MC h14) (r1 := (some (.inl r15))) dX9_ends_19 sc_0 (by decide) md_X9_refuse ml_X9_59 im_X9_refuse se_X9_refuse (tX9_refuse (by omega)  hc13) (by omega) rfl rfl (Nat.le_of_ble_eq_true rfl) ⟨[], (List.append_nil _).symm⟩ ?_
  refine EV.eqS (st2 := [.inl (r15)]) rfl ?_
  exact FV.iret dX9_ends_22 hf

set_option maxHeartbeats 4000000 in
set_option maxRecDepth 20000 in
theorem tX9_ends_104 {d N : Nat} {k44 : Int → Int → pv_H → Option (pv_H × Int)} {a1 : Int} {a2 : Int} {a3 : Int} {a4 : Int} {v5 : Int} {v6 : Int} {h h' : pv_H} {r : Int} (hd : 7 ≤ d) (hk44 : ∀ (v5 : Int) (v6 : Int)  (hh : pv_H), k44 v5 v6 hh = some (h', r) → EV RX9 cX9_ends 7 (some .int) false d pv_SC (MC h') (some (.inl r)) 44 [some (.inr (.inr (0))), some (.inl (a1)), some (.inl (a2)), some (.inl (a3)), some (.inl (a4)), some (.inl (v5)), some (.inl (v6))] [] pv_SC (MC hh))   (hf : fX9_ends_104 N k44 a1 a2 a3 a4 v5 v6 h = some (h', r)) : EV RX9 cX9_ends 7 (some .int) false d pv_SC (MC h') (some (.inl r)) 104 [some (.inr (.inr (0))), some (.inl (a1)), some (.inl (a2)), some (.inl (a3)), some (.inl (a4)), some (.inl (v5)), some (.inl (v6))] [] pv_SC (MC h) := by
  unfold fX9_ends_104 at hf
  obtain ⟨x28, ex28, hf⟩ := pv_bo hf
  refine FV.inc (L2 := [some (.inr (.inr (0))), some (.inl (a1)), some (.inl (a2)), some (.inl (a3)), some (.inl (a4)), some (.inl (v5)), some (.inl (x28))]) dX9_ends_104 rfl (Nat.le_of_ble_eq_true rfl) ex28 rfl ?_
  refine EV.goto (tgt := 44) dX9_ends_107 (by decide) ?_
  refine EV.weak (L2 := [some (.inr (.inr (0))), some (.inl (a1)), some (.inl (a2)), some (.inl (a3)), some (.inl (a4)), some (.inl (v5)), some (.inl (x28))]) (And.intro rfl (And.intro rfl (And.intro rfl (And.intro rfl (And.intro rfl (And.intro rfl (And.intro rfl trivial))))))) ?_
  exact hk44 _ _  _ hf

set_option maxHeartbeats 4000000 in
set_option maxRecDepth 20000 in
theorem tX9_ends_44 {d N : Nat}  {a1 : Int} {a2 : Int} {a3 : Int} {a4 : Int} {h' : pv_H} {r : Int} (hd : 7 ≤ d)   : ∀ (n : Nat) (v5 : Int) (v6 : Int)  (h : pv_H), fX9_ends_44 N  a1 a2 a3 a4 n v5 v6 h = some (h', r) → EV RX9 cX9_ends 7 (some .int) false d pv_SC (MC h') (some (.inl r)) 44 [some (.inr (.inr (0))), some (.inl (a1)), some (.inl (a2)), some (.inl (a3)), some (.inl (a4)), some (.inl (v5)), some (.inl (v6))] [] pv_SC (MC h) := by
  intro n
  induction n with
  | zero =>
    intro v5 v6  h hf
    cases hf
  | succ n ih =>
    intro v5 v6  h hf
    rw [fX9_ends_44] at hf
    refine EV.iload dX9_ends_44 rfl ?_
    refine EV.iload dX9_ends_46 rfl ?_
    refine EV.icmp_gt (tgt := 110) dX9_ends_48 (by decide) (fun q16 => ?_) (fun q16 => ?_)
    · have hf := pv_gp hf q16
      refine EV.iload dX9_ends_110 rfl ?_
      exact FV.iret dX9_ends_112 hf
    · have hf := pv_gn hf q16
      refine EV.aload_n dX9_ends_51 rfl rfl ?_
      refine FV.getF (v := 78) dX9_ends_52 sc_0 fl_9_40 rfl rfl hvc_0_5 ?_
      refine EV.aload_n dX9_ends_55 rfl rfl ?_
      refine FV.getF (v := 20) dX9_ends_56 sc_0 fl_9_19 rfl rfl hvc_0_1 ?_
      refine FV.getF (v := 21) dX9_ends_59 sc_20 fl_9_94 rfl rfl hvc_20_2 ?_
      refine EV.iload_n dX9_ends_62 rfl rfl ?_
      obtain ⟨g17, hf⟩ := pv_gd hf
      obtain ⟨x18, ex18, hf⟩ := pv_bo hf
      have mx18 : x18 ∈ pv_l5 := ex18 ▸ mq_21 _ (by omega)
      refine FV.aald (a := 0) (v := x18) dX9_ends_63 sc_21 (by decide) g17.1 g17.2 (j := (Int.toNat (a1))) rfl rfl (by rw [hq_21 _ (by omega), ex18]) ?_
      refine EV.aload_n dX9_ends_64 rfl rfl ?_
      refine FV.getF (v := 20) dX9_ends_65 sc_0 fl_9_19 rfl rfl hvc_0_1 ?_
      refine FV.getF (v := 22) dX9_ends_68 sc_20 fl_9_105 rfl rfl hvc_20_3 ?_
      refine EV.iload_n dX9_ends_71 rfl rfl ?_
      obtain ⟨g19, hf⟩ := pv_gd hf
      obtain ⟨x20, ex20, hf⟩ := pv_bo hf
      have mx20 : x20 ∈ pv_l0 := ex20 ▸ mq_22 _ (by omega)
      refine FV.aald (a := 1) (v := x20) dX9_ends_72 sc_22 (by decide) g19.1 g19.2 (j := (Int.toNat (a2))) rfl rfl (by rw [hq_22 _ (by omega), ex20]) ?_
      refine EV.aload_n dX9_ends_73 rfl rfl ?_
      refine FV.getF (v := 20) dX9_ends_74 sc_0 fl_9_19 rfl rfl hvc_0_1 ?_
      refine FV.getF (v := 23) dX9_ends_77 sc_20 fl_9_117 rfl rfl hvc_20_4 ?_
      refine EV.iload dX9_ends_80 rfl ?_
      obtain ⟨h22, r23, hc21, hf⟩ := pv_c2o hf
      refine EV.invV (As := [.inr (.inr (x18)), .inr (.inr (x20)), .inr (.inr (23)), .inl (v6)]) (st := []) (d1 := d - 1) (sh1 := pv_SC) (h1 := MC h22) (r1 := (some (.inl r23))) dX9_ends_82 sc_78 (by decide) md_X1_breakRod ml_X9_182 im_X1_breakRod se_X1_breakRod (tX1_breakRod (by omega) (mx18) (mx20) ((by decide : 23 ∈ pv_l2)) hc21) (by omega) rfl rfl (Nat.le_of_ble_eq_true rfl) ⟨[], (List.append_nil _).symm⟩ ?_
      refine EV.eqS (st2 := [.inl (r23)]) rfl ?_
      refine EV.pop dX9_ends_85 rfl ?_
      refine EV.aload_n dX9_ends_86 rfl rfl ?_
      refine FV.getF (v := 78) dX9_ends_87 sc_0 fl_9_40 rfl rfl hvc_0_5 ?_
      refine FV.getF (v := 79) dX9_ends_90 sc_78 fl_9_190 rfl rfl hvc_78_0 ?_
      refine EV.iload_n dX9_ends_93 rfl rfl ?_
      obtain ⟨r25, hc24, hf⟩ := pv_c1o hf
      refine EV.invV (As := [.inl (a3)]) (st := []) (d1 := d - 1) (sh1 := pv_SC) (h1 := MC h22) (r1 := (some (.inl r25))) dX9_ends_94 sc_79 (by decide) md_X7_breakAt ml_X9_259 im_X7_breakAt se_X7_breakAt (tX7_breakAt (by omega) ((by decide : 79 ∈ pv_l7)) hc24) (by omega) rfl rfl (Nat.le_of_ble_eq_true rfl) ⟨[], (List.append_nil _).symm⟩ ?_
      refine EV.eqS (st2 := [.inl (r25)]) rfl ?_
      refine EV.iconst dX9_ends_97 (by decide) (by decide) ?_
      refine EV.icmp_eq (tgt := 104) dX9_ends_98 (by decide) (fun q26 => ?_) (fun q26 => ?_)
      · have hf := pv_gp hf q26
        refine EV.weak (L2 := [some (.inr (.inr (0))), some (.inl (a1)), some (.inl (a2)), some (.inl (a3)), some (.inl (a4)), some (.inl (v5)), some (.inl (v6))]) (And.intro rfl (And.intro rfl (And.intro rfl (And.intro rfl (And.intro rfl (And.intro rfl (And.intro rfl trivial))))))) ?_
        exact tX9_ends_104 hd (ih)   hf
      · have hf := pv_gn hf q26
        obtain ⟨x27, ex27, hf⟩ := pv_bo hf
        refine FV.inc (L2 := [some (.inr (.inr (0))), some (.inl (a1)), some (.inl (a2)), some (.inl (a3)), some (.inl (a4)), some (.inl (x27)), some (.inl (v6))]) dX9_ends_101 rfl (Nat.le_of_ble_eq_true rfl) ex27 rfl ?_
        refine EV.weak (L2 := [some (.inr (.inr (0))), some (.inl (a1)), some (.inl (a2)), some (.inl (a3)), some (.inl (a4)), some (.inl (x27)), some (.inl (v6))]) (And.intro rfl (And.intro rfl (And.intro rfl (And.intro rfl (And.intro rfl (And.intro rfl (And.intro rfl trivial))))))) ?_
        exact tX9_ends_104 hd (ih)   hf

set_option maxHeartbeats 4000000 in
set_option maxRecDepth 20000 in
theorem tX9_ends {d N : Nat} {a1 : Int} {a2 : Int} {a3 : Int} {a4 : Int} {h h' : pv_H} {r : Int} (hd : 7 ≤ d)  (hf : fX9_ends N a1 a2 a3 a4 h = some (h', r)) : CALL yX9_ends cX9_ends 7 (some .int) d pv_SC (MC h) [.inr (.inr (0)), .inl (a1), .inl (a2), .inl (a3), .inl (a4)] pv_SC (MC h') (some (.inl r)) := by
  unfold fX9_ends at hf
  refine EV.call (own := RX9) (ini := false) rfl rfl (fun q => by cases q) ⟨[], (List.append_nil _).symm⟩ (Nat.le_of_ble_eq_true rfl) ?_
  refine EV.eqL (L2 := [some (.inr (.inr (0))), some (.inl (a1)), some (.inl (a2)), some (.inl (a3)), some (.inl (a4)), none, none]) rfl ?_
  refine EV.aload_n dX9_ends_0 rfl rfl ?_
  refine EV.iload_n dX9_ends_1 rfl rfl ?_
  refine EV.iload_n dX9_ends_2 rfl rfl ?_
  obtain ⟨r2, hc1, hf⟩ := pv_c1o hf
  refine EV.invV (As := [.inl (a1), .inl (a3)]) (st := []) (d1 := d - 1) (sh1 := pv_SC) (h1 := MC h) (r1 := (some (.inl r2))) dX9_ends_3 sc_0 (by decide) md_X9_hasCell ml_X9_150 im_X9_hasCell se_X9_hasCell (tX9_hasCell (by omega)  hc1) (by omega) rfl rfl (Nat.le_of_ble_eq_true rfl) ⟨[], (List.append_nil _).symm⟩ ?_
  refine EV.eqS (st2 := [.inl (r2)]) rfl ?_
  refine EV.if_eq (tgt := 16) dX9_ends_6 (by decide) (fun q3 => ?_) (fun q3 => ?_)
  · have hf := pv_gp hf q3
    refine EV.weak (L2 := [some (.inr (.inr (0))), none, none, none, none, none, none]) (And.intro rfl trivial) ?_
    exact tX9_ends_16 hd    hf
  · have hf := pv_gn hf q3
    refine EV.iload_n dX9_ends_9 rfl rfl ?_
    obtain ⟨r5, hc4, hf⟩ := pv_c1o hf
    refine EV.invS (As := [.inl (a2)]) (st := []) (d1 := d - 1) (sh1 := pv_SC) (h1 := MC h) (r1 := (some (.inl r5))) dX9_ends_10 md_X9_hasDoings ml_X9_172 st_X9_hasDoings (tX9_hasDoings (by omega)  hc4) (by omega) rfl rfl (Nat.le_of_ble_eq_true rfl) ⟨[], (List.append_nil _).symm⟩ ?_
    refine EV.eqS (st2 := [.inl (r5)]) rfl ?_
    refine EV.if_ne (tgt := 23) dX9_ends_13 (by decide) (fun q6 => ?_) (fun q6 => ?_)
    · have hf := pv_gn hf q6
      refine EV.iload dX9_ends_23 rfl ?_
      obtain ⟨r8, hc7, hf⟩ := pv_c1o hf
      refine EV.invS (As := [.inl (a4)]) (st := []) (d1 := d - 1) (sh1 := pv_SC) (h1 := MC h) (r1 := (some (.inl r8))) dX9_ends_25 md_X9_areSeeds ml_X9_251 st_X9_areSeeds (tX9_areSeeds (by omega)  hc7) (by omega) rfl rfl (Nat.le_of_ble_eq_true rfl) ⟨[], (List.append_nil _).symm⟩ ?_
      refine EV.eqS (st2 := [.inl (r8)]) rfl ?_
      refine EV.if_ne (tgt := 38) dX9_ends_28 (by decide) (fun q9 => ?_) (fun q9 => ?_)
      · have hf := pv_gn hf q9
        refine EV.iconst dX9_ends_38 (by decide) (by decide) ?_
        refine FV.stiw (L2 := [some (.inr (.inr (0))), some (.inl (a1)), some (.inl (a2)), some (.inl (a3)), some (.inl (a4)), some (.inl (0)), none]) dX9_ends_39 (Nat.le_of_ble_eq_true rfl) rfl rfl ?_
        refine EV.iconst dX9_ends_41 (by decide) (by decide) ?_
        refine FV.stiw (L2 := [some (.inr (.inr (0))), some (.inl (a1)), some (.inl (a2)), some (.inl (a3)), some (.inl (a4)), some (.inl (0)), some (.inl (1))]) dX9_ends_42 (Nat.le_of_ble_eq_true rfl) rfl rfl ?_
        refine EV.weak (L2 := [some (.inr (.inr (0))), some (.inl (a1)), some (.inl (a2)), some (.inl (a3)), some (.inl (a4)), some (.inl (0)), some (.inl (1))]) (And.intro rfl (And.intro rfl (And.intro rfl (And.intro rfl (And.intro rfl (And.intro rfl (And.intro rfl trivial))))))) ?_
        exact tX9_ends_44 hd   _ _ _  _ hf
      · have hf := pv_gp hf q9
        refine EV.aload_n dX9_ends_31 rfl rfl ?_
        refine EV.bipush dX9_ends_32 (by decide) (by decide) ?_
        obtain ⟨h11, r12, hc10, hf⟩ := pv_c2o hf
        refine EV.invV (As := [.inl (-3)]) (st := []) (d1 := d - 1) (sh1 := pv_SC) (h1 := MC h11) (r1 := (some (.inl r12))) dX9_ends_34 sc_0 (by decide) md_X9_refuse ml_X9_59 im_X9_refuse se_X9_refuse (tX9_refuse (by omega)  hc10) (by omega) rfl rfl (Nat.le_of_ble_eq_true rfl) ⟨[], (List.append_nil _).symm⟩ ?_
        refine EV.eqS (st2 := [.inl (r12)]) rfl ?_
        exact FV.iret dX9_ends_37 hf
    · have hf := pv_gp hf q6
      refine EV.weak (L2 := [some (.inr (.inr (0))), none, none, none, none, none, none]) (And.intro rfl trivial) ?_
      exact tX9_ends_16 hd    hf

noncomputable def fX9_isPace_16 (N : Nat)  (a0 : Int) (s0 : Int) (h : pv_H) : Option (Int) :=
  if s0 = 0 ∨ s0 = 1 then (some (s0)) else none

noncomputable def fX9_isPace_15 (N : Nat)  (a0 : Int)  (h : pv_H) : Option (Int) :=
  fX9_isPace_16 N  a0 (0) h

noncomputable def fX9_isPace (N : Nat) (a0 : Int) (h : pv_H) : Option (Int) :=
  if a0 < 1 then (fX9_isPace_15 N  a0  h) else (if 9 < a0 then (fX9_isPace_15 N  a0  h) else (fX9_isPace_16 N  a0 (1) h))

set_option maxHeartbeats 4000000 in
set_option maxRecDepth 20000 in
theorem tX9_isPace_16 {d N : Nat}  {a0 : Int} {s0 : Int} {h : pv_H} {r : Int} (hd : 1 ≤ d)    (hf : fX9_isPace_16 N  a0 s0 h = some r) : EV RX9 cX9_isPace 1 (some .boolean) false d pv_SC (MC h) (some (.inl r)) 16 [none] [.inl (s0)] pv_SC (MC h) := by
  unfold fX9_isPace_16 at hf
  obtain ⟨g3, hf⟩ := pv_gd hf
  exact FV.zretp dX9_isPace_16 g3 hf

set_option maxHeartbeats 4000000 in
set_option maxRecDepth 20000 in
theorem tX9_isPace_15 {d N : Nat}  {a0 : Int}  {h : pv_H} {r : Int} (hd : 1 ≤ d)    (hf : fX9_isPace_15 N  a0  h = some r) : EV RX9 cX9_isPace 1 (some .boolean) false d pv_SC (MC h) (some (.inl r)) 15 [none] [] pv_SC (MC h) := by
  unfold fX9_isPace_15 at hf
  refine EV.iconst dX9_isPace_15 (by decide) (by decide) ?_
  refine EV.weak (L2 := [none]) trivial ?_
  exact tX9_isPace_16 hd    hf

set_option maxHeartbeats 4000000 in
set_option maxRecDepth 20000 in
theorem tX9_isPace {d N : Nat} {a0 : Int} {h : pv_H} {r : Int} (hd : 1 ≤ d)  (hf : fX9_isPace N a0 h = some r) : CALL yX9_isPace cX9_isPace 1 (some .boolean) d pv_SC (MC h) [.inl (a0)] pv_SC (MC h) (some (.inl r)) := by
  unfold fX9_isPace at hf
  refine EV.call (own := RX9) (ini := false) rfl rfl (fun q => by cases q) ⟨[], (List.append_nil _).symm⟩ (Nat.le_of_ble_eq_true rfl) ?_
  refine EV.eqL (L2 := [some (.inl (a0))]) rfl ?_
  refine EV.iload_n dX9_isPace_0 rfl rfl ?_
  refine EV.iconst dX9_isPace_1 (by decide) (by decide) ?_
  refine EV.icmp_lt (tgt := 15) dX9_isPace_2 (by decide) (fun q1 => ?_) (fun q1 => ?_)
  · have hf := pv_gp hf q1
    refine EV.weak (L2 := [none]) trivial ?_
    exact tX9_isPace_15 hd    hf
  · have hf := pv_gn hf q1
    refine EV.iload_n dX9_isPace_5 rfl rfl ?_
    refine EV.bipush dX9_isPace_6 (by decide) (by decide) ?_
    refine EV.icmp_gt (tgt := 15) dX9_isPace_8 (by decide) (fun q2 => ?_) (fun q2 => ?_)
    · have hf := pv_gp hf q2
      refine EV.weak (L2 := [none]) trivial ?_
      exact tX9_isPace_15 hd    hf
    · have hf := pv_gn hf q2
      refine EV.iconst dX9_isPace_11 (by decide) (by decide) ?_
      refine EV.goto (tgt := 16) dX9_isPace_12 (by decide) ?_
      refine EV.weak (L2 := [none]) trivial ?_
      exact tX9_isPace_16 hd    hf

noncomputable def fX9_paced_15 (N : Nat)  (a1 : Int) (a2 : Int) (a3 : Int) (a4 : Int)  (h : pv_H) : Option (pv_H × Int) :=
  pv_c2b (fX9_refuse N (-2) h) fun h25 r26 => some (h25, r26)

noncomputable def fX9_paced (N : Nat) (a1 : Int) (a2 : Int) (a3 : Int) (a4 : Int) (h : pv_H) : Option (pv_H × Int) :=
  pv_c1 (fX9_hasRod N a1 h) fun r2 => if r2 = 0 then (fX9_paced_15 N  a1 a2 a3 a4  h) else (pv_c1 (fX9_hasDoings N a2 h) fun r5 => if r5 = 0 then (fX9_paced_15 N  a1 a2 a3 a4  h) else (pv_c1 (fX9_isPace N a4 h) fun r8 => if r8 = 0 then (pv_c2b (fX9_refuse N (-3) h) fun h22 r23 => some (h22, r23)) else (if 0 ≤ a1 ∧ a1 < 4 then (pv_b (35 + 6 * (Int.toNat (a1))) fun x11 => pv_c1 (fX1_take N x11 23 a3 h) fun h13 => if 0 ≤ a2 ∧ a2 < 4 then (pv_b (59 + 4 * (Int.toNat (a2))) fun x15 => pv_c1 (fX1_bendBy N x15 a4 h13) fun h17 => pv_c2b (fX1_sendWaves N (-1) 0 h17) fun h19 r20 => some (h19, r20)) else none) else none)))

set_option maxHeartbeats 4000000 in
set_option maxRecDepth 20000 in
theorem tX9_paced_15 {d N : Nat}  {a1 : Int} {a2 : Int} {a3 : Int} {a4 : Int}  {h h' : pv_H} {r : Int} (hd : 6 ≤ d)    (hf : fX9_paced_15 N  a1 a2 a3 a4  h = some (h', r)) : EV RX9 cX9_paced 5 (some .int) false d pv_SC (MC h') (some (.inl r)) 15 [some (.inr (.inr (0))), none, none, none, none] [] pv_SC (MC h) := by
  unfold fX9_paced_15 at hf
  refine EV.aload_n dX9_paced_15 rfl rfl ?_
  refine EV.bipush dX9_paced_16 (by decide) (by decide) ?_
  obtain ⟨h25, r26, hc24, hf⟩ := pv_c2o hf
  refine EV.invV (As := [.inl (-2)]) (st := []) (d1 := d - 1) (sh1 := pv_SC) (h1 := MC h25) (r1 := (some (.inl r26))) dX9_paced_18 sc_0 (by decide) md_X9_refuse ml_X9_59 im_X9_refuse se_X9_refuse (tX9_refuse (by omega)  hc24) (by omega) rfl rfl (Nat.le_of_ble_eq_true rfl) ⟨[], (List.append_nil _).symm⟩ ?_
  refine EV.eqS (st2 := [.inl (r26)]) rfl ?_
  exact FV.iret dX9_paced_21 hf

set_option maxHeartbeats 4000000 in
set_option maxRecDepth 20000 in
theorem tX9_paced {d N : Nat} {a1 : Int} {a2 : Int} {a3 : Int} {a4 : Int} {h h' : pv_H} {r : Int} (hd : 6 ≤ d)  (hf : fX9_paced N a1 a2 a3 a4 h = some (h', r)) : CALL yX9_paced cX9_paced 5 (some .int) d pv_SC (MC h) [.inr (.inr (0)), .inl (a1), .inl (a2), .inl (a3), .inl (a4)] pv_SC (MC h') (some (.inl r)) := by
  unfold fX9_paced at hf
  refine EV.call (own := RX9) (ini := false) rfl rfl (fun q => by cases q) ⟨[], (List.append_nil _).symm⟩ (Nat.le_of_ble_eq_true rfl) ?_
  refine EV.eqL (L2 := [some (.inr (.inr (0))), some (.inl (a1)), some (.inl (a2)), some (.inl (a3)), some (.inl (a4))]) rfl ?_
  refine EV.aload_n dX9_paced_0 rfl rfl ?_
  refine EV.iload_n dX9_paced_1 rfl rfl ?_
  obtain ⟨r2, hc1, hf⟩ := pv_c1o hf
  refine EV.invV (As := [.inl (a1)]) (st := []) (d1 := d - 1) (sh1 := pv_SC) (h1 := MC h) (r1 := (some (.inl r2))) dX9_paced_2 sc_0 (by decide) md_X9_hasRod ml_X9_140 im_X9_hasRod se_X9_hasRod (tX9_hasRod (by omega)  hc1) (by omega) rfl rfl (Nat.le_of_ble_eq_true rfl) ⟨[], (List.append_nil _).symm⟩ ?_
  refine EV.eqS (st2 := [.inl (r2)]) rfl ?_
  refine EV.if_eq (tgt := 15) dX9_paced_5 (by decide) (fun q3 => ?_) (fun q3 => ?_)
  · have hf := pv_gp hf q3
    refine EV.weak (L2 := [some (.inr (.inr (0))), none, none, none, none]) (And.intro rfl trivial) ?_
    exact tX9_paced_15 hd    hf
  · have hf := pv_gn hf q3
    refine EV.iload_n dX9_paced_8 rfl rfl ?_
    obtain ⟨r5, hc4, hf⟩ := pv_c1o hf
    refine EV.invS (As := [.inl (a2)]) (st := []) (d1 := d - 1) (sh1 := pv_SC) (h1 := MC h) (r1 := (some (.inl r5))) dX9_paced_9 md_X9_hasDoings ml_X9_172 st_X9_hasDoings (tX9_hasDoings (by omega)  hc4) (by omega) rfl rfl (Nat.le_of_ble_eq_true rfl) ⟨[], (List.append_nil _).symm⟩ ?_
    refine EV.eqS (st2 := [.inl (r5)]) rfl ?_
    refine EV.if_ne (tgt := 22) dX9_paced_12 (by decide) (fun q6 => ?_) (fun q6 => ?_)
    · have hf := pv_gn hf q6
      refine EV.iload dX9_paced_22 rfl ?_
      obtain ⟨r8, hc7, hf⟩ := pv_c1o hf
      refine EV.invS (As := [.inl (a4)]) (st := []) (d1 := d - 1) (sh1 := pv_SC) (h1 := MC h) (r1 := (some (.inl r8))) dX9_paced_24 md_X9_isPace ml_X9_262 st_X9_isPace (tX9_isPace (by omega)  hc7) (by omega) rfl rfl (Nat.le_of_ble_eq_true rfl) ⟨[], (List.append_nil _).symm⟩ ?_
      refine EV.eqS (st2 := [.inl (r8)]) rfl ?_
      refine EV.if_ne (tgt := 37) dX9_paced_27 (by decide) (fun q9 => ?_) (fun q9 => ?_)
      · have hf := pv_gn hf q9
        refine EV.aload_n dX9_paced_37 rfl rfl ?_
        refine FV.getF (v := 78) dX9_paced_38 sc_0 fl_9_40 rfl rfl hvc_0_5 ?_
        refine EV.aload_n dX9_paced_41 rfl rfl ?_
        refine FV.getF (v := 20) dX9_paced_42 sc_0 fl_9_19 rfl rfl hvc_0_1 ?_
        refine FV.getF (v := 21) dX9_paced_45 sc_20 fl_9_94 rfl rfl hvc_20_2 ?_
        refine EV.iload_n dX9_paced_48 rfl rfl ?_
        obtain ⟨g10, hf⟩ := pv_gd hf
        obtain ⟨x11, ex11, hf⟩ := pv_bo hf
        have mx11 : x11 ∈ pv_l5 := ex11 ▸ mq_21 _ (by omega)
        refine FV.aald (a := 0) (v := x11) dX9_paced_49 sc_21 (by decide) g10.1 g10.2 (j := (Int.toNat (a1))) rfl rfl (by rw [hq_21 _ (by omega), ex11]) ?_
        refine EV.aload_n dX9_paced_50 rfl rfl ?_
        refine FV.getF (v := 20) dX9_paced_51 sc_0 fl_9_19 rfl rfl hvc_0_1 ?_
        refine FV.getF (v := 23) dX9_paced_54 sc_20 fl_9_117 rfl rfl hvc_20_4 ?_
        refine EV.iload_n dX9_paced_57 rfl rfl ?_
        obtain ⟨h13, hc12, hf⟩ := pv_c1o hf
        refine EV.invV (As := [.inr (.inr (x11)), .inr (.inr (23)), .inl (a3)]) (st := []) (d1 := d - 1) (sh1 := pv_SC) (h1 := MC h13) (r1 := none) dX9_paced_58 sc_78 (by decide) md_X1_take ml_X9_230 im_X1_take se_X1_take (tX1_take (by omega) (mx11) ((by decide : 23 ∈ pv_l2)) hc12) (by omega) rfl rfl (Nat.le_of_ble_eq_true rfl) ⟨[], (List.append_nil _).symm⟩ ?_
        refine EV.aload_n dX9_paced_61 rfl rfl ?_
        refine FV.getF (v := 78) dX9_paced_62 sc_0 fl_9_40 rfl rfl hvc_0_5 ?_
        refine EV.aload_n dX9_paced_65 rfl rfl ?_
        refine FV.getF (v := 20) dX9_paced_66 sc_0 fl_9_19 rfl rfl hvc_0_1 ?_
        refine FV.getF (v := 22) dX9_paced_69 sc_20 fl_9_105 rfl rfl hvc_20_3 ?_
        refine EV.iload_n dX9_paced_72 rfl rfl ?_
        obtain ⟨g14, hf⟩ := pv_gd hf
        obtain ⟨x15, ex15, hf⟩ := pv_bo hf
        have mx15 : x15 ∈ pv_l0 := ex15 ▸ mq_22 _ (by omega)
        refine FV.aald (a := 1) (v := x15) dX9_paced_73 sc_22 (by decide) g14.1 g14.2 (j := (Int.toNat (a2))) rfl rfl (by rw [hq_22 _ (by omega), ex15]) ?_
        refine EV.iload dX9_paced_74 rfl ?_
        obtain ⟨h17, hc16, hf⟩ := pv_c1o hf
        refine EV.invV (As := [.inr (.inr (x15)), .inl (a4)]) (st := []) (d1 := d - 1) (sh1 := pv_SC) (h1 := MC h17) (r1 := none) dX9_paced_76 sc_78 (by decide) md_X1_bendBy ml_X9_234 im_X1_bendBy se_X1_bendBy (tX1_bendBy (by omega) (mx15) hc16) (by omega) rfl rfl (Nat.le_of_ble_eq_true rfl) ⟨[], (List.append_nil _).symm⟩ ?_
        refine EV.aload_n dX9_paced_79 rfl rfl ?_
        refine FV.getF (v := 78) dX9_paced_80 sc_0 fl_9_40 rfl rfl hvc_0_5 ?_
        refine EV.iconst dX9_paced_83 (by decide) (by decide) ?_
        refine EV.iconst dX9_paced_84 (by decide) (by decide) ?_
        obtain ⟨h19, r20, hc18, hf⟩ := pv_c2o hf
        refine EV.invV (As := [.inl (-1), .inl (0)]) (st := []) (d1 := d - 1) (sh1 := pv_SC) (h1 := MC h19) (r1 := (some (.inl r20))) dX9_paced_85 sc_78 (by decide) md_X1_sendWaves ml_X9_238 im_X1_sendWaves se_X1_sendWaves (tX1_sendWaves (by omega)  hc18) (by omega) rfl rfl (Nat.le_of_ble_eq_true rfl) ⟨[], (List.append_nil _).symm⟩ ?_
        refine EV.eqS (st2 := [.inl (r20)]) rfl ?_
        exact FV.iret dX9_paced_88 hf
      · have hf := pv_gp hf q9
        refine EV.aload_n dX9_paced_30 rfl rfl ?_
        refine EV.bipush dX9_paced_31 (by decide) (by decide) ?_
        obtain ⟨h22, r23, hc21, hf⟩ := pv_c2o hf
        refine EV.invV (As := [.inl (-3)]) (st := []) (d1 := d - 1) (sh1 := pv_SC) (h1 := MC h22) (r1 := (some (.inl r23))) dX9_paced_33 sc_0 (by decide) md_X9_refuse ml_X9_59 im_X9_refuse se_X9_refuse (tX9_refuse (by omega)  hc21) (by omega) rfl rfl (Nat.le_of_ble_eq_true rfl) ⟨[], (List.append_nil _).symm⟩ ?_
        refine EV.eqS (st2 := [.inl (r23)]) rfl ?_
        exact FV.iret dX9_paced_36 hf
    · have hf := pv_gp hf q6
      refine EV.weak (L2 := [some (.inr (.inr (0))), none, none, none, none]) (And.intro rfl trivial) ?_
      exact tX9_paced_15 hd    hf

noncomputable def fX9_turned_15 (N : Nat)  (a1 : Int) (a2 : Int) (a3 : Int) (a4 : Int)  (h : pv_H) : Option (pv_H × Int) :=
  pv_c2b (fX9_refuse N (-2) h) fun h21 r22 => some (h21, r22)

noncomputable def fX9_turned_35 (N : Nat)  (a1 : Int) (a2 : Int) (a3 : Int) (a4 : Int)  (h : pv_H) : Option (pv_H × Int) :=
  pv_c2b (fX9_refuse N (-3) h) fun h24 r25 => some (h24, r25)

noncomputable def fX9_turned (N : Nat) (a1 : Int) (a2 : Int) (a3 : Int) (a4 : Int) (h : pv_H) : Option (pv_H × Int) :=
  pv_c1 (fX9_hasRod N a1 h) fun r2 => if r2 = 0 then (fX9_turned_15 N  a1 a2 a3 a4  h) else (pv_c1 (fX9_hasDoings N a2 h) fun r5 => if r5 = 0 then (fX9_turned_15 N  a1 a2 a3 a4  h) else (if a4 < 0 then (fX9_turned_35 N  a1 a2 a3 a4  h) else (if a4 ≤ 999 then (if 0 ≤ a1 ∧ a1 < 4 then (pv_b (35 + 6 * (Int.toNat (a1))) fun x10 => pv_c1 (fX1_take N x10 23 a3 h) fun h12 => if 0 ≤ a2 ∧ a2 < 4 then (pv_b (59 + 4 * (Int.toNat (a2))) fun x14 => pv_c1 (fX1_bendBy N x14 1 h12) fun h16 => pv_c2b (fX1_sendWaves N a4 0 h16) fun h18 r19 => some (h18, r19)) else none) else none) else (fX9_turned_35 N  a1 a2 a3 a4  h))))

set_option maxHeartbeats 4000000 in
set_option maxRecDepth 20000 in
theorem tX9_turned_15 {d N : Nat}  {a1 : Int} {a2 : Int} {a3 : Int} {a4 : Int}  {h h' : pv_H} {r : Int} (hd : 6 ≤ d)    (hf : fX9_turned_15 N  a1 a2 a3 a4  h = some (h', r)) : EV RX9 cX9_turned 5 (some .int) false d pv_SC (MC h') (some (.inl r)) 15 [some (.inr (.inr (0))), none, none, none, none] [] pv_SC (MC h) := by
  unfold fX9_turned_15 at hf
  refine EV.aload_n dX9_turned_15 rfl rfl ?_
  refine EV.bipush dX9_turned_16 (by decide) (by decide) ?_
  obtain ⟨h21, r22, hc20, hf⟩ := pv_c2o hf
  refine EV.invV (As := [.inl (-2)]) (st := []) (d1 := d - 1) (sh1 := pv_SC) (h1 := MC h21) (r1 := (some (.inl r22))) dX9_turned_18 sc_0 (by decide) md_X9_refuse ml_X9_59 im_X9_refuse se_X9_refuse (tX9_refuse (by omega)  hc20) (by omega) rfl rfl (Nat.le_of_ble_eq_true rfl) ⟨[], (List.append_nil _).symm⟩ ?_
  refine EV.eqS (st2 := [.inl (r22)]) rfl ?_
  exact FV.iret dX9_turned_21 hf

set_option maxHeartbeats 4000000 in
set_option maxRecDepth 20000 in
theorem tX9_turned_35 {d N : Nat}  {a1 : Int} {a2 : Int} {a3 : Int} {a4 : Int}  {h h' : pv_H} {r : Int} (hd : 6 ≤ d)    (hf : fX9_turned_35 N  a1 a2 a3 a4  h = some (h', r)) : EV RX9 cX9_turned 5 (some .int) false d pv_SC (MC h') (some (.inl r)) 35 [some (.inr (.inr (0))), none, none, none, none] [] pv_SC (MC h) := by
  unfold fX9_turned_35 at hf
  refine EV.aload_n dX9_turned_35 rfl rfl ?_
  refine EV.bipush dX9_turned_36 (by decide) (by decide) ?_
  obtain ⟨h24, r25, hc23, hf⟩ := pv_c2o hf
  refine EV.invV (As := [.inl (-3)]) (st := []) (d1 := d - 1) (sh1 := pv_SC) (h1 := MC h24) (r1 := (some (.inl r25))) dX9_turned_38 sc_0 (by decide) md_X9_refuse ml_X9_59 im_X9_refuse se_X9_refuse (tX9_refuse (by omega)  hc23) (by omega) rfl rfl (Nat.le_of_ble_eq_true rfl) ⟨[], (List.append_nil _).symm⟩ ?_
  refine EV.eqS (st2 := [.inl (r25)]) rfl ?_
  exact FV.iret dX9_turned_41 hf

set_option maxHeartbeats 4000000 in
set_option maxRecDepth 20000 in
theorem tX9_turned {d N : Nat} {a1 : Int} {a2 : Int} {a3 : Int} {a4 : Int} {h h' : pv_H} {r : Int} (hd : 6 ≤ d)  (hf : fX9_turned N a1 a2 a3 a4 h = some (h', r)) : CALL yX9_turned cX9_turned 5 (some .int) d pv_SC (MC h) [.inr (.inr (0)), .inl (a1), .inl (a2), .inl (a3), .inl (a4)] pv_SC (MC h') (some (.inl r)) := by
  unfold fX9_turned at hf
  refine EV.call (own := RX9) (ini := false) rfl rfl (fun q => by cases q) ⟨[], (List.append_nil _).symm⟩ (Nat.le_of_ble_eq_true rfl) ?_
  refine EV.eqL (L2 := [some (.inr (.inr (0))), some (.inl (a1)), some (.inl (a2)), some (.inl (a3)), some (.inl (a4))]) rfl ?_
  refine EV.aload_n dX9_turned_0 rfl rfl ?_
  refine EV.iload_n dX9_turned_1 rfl rfl ?_
  obtain ⟨r2, hc1, hf⟩ := pv_c1o hf
  refine EV.invV (As := [.inl (a1)]) (st := []) (d1 := d - 1) (sh1 := pv_SC) (h1 := MC h) (r1 := (some (.inl r2))) dX9_turned_2 sc_0 (by decide) md_X9_hasRod ml_X9_140 im_X9_hasRod se_X9_hasRod (tX9_hasRod (by omega)  hc1) (by omega) rfl rfl (Nat.le_of_ble_eq_true rfl) ⟨[], (List.append_nil _).symm⟩ ?_
  refine EV.eqS (st2 := [.inl (r2)]) rfl ?_
  refine EV.if_eq (tgt := 15) dX9_turned_5 (by decide) (fun q3 => ?_) (fun q3 => ?_)
  · have hf := pv_gp hf q3
    refine EV.weak (L2 := [some (.inr (.inr (0))), none, none, none, none]) (And.intro rfl trivial) ?_
    exact tX9_turned_15 hd    hf
  · have hf := pv_gn hf q3
    refine EV.iload_n dX9_turned_8 rfl rfl ?_
    obtain ⟨r5, hc4, hf⟩ := pv_c1o hf
    refine EV.invS (As := [.inl (a2)]) (st := []) (d1 := d - 1) (sh1 := pv_SC) (h1 := MC h) (r1 := (some (.inl r5))) dX9_turned_9 md_X9_hasDoings ml_X9_172 st_X9_hasDoings (tX9_hasDoings (by omega)  hc4) (by omega) rfl rfl (Nat.le_of_ble_eq_true rfl) ⟨[], (List.append_nil _).symm⟩ ?_
    refine EV.eqS (st2 := [.inl (r5)]) rfl ?_
    refine EV.if_ne (tgt := 22) dX9_turned_12 (by decide) (fun q6 => ?_) (fun q6 => ?_)
    · have hf := pv_gn hf q6
      refine EV.iload dX9_turned_22 rfl ?_
      refine EV.if_lt (tgt := 35) dX9_turned_24 (by decide) (fun q7 => ?_) (fun q7 => ?_)
      · have hf := pv_gp hf q7
        refine EV.weak (L2 := [some (.inr (.inr (0))), none, none, none, none]) (And.intro rfl trivial) ?_
        exact tX9_turned_35 hd    hf
      · have hf := pv_gn hf q7
        refine EV.iload dX9_turned_27 rfl ?_
        refine EV.sipush dX9_turned_29 (by decide) (by decide) ?_
        refine EV.icmp_le (tgt := 42) dX9_turned_32 (by decide) (fun q8 => ?_) (fun q8 => ?_)
        · have hf := pv_gp hf q8
          refine EV.aload_n dX9_turned_42 rfl rfl ?_
          refine FV.getF (v := 78) dX9_turned_43 sc_0 fl_9_40 rfl rfl hvc_0_5 ?_
          refine EV.aload_n dX9_turned_46 rfl rfl ?_
          refine FV.getF (v := 20) dX9_turned_47 sc_0 fl_9_19 rfl rfl hvc_0_1 ?_
          refine FV.getF (v := 21) dX9_turned_50 sc_20 fl_9_94 rfl rfl hvc_20_2 ?_
          refine EV.iload_n dX9_turned_53 rfl rfl ?_
          obtain ⟨g9, hf⟩ := pv_gd hf
          obtain ⟨x10, ex10, hf⟩ := pv_bo hf
          have mx10 : x10 ∈ pv_l5 := ex10 ▸ mq_21 _ (by omega)
          refine FV.aald (a := 0) (v := x10) dX9_turned_54 sc_21 (by decide) g9.1 g9.2 (j := (Int.toNat (a1))) rfl rfl (by rw [hq_21 _ (by omega), ex10]) ?_
          refine EV.aload_n dX9_turned_55 rfl rfl ?_
          refine FV.getF (v := 20) dX9_turned_56 sc_0 fl_9_19 rfl rfl hvc_0_1 ?_
          refine FV.getF (v := 23) dX9_turned_59 sc_20 fl_9_117 rfl rfl hvc_20_4 ?_
          refine EV.iload_n dX9_turned_62 rfl rfl ?_
          obtain ⟨h12, hc11, hf⟩ := pv_c1o hf
          refine EV.invV (As := [.inr (.inr (x10)), .inr (.inr (23)), .inl (a3)]) (st := []) (d1 := d - 1) (sh1 := pv_SC) (h1 := MC h12) (r1 := none) dX9_turned_63 sc_78 (by decide) md_X1_take ml_X9_230 im_X1_take se_X1_take (tX1_take (by omega) (mx10) ((by decide : 23 ∈ pv_l2)) hc11) (by omega) rfl rfl (Nat.le_of_ble_eq_true rfl) ⟨[], (List.append_nil _).symm⟩ ?_
          refine EV.aload_n dX9_turned_66 rfl rfl ?_
          refine FV.getF (v := 78) dX9_turned_67 sc_0 fl_9_40 rfl rfl hvc_0_5 ?_
          refine EV.aload_n dX9_turned_70 rfl rfl ?_
          refine FV.getF (v := 20) dX9_turned_71 sc_0 fl_9_19 rfl rfl hvc_0_1 ?_
          refine FV.getF (v := 22) dX9_turned_74 sc_20 fl_9_105 rfl rfl hvc_20_3 ?_
          refine EV.iload_n dX9_turned_77 rfl rfl ?_
          obtain ⟨g13, hf⟩ := pv_gd hf
          obtain ⟨x14, ex14, hf⟩ := pv_bo hf
          have mx14 : x14 ∈ pv_l0 := ex14 ▸ mq_22 _ (by omega)
          refine FV.aald (a := 1) (v := x14) dX9_turned_78 sc_22 (by decide) g13.1 g13.2 (j := (Int.toNat (a2))) rfl rfl (by rw [hq_22 _ (by omega), ex14]) ?_
          refine EV.iconst dX9_turned_79 (by decide) (by decide) ?_
          obtain ⟨h16, hc15, hf⟩ := pv_c1o hf
          refine EV.invV (As := [.inr (.inr (x14)), .inl (1)]) (st := []) (d1 := d - 1) (sh1 := pv_SC) (h1 := MC h16) (r1 := none) dX9_turned_80 sc_78 (by decide) md_X1_bendBy ml_X9_234 im_X1_bendBy se_X1_bendBy (tX1_bendBy (by omega) (mx14) hc15) (by omega) rfl rfl (Nat.le_of_ble_eq_true rfl) ⟨[], (List.append_nil _).symm⟩ ?_
          refine EV.aload_n dX9_turned_83 rfl rfl ?_
          refine FV.getF (v := 78) dX9_turned_84 sc_0 fl_9_40 rfl rfl hvc_0_5 ?_
          refine EV.iload dX9_turned_87 rfl ?_
          refine EV.iconst dX9_turned_89 (by decide) (by decide) ?_
          obtain ⟨h18, r19, hc17, hf⟩ := pv_c2o hf
          refine EV.invV (As := [.inl (a4), .inl (0)]) (st := []) (d1 := d - 1) (sh1 := pv_SC) (h1 := MC h18) (r1 := (some (.inl r19))) dX9_turned_90 sc_78 (by decide) md_X1_sendWaves ml_X9_238 im_X1_sendWaves se_X1_sendWaves (tX1_sendWaves (by omega)  hc17) (by omega) rfl rfl (Nat.le_of_ble_eq_true rfl) ⟨[], (List.append_nil _).symm⟩ ?_
          refine EV.eqS (st2 := [.inl (r19)]) rfl ?_
          exact FV.iret dX9_turned_93 hf
        · have hf := pv_gn hf q8
          refine EV.weak (L2 := [some (.inr (.inr (0))), none, none, none, none]) (And.intro rfl trivial) ?_
          exact tX9_turned_35 hd    hf
    · have hf := pv_gp hf q6
      refine EV.weak (L2 := [some (.inr (.inr (0))), none, none, none, none]) (And.intro rfl trivial) ?_
      exact tX9_turned_15 hd    hf

noncomputable def fX9_leastTurn_116 (N : Nat) (k45 : Int → pv_H → Option (pv_H × Int)) (a1 : Int) (a2 : Int) (a3 : Int) (a4 : Int) (v5 : Int) (h : pv_H) : Option (pv_H × Int) :=
  pv_b (pv_w (v5 + 1)) fun x21 => k45 (x21) h

noncomputable def fX9_leastTurn_92 (N : Nat) (k45 : Int → pv_H → Option (pv_H × Int)) (a1 : Int) (a2 : Int) (a3 : Int) (a4 : Int) (v5 : Int) (s0 : Int) (h : pv_H) : Option (pv_H × Int) :=
  if s0 = 0 then (fX9_leastTurn_116 N (k45) a1 a2 a3 a4 (v5) h) else (pv_c2b (fX1_sendWaves N v5 0 h) fun h18 r19 => if r19 = 2 then (some (h18, v5)) else (fX9_leastTurn_116 N (k45) a1 a2 a3 a4 (v5) h18))

noncomputable def fX9_leastTurn_87 (N : Nat) (k45 : Int → pv_H → Option (pv_H × Int)) (a1 : Int) (a2 : Int) (a3 : Int) (a4 : Int) (v5 : Int) (h : pv_H) : Option (pv_H × Int) :=
  fX9_leastTurn_92 N (k45) a1 a2 a3 a4 (v5) (1) h

noncomputable def fX9_leastTurn_45 (N : Nat)  (a1 : Int) (a2 : Int) (a3 : Int) (a4 : Int) : Nat → Int → pv_H → Option (pv_H × Int)
  | 0, _, _ => none
  | n + 1, v5, h => if 999 < v5 then (some (h, -1)) else (if v5 = 0 then (fX9_leastTurn_87 N (fun v5_ hh => fX9_leastTurn_45 N  a1 a2 a3 a4 n v5_ hh) a1 a2 a3 a4 (v5) h) else (pv_c1 (fX2_offBy N 23 v5 h) fun r12 => pv_c1 (fX2_offBy N 23 (pv_w (v5 - 1)) h) fun r14 => if r12 = r14 then (fX9_leastTurn_92 N (fun v5_ hh => fX9_leastTurn_45 N  a1 a2 a3 a4 n v5_ hh) a1 a2 a3 a4 (v5) (0) h) else (fX9_leastTurn_87 N (fun v5_ hh => fX9_leastTurn_45 N  a1 a2 a3 a4 n v5_ hh) a1 a2 a3 a4 (v5) h)))

noncomputable def fX9_leastTurn (N : Nat) (a1 : Int) (a2 : Int) (a3 : Int) (a4 : Int) (h : pv_H) : Option (pv_H × Int) :=
  if 0 ≤ a1 ∧ a1 < 4 then (pv_b (35 + 6 * (Int.toNat (a1))) fun x2 => pv_c1 (fX1_take N x2 23 a3 h) fun h4 => if 0 ≤ a2 ∧ a2 < 4 then (pv_b (59 + 4 * (Int.toNat (a2))) fun x6 => pv_c1 (fX1_bendBy N x6 a4 h4) fun h8 => fX9_leastTurn_45 N  a1 a2 a3 a4 N (0) h8) else none) else none

set_option maxHeartbeats 4000000 in
set_option maxRecDepth 20000 in
theorem tX9_leastTurn_116 {d N : Nat} {k45 : Int → pv_H → Option (pv_H × Int)} {a1 : Int} {a2 : Int} {a3 : Int} {a4 : Int} {v5 : Int} {h h' : pv_H} {r : Int} (hd : 6 ≤ d) (hk45 : ∀ (v5 : Int)  (hh : pv_H), k45 v5 hh = some (h', r) → EV RX9 cX9_leastTurn 7 (some .int) false d pv_SC (MC h') (some (.inl r)) 45 [some (.inr (.inr (0))), none, none, none, none, some (.inl (v5)), none] [] pv_SC (MC hh))   (hf : fX9_leastTurn_116 N k45 a1 a2 a3 a4 v5 h = some (h', r)) : EV RX9 cX9_leastTurn 7 (some .int) false d pv_SC (MC h') (some (.inl r)) 116 [some (.inr (.inr (0))), none, none, none, none, some (.inl (v5)), none] [] pv_SC (MC h) := by
  unfold fX9_leastTurn_116 at hf
  obtain ⟨x21, ex21, hf⟩ := pv_bo hf
  refine FV.inc (L2 := [some (.inr (.inr (0))), none, none, none, none, some (.inl (x21)), none]) dX9_leastTurn_116 rfl (Nat.le_of_ble_eq_true rfl) ex21 rfl ?_
  refine EV.goto (tgt := 45) dX9_leastTurn_119 (by decide) ?_
  refine EV.weak (L2 := [some (.inr (.inr (0))), none, none, none, none, some (.inl (x21)), none]) (And.intro rfl (And.intro rfl trivial)) ?_
  exact hk45 _  _ hf

set_option maxHeartbeats 4000000 in
set_option maxRecDepth 20000 in
theorem tX9_leastTurn_92 {d N : Nat} {k45 : Int → pv_H → Option (pv_H × Int)} {a1 : Int} {a2 : Int} {a3 : Int} {a4 : Int} {v5 : Int} {s0 : Int} {h h' : pv_H} {r : Int} (hd : 6 ≤ d) (hk45 : ∀ (v5 : Int)  (hh : pv_H), k45 v5 hh = some (h', r) → EV RX9 cX9_leastTurn 7 (some .int) false d pv_SC (MC h') (some (.inl r)) 45 [some (.inr (.inr (0))), none, none, none, none, some (.inl (v5)), none] [] pv_SC (MC hh))   (hf : fX9_leastTurn_92 N k45 a1 a2 a3 a4 v5 s0 h = some (h', r)) : EV RX9 cX9_leastTurn 7 (some .int) false d pv_SC (MC h') (some (.inl r)) 92 [some (.inr (.inr (0))), none, none, none, none, some (.inl (v5)), none] [.inl (s0)] pv_SC (MC h) := by
  unfold fX9_leastTurn_92 at hf
  refine FV.stiw (L2 := [some (.inr (.inr (0))), none, none, none, none, some (.inl (v5)), some (.inl (s0))]) dX9_leastTurn_92 (Nat.le_of_ble_eq_true rfl) rfl rfl ?_
  refine EV.iload dX9_leastTurn_94 rfl ?_
  refine EV.if_eq (tgt := 116) dX9_leastTurn_96 (by decide) (fun q16 => ?_) (fun q16 => ?_)
  · have hf := pv_gp hf q16
    refine EV.weak (L2 := [some (.inr (.inr (0))), none, none, none, none, some (.inl (v5)), none]) (And.intro rfl (And.intro rfl trivial)) ?_
    exact tX9_leastTurn_116 hd (hk45)   hf
  · have hf := pv_gn hf q16
    refine EV.aload_n dX9_leastTurn_99 rfl rfl ?_
    refine FV.getF (v := 78) dX9_leastTurn_100 sc_0 fl_9_40 rfl rfl hvc_0_5 ?_
    refine EV.iload dX9_leastTurn_103 rfl ?_
    refine EV.iconst dX9_leastTurn_105 (by decide) (by decide) ?_
    obtain ⟨h18, r19, hc17, hf⟩ := pv_c2o hf
    refine EV.invV (As := [.inl (v5), .inl (0)]) (st := []) (d1 := d - 1) (sh1 := pv_SC) (h1 := MC h18) (r1 := (some (.inl r19))) dX9_leastTurn_106 sc_78 (by decide) md_X1_sendWaves ml_X9_238 im_X1_sendWaves se_X1_sendWaves (tX1_sendWaves (by omega)  hc17) (by omega) rfl rfl (Nat.le_of_ble_eq_true rfl) ⟨[], (List.append_nil _).symm⟩ ?_
    refine EV.eqS (st2 := [.inl (r19)]) rfl ?_
    refine EV.iconst dX9_leastTurn_109 (by decide) (by decide) ?_
    refine EV.icmp_ne (tgt := 116) dX9_leastTurn_110 (by decide) (fun q20 => ?_) (fun q20 => ?_)
    · have hf := pv_gn hf q20
      refine EV.weak (L2 := [some (.inr (.inr (0))), none, none, none, none, some (.inl (v5)), none]) (And.intro rfl (And.intro rfl trivial)) ?_
      exact tX9_leastTurn_116 hd (hk45)   hf
    · have hf := pv_gp hf q20
      refine EV.iload dX9_leastTurn_113 rfl ?_
      exact FV.iret dX9_leastTurn_115 hf

set_option maxHeartbeats 4000000 in
set_option maxRecDepth 20000 in
theorem tX9_leastTurn_87 {d N : Nat} {k45 : Int → pv_H → Option (pv_H × Int)} {a1 : Int} {a2 : Int} {a3 : Int} {a4 : Int} {v5 : Int} {h h' : pv_H} {r : Int} (hd : 6 ≤ d) (hk45 : ∀ (v5 : Int)  (hh : pv_H), k45 v5 hh = some (h', r) → EV RX9 cX9_leastTurn 7 (some .int) false d pv_SC (MC h') (some (.inl r)) 45 [some (.inr (.inr (0))), none, none, none, none, some (.inl (v5)), none] [] pv_SC (MC hh))   (hf : fX9_leastTurn_87 N k45 a1 a2 a3 a4 v5 h = some (h', r)) : EV RX9 cX9_leastTurn 7 (some .int) false d pv_SC (MC h') (some (.inl r)) 87 [some (.inr (.inr (0))), none, none, none, none, some (.inl (v5)), none] [] pv_SC (MC h) := by
  unfold fX9_leastTurn_87 at hf
  refine EV.iconst dX9_leastTurn_87 (by decide) (by decide) ?_
  refine EV.goto (tgt := 92) dX9_leastTurn_88 (by decide) ?_
  refine EV.weak (L2 := [some (.inr (.inr (0))), none, none, none, none, some (.inl (v5)), none]) (And.intro rfl (And.intro rfl trivial)) ?_
  exact tX9_leastTurn_92 hd (hk45)   hf

set_option maxHeartbeats 4000000 in
set_option maxRecDepth 20000 in
theorem tX9_leastTurn_45 {d N : Nat}  {a1 : Int} {a2 : Int} {a3 : Int} {a4 : Int} {h' : pv_H} {r : Int} (hd : 6 ≤ d)   : ∀ (n : Nat) (v5 : Int)  (h : pv_H), fX9_leastTurn_45 N  a1 a2 a3 a4 n v5 h = some (h', r) → EV RX9 cX9_leastTurn 7 (some .int) false d pv_SC (MC h') (some (.inl r)) 45 [some (.inr (.inr (0))), none, none, none, none, some (.inl (v5)), none] [] pv_SC (MC h) := by
  intro n
  induction n with
  | zero =>
    intro v5  h hf
    cases hf
  | succ n ih =>
    intro v5  h hf
    rw [fX9_leastTurn_45] at hf
    refine EV.iload dX9_leastTurn_45 rfl ?_
    refine EV.sipush dX9_leastTurn_47 (by decide) (by decide) ?_
    refine EV.icmp_gt (tgt := 122) dX9_leastTurn_50 (by decide) (fun q9 => ?_) (fun q9 => ?_)
    · have hf := pv_gp hf q9
      refine EV.iconst dX9_leastTurn_122 (by decide) (by decide) ?_
      exact FV.iret dX9_leastTurn_123 hf
    · have hf := pv_gn hf q9
      refine EV.iload dX9_leastTurn_53 rfl ?_
      refine EV.if_eq (tgt := 87) dX9_leastTurn_55 (by decide) (fun q10 => ?_) (fun q10 => ?_)
      · have hf := pv_gp hf q10
        refine EV.weak (L2 := [some (.inr (.inr (0))), none, none, none, none, some (.inl (v5)), none]) (And.intro rfl (And.intro rfl trivial)) ?_
        exact tX9_leastTurn_87 hd (ih)   hf
      · have hf := pv_gn hf q10
        refine EV.aload_n dX9_leastTurn_58 rfl rfl ?_
        refine FV.getF (v := 20) dX9_leastTurn_59 sc_0 fl_9_19 rfl rfl hvc_0_1 ?_
        refine FV.getF (v := 23) dX9_leastTurn_62 sc_20 fl_9_117 rfl rfl hvc_20_4 ?_
        refine EV.iload dX9_leastTurn_65 rfl ?_
        obtain ⟨r12, hc11, hf⟩ := pv_c1o hf
        refine EV.invV (As := [.inl (v5)]) (st := []) (d1 := d - 1) (sh1 := pv_SC) (h1 := MC h) (r1 := (some (.inl r12))) dX9_leastTurn_67 sc_23 (by decide) md_X2_offBy ml_X9_269 im_X2_offBy se_X2_offBy (tX2_offBy (by omega) ((by decide : 23 ∈ pv_l2)) hc11) (by omega) rfl rfl (Nat.le_of_ble_eq_true rfl) ⟨[], (List.append_nil _).symm⟩ ?_
        refine EV.eqS (st2 := [.inl (r12)]) rfl ?_
        refine EV.aload_n dX9_leastTurn_70 rfl rfl ?_
        refine FV.getF (v := 20) dX9_leastTurn_71 sc_0 fl_9_19 rfl rfl hvc_0_1 ?_
        refine FV.getF (v := 23) dX9_leastTurn_74 sc_20 fl_9_117 rfl rfl hvc_20_4 ?_
        refine EV.iload dX9_leastTurn_77 rfl ?_
        refine EV.iconst dX9_leastTurn_79 (by decide) (by decide) ?_
        refine EV.isub dX9_leastTurn_80 ?_
        obtain ⟨r14, hc13, hf⟩ := pv_c1o hf
        refine EV.invV (As := [.inl (pv_w (v5 - 1))]) (st := [.inl (r12)]) (d1 := d - 1) (sh1 := pv_SC) (h1 := MC h) (r1 := (some (.inl r14))) dX9_leastTurn_81 sc_23 (by decide) md_X2_offBy ml_X9_269 im_X2_offBy se_X2_offBy (tX2_offBy (by omega) ((by decide : 23 ∈ pv_l2)) hc13) (by omega) rfl rfl (Nat.le_of_ble_eq_true rfl) ⟨[], (List.append_nil _).symm⟩ ?_
        refine EV.eqS (st2 := [.inl (r14), .inl (r12)]) rfl ?_
        refine EV.icmp_eq (tgt := 91) dX9_leastTurn_84 (by decide) (fun q15 => ?_) (fun q15 => ?_)
        · have hf := pv_gp hf q15
          refine EV.iconst dX9_leastTurn_91 (by decide) (by decide) ?_
          refine EV.weak (L2 := [some (.inr (.inr (0))), none, none, none, none, some (.inl (v5)), none]) (And.intro rfl (And.intro rfl trivial)) ?_
          exact tX9_leastTurn_92 hd (ih)   hf
        · have hf := pv_gn hf q15
          refine EV.weak (L2 := [some (.inr (.inr (0))), none, none, none, none, some (.inl (v5)), none]) (And.intro rfl (And.intro rfl trivial)) ?_
          exact tX9_leastTurn_87 hd (ih)   hf

set_option maxHeartbeats 4000000 in
set_option maxRecDepth 20000 in
theorem tX9_leastTurn {d N : Nat} {a1 : Int} {a2 : Int} {a3 : Int} {a4 : Int} {h h' : pv_H} {r : Int} (hd : 6 ≤ d)  (hf : fX9_leastTurn N a1 a2 a3 a4 h = some (h', r)) : CALL yX9_leastTurn cX9_leastTurn 7 (some .int) d pv_SC (MC h) [.inr (.inr (0)), .inl (a1), .inl (a2), .inl (a3), .inl (a4)] pv_SC (MC h') (some (.inl r)) := by
  unfold fX9_leastTurn at hf
  refine EV.call (own := RX9) (ini := false) rfl rfl (fun q => by cases q) ⟨[], (List.append_nil _).symm⟩ (Nat.le_of_ble_eq_true rfl) ?_
  refine EV.eqL (L2 := [some (.inr (.inr (0))), some (.inl (a1)), some (.inl (a2)), some (.inl (a3)), some (.inl (a4)), none, none]) rfl ?_
  refine EV.aload_n dX9_leastTurn_0 rfl rfl ?_
  refine FV.getF (v := 78) dX9_leastTurn_1 sc_0 fl_9_40 rfl rfl hvc_0_5 ?_
  refine EV.aload_n dX9_leastTurn_4 rfl rfl ?_
  refine FV.getF (v := 20) dX9_leastTurn_5 sc_0 fl_9_19 rfl rfl hvc_0_1 ?_
  refine FV.getF (v := 21) dX9_leastTurn_8 sc_20 fl_9_94 rfl rfl hvc_20_2 ?_
  refine EV.iload_n dX9_leastTurn_11 rfl rfl ?_
  obtain ⟨g1, hf⟩ := pv_gd hf
  obtain ⟨x2, ex2, hf⟩ := pv_bo hf
  have mx2 : x2 ∈ pv_l5 := ex2 ▸ mq_21 _ (by omega)
  refine FV.aald (a := 0) (v := x2) dX9_leastTurn_12 sc_21 (by decide) g1.1 g1.2 (j := (Int.toNat (a1))) rfl rfl (by rw [hq_21 _ (by omega), ex2]) ?_
  refine EV.aload_n dX9_leastTurn_13 rfl rfl ?_
  refine FV.getF (v := 20) dX9_leastTurn_14 sc_0 fl_9_19 rfl rfl hvc_0_1 ?_
  refine FV.getF (v := 23) dX9_leastTurn_17 sc_20 fl_9_117 rfl rfl hvc_20_4 ?_
  refine EV.iload_n dX9_leastTurn_20 rfl rfl ?_
  obtain ⟨h4, hc3, hf⟩ := pv_c1o hf
  refine EV.invV (As := [.inr (.inr (x2)), .inr (.inr (23)), .inl (a3)]) (st := []) (d1 := d - 1) (sh1 := pv_SC) (h1 := MC h4) (r1 := none) dX9_leastTurn_21 sc_78 (by decide) md_X1_take ml_X9_230 im_X1_take se_X1_take (tX1_take (by omega) (mx2) ((by decide : 23 ∈ pv_l2)) hc3) (by omega) rfl rfl (Nat.le_of_ble_eq_true rfl) ⟨[], (List.append_nil _).symm⟩ ?_
  refine EV.aload_n dX9_leastTurn_24 rfl rfl ?_
  refine FV.getF (v := 78) dX9_leastTurn_25 sc_0 fl_9_40 rfl rfl hvc_0_5 ?_
  refine EV.aload_n dX9_leastTurn_28 rfl rfl ?_
  refine FV.getF (v := 20) dX9_leastTurn_29 sc_0 fl_9_19 rfl rfl hvc_0_1 ?_
  refine FV.getF (v := 22) dX9_leastTurn_32 sc_20 fl_9_105 rfl rfl hvc_20_3 ?_
  refine EV.iload_n dX9_leastTurn_35 rfl rfl ?_
  obtain ⟨g5, hf⟩ := pv_gd hf
  obtain ⟨x6, ex6, hf⟩ := pv_bo hf
  have mx6 : x6 ∈ pv_l0 := ex6 ▸ mq_22 _ (by omega)
  refine FV.aald (a := 1) (v := x6) dX9_leastTurn_36 sc_22 (by decide) g5.1 g5.2 (j := (Int.toNat (a2))) rfl rfl (by rw [hq_22 _ (by omega), ex6]) ?_
  refine EV.iload dX9_leastTurn_37 rfl ?_
  obtain ⟨h8, hc7, hf⟩ := pv_c1o hf
  refine EV.invV (As := [.inr (.inr (x6)), .inl (a4)]) (st := []) (d1 := d - 1) (sh1 := pv_SC) (h1 := MC h8) (r1 := none) dX9_leastTurn_39 sc_78 (by decide) md_X1_bendBy ml_X9_234 im_X1_bendBy se_X1_bendBy (tX1_bendBy (by omega) (mx6) hc7) (by omega) rfl rfl (Nat.le_of_ble_eq_true rfl) ⟨[], (List.append_nil _).symm⟩ ?_
  refine EV.iconst dX9_leastTurn_42 (by decide) (by decide) ?_
  refine FV.stiw (L2 := [some (.inr (.inr (0))), some (.inl (a1)), some (.inl (a2)), some (.inl (a3)), some (.inl (a4)), some (.inl (0)), none]) dX9_leastTurn_43 (Nat.le_of_ble_eq_true rfl) rfl rfl ?_
  refine EV.weak (L2 := [some (.inr (.inr (0))), none, none, none, none, some (.inl (0)), none]) (And.intro rfl (And.intro rfl trivial)) ?_
  exact tX9_leastTurn_45 hd   _ _  _ hf

noncomputable def fX9_least_15 (N : Nat)  (a1 : Int) (a2 : Int) (a3 : Int)  (h : pv_H) : Option (pv_H × Int) :=
  pv_c2b (fX9_refuse N (-2) h) fun h11 r12 => some (h11, r12)

noncomputable def fX9_least (N : Nat) (a1 : Int) (a2 : Int) (a3 : Int) (h : pv_H) : Option (pv_H × Int) :=
  pv_c1 (fX9_hasRod N a1 h) fun r2 => if r2 = 0 then (fX9_least_15 N  a1 a2 a3  h) else (pv_c1 (fX9_hasDoings N a2 h) fun r5 => if r5 = 0 then (fX9_least_15 N  a1 a2 a3  h) else (pv_c2b (fX9_leastTurn N a1 a2 a3 1 h) fun h8 r9 => some (h8, r9)))

set_option maxHeartbeats 4000000 in
set_option maxRecDepth 20000 in
theorem tX9_least_15 {d N : Nat}  {a1 : Int} {a2 : Int} {a3 : Int}  {h h' : pv_H} {r : Int} (hd : 7 ≤ d)    (hf : fX9_least_15 N  a1 a2 a3  h = some (h', r)) : EV RX9 cX9_least 4 (some .int) false d pv_SC (MC h') (some (.inl r)) 15 [some (.inr (.inr (0))), none, none, none] [] pv_SC (MC h) := by
  unfold fX9_least_15 at hf
  refine EV.aload_n dX9_least_15 rfl rfl ?_
  refine EV.bipush dX9_least_16 (by decide) (by decide) ?_
  obtain ⟨h11, r12, hc10, hf⟩ := pv_c2o hf
  refine EV.invV (As := [.inl (-2)]) (st := []) (d1 := d - 1) (sh1 := pv_SC) (h1 := MC h11) (r1 := (some (.inl r12))) dX9_least_18 sc_0 (by decide) md_X9_refuse ml_X9_59 im_X9_refuse se_X9_refuse (tX9_refuse (by omega)  hc10) (by omega) rfl rfl (Nat.le_of_ble_eq_true rfl) ⟨[], (List.append_nil _).symm⟩ ?_
  refine EV.eqS (st2 := [.inl (r12)]) rfl ?_
  exact FV.iret dX9_least_21 hf

set_option maxHeartbeats 4000000 in
set_option maxRecDepth 20000 in
theorem tX9_least {d N : Nat} {a1 : Int} {a2 : Int} {a3 : Int} {h h' : pv_H} {r : Int} (hd : 7 ≤ d)  (hf : fX9_least N a1 a2 a3 h = some (h', r)) : CALL yX9_least cX9_least 4 (some .int) d pv_SC (MC h) [.inr (.inr (0)), .inl (a1), .inl (a2), .inl (a3)] pv_SC (MC h') (some (.inl r)) := by
  unfold fX9_least at hf
  refine EV.call (own := RX9) (ini := false) rfl rfl (fun q => by cases q) ⟨[], (List.append_nil _).symm⟩ (Nat.le_of_ble_eq_true rfl) ?_
  refine EV.eqL (L2 := [some (.inr (.inr (0))), some (.inl (a1)), some (.inl (a2)), some (.inl (a3))]) rfl ?_
  refine EV.aload_n dX9_least_0 rfl rfl ?_
  refine EV.iload_n dX9_least_1 rfl rfl ?_
  obtain ⟨r2, hc1, hf⟩ := pv_c1o hf
  refine EV.invV (As := [.inl (a1)]) (st := []) (d1 := d - 1) (sh1 := pv_SC) (h1 := MC h) (r1 := (some (.inl r2))) dX9_least_2 sc_0 (by decide) md_X9_hasRod ml_X9_140 im_X9_hasRod se_X9_hasRod (tX9_hasRod (by omega)  hc1) (by omega) rfl rfl (Nat.le_of_ble_eq_true rfl) ⟨[], (List.append_nil _).symm⟩ ?_
  refine EV.eqS (st2 := [.inl (r2)]) rfl ?_
  refine EV.if_eq (tgt := 15) dX9_least_5 (by decide) (fun q3 => ?_) (fun q3 => ?_)
  · have hf := pv_gp hf q3
    refine EV.weak (L2 := [some (.inr (.inr (0))), none, none, none]) (And.intro rfl trivial) ?_
    exact tX9_least_15 hd    hf
  · have hf := pv_gn hf q3
    refine EV.iload_n dX9_least_8 rfl rfl ?_
    obtain ⟨r5, hc4, hf⟩ := pv_c1o hf
    refine EV.invS (As := [.inl (a2)]) (st := []) (d1 := d - 1) (sh1 := pv_SC) (h1 := MC h) (r1 := (some (.inl r5))) dX9_least_9 md_X9_hasDoings ml_X9_172 st_X9_hasDoings (tX9_hasDoings (by omega)  hc4) (by omega) rfl rfl (Nat.le_of_ble_eq_true rfl) ⟨[], (List.append_nil _).symm⟩ ?_
    refine EV.eqS (st2 := [.inl (r5)]) rfl ?_
    refine EV.if_ne (tgt := 22) dX9_least_12 (by decide) (fun q6 => ?_) (fun q6 => ?_)
    · have hf := pv_gn hf q6
      refine EV.aload_n dX9_least_22 rfl rfl ?_
      refine EV.iload_n dX9_least_23 rfl rfl ?_
      refine EV.iload_n dX9_least_24 rfl rfl ?_
      refine EV.iload_n dX9_least_25 rfl rfl ?_
      refine EV.iconst dX9_least_26 (by decide) (by decide) ?_
      obtain ⟨h8, r9, hc7, hf⟩ := pv_c2o hf
      refine EV.invV (As := [.inl (a1), .inl (a2), .inl (a3), .inl (1)]) (st := []) (d1 := d - 1) (sh1 := pv_SC) (h1 := MC h8) (r1 := (some (.inl r9))) dX9_least_27 sc_0 (by decide) md_X9_leastTurn ml_X9_265 im_X9_leastTurn se_X9_leastTurn (tX9_leastTurn (by omega)  hc7) (by omega) rfl rfl (Nat.le_of_ble_eq_true rfl) ⟨[], (List.append_nil _).symm⟩ ?_
      refine EV.eqS (st2 := [.inl (r9)]) rfl ?_
      exact FV.iret dX9_least_30 hf
    · have hf := pv_gp hf q6
      refine EV.weak (L2 := [some (.inr (.inr (0))), none, none, none]) (And.intro rfl trivial) ?_
      exact tX9_least_15 hd    hf

noncomputable def fX9_line_15 (N : Nat)  (a1 : Int) (a2 : Int) (a3 : Int) (a4 : Int)  (h : pv_H) : Option (pv_H × Int) :=
  pv_c2b (fX9_refuse N (-2) h) fun h17 r18 => some (h17, r18)

noncomputable def fX9_line (N : Nat) (a1 : Int) (a2 : Int) (a3 : Int) (a4 : Int) (h : pv_H) : Option (pv_H × Int) :=
  pv_c1 (fX9_hasRod N a1 h) fun r2 => if r2 = 0 then (fX9_line_15 N  a1 a2 a3 a4  h) else (pv_c1 (fX9_hasDoings N a2 h) fun r5 => if r5 = 0 then (fX9_line_15 N  a1 a2 a3 a4  h) else (pv_c1 (fX9_isPace N a4 h) fun r8 => if r8 = 0 then (pv_c2b (fX9_refuse N (-3) h) fun h14 r15 => some (h14, r15)) else (pv_c2b (fX9_leastTurn N a1 a2 a3 a4 h) fun h11 r12 => some (h11, r12))))

set_option maxHeartbeats 4000000 in
set_option maxRecDepth 20000 in
theorem tX9_line_15 {d N : Nat}  {a1 : Int} {a2 : Int} {a3 : Int} {a4 : Int}  {h h' : pv_H} {r : Int} (hd : 7 ≤ d)    (hf : fX9_line_15 N  a1 a2 a3 a4  h = some (h', r)) : EV RX9 cX9_line 5 (some .int) false d pv_SC (MC h') (some (.inl r)) 15 [some (.inr (.inr (0))), none, none, none, none] [] pv_SC (MC h) := by
  unfold fX9_line_15 at hf
  refine EV.aload_n dX9_line_15 rfl rfl ?_
  refine EV.bipush dX9_line_16 (by decide) (by decide) ?_
  obtain ⟨h17, r18, hc16, hf⟩ := pv_c2o hf
  refine EV.invV (As := [.inl (-2)]) (st := []) (d1 := d - 1) (sh1 := pv_SC) (h1 := MC h17) (r1 := (some (.inl r18))) dX9_line_18 sc_0 (by decide) md_X9_refuse ml_X9_59 im_X9_refuse se_X9_refuse (tX9_refuse (by omega)  hc16) (by omega) rfl rfl (Nat.le_of_ble_eq_true rfl) ⟨[], (List.append_nil _).symm⟩ ?_
  refine EV.eqS (st2 := [.inl (r18)]) rfl ?_
  exact FV.iret dX9_line_21 hf

set_option maxHeartbeats 4000000 in
set_option maxRecDepth 20000 in
theorem tX9_line {d N : Nat} {a1 : Int} {a2 : Int} {a3 : Int} {a4 : Int} {h h' : pv_H} {r : Int} (hd : 7 ≤ d)  (hf : fX9_line N a1 a2 a3 a4 h = some (h', r)) : CALL yX9_line cX9_line 5 (some .int) d pv_SC (MC h) [.inr (.inr (0)), .inl (a1), .inl (a2), .inl (a3), .inl (a4)] pv_SC (MC h') (some (.inl r)) := by
  unfold fX9_line at hf
  refine EV.call (own := RX9) (ini := false) rfl rfl (fun q => by cases q) ⟨[], (List.append_nil _).symm⟩ (Nat.le_of_ble_eq_true rfl) ?_
  refine EV.eqL (L2 := [some (.inr (.inr (0))), some (.inl (a1)), some (.inl (a2)), some (.inl (a3)), some (.inl (a4))]) rfl ?_
  refine EV.aload_n dX9_line_0 rfl rfl ?_
  refine EV.iload_n dX9_line_1 rfl rfl ?_
  obtain ⟨r2, hc1, hf⟩ := pv_c1o hf
  refine EV.invV (As := [.inl (a1)]) (st := []) (d1 := d - 1) (sh1 := pv_SC) (h1 := MC h) (r1 := (some (.inl r2))) dX9_line_2 sc_0 (by decide) md_X9_hasRod ml_X9_140 im_X9_hasRod se_X9_hasRod (tX9_hasRod (by omega)  hc1) (by omega) rfl rfl (Nat.le_of_ble_eq_true rfl) ⟨[], (List.append_nil _).symm⟩ ?_
  refine EV.eqS (st2 := [.inl (r2)]) rfl ?_
  refine EV.if_eq (tgt := 15) dX9_line_5 (by decide) (fun q3 => ?_) (fun q3 => ?_)
  · have hf := pv_gp hf q3
    refine EV.weak (L2 := [some (.inr (.inr (0))), none, none, none, none]) (And.intro rfl trivial) ?_
    exact tX9_line_15 hd    hf
  · have hf := pv_gn hf q3
    refine EV.iload_n dX9_line_8 rfl rfl ?_
    obtain ⟨r5, hc4, hf⟩ := pv_c1o hf
    refine EV.invS (As := [.inl (a2)]) (st := []) (d1 := d - 1) (sh1 := pv_SC) (h1 := MC h) (r1 := (some (.inl r5))) dX9_line_9 md_X9_hasDoings ml_X9_172 st_X9_hasDoings (tX9_hasDoings (by omega)  hc4) (by omega) rfl rfl (Nat.le_of_ble_eq_true rfl) ⟨[], (List.append_nil _).symm⟩ ?_
    refine EV.eqS (st2 := [.inl (r5)]) rfl ?_
    refine EV.if_ne (tgt := 22) dX9_line_12 (by decide) (fun q6 => ?_) (fun q6 => ?_)
    · have hf := pv_gn hf q6
      refine EV.iload dX9_line_22 rfl ?_
      obtain ⟨r8, hc7, hf⟩ := pv_c1o hf
      refine EV.invS (As := [.inl (a4)]) (st := []) (d1 := d - 1) (sh1 := pv_SC) (h1 := MC h) (r1 := (some (.inl r8))) dX9_line_24 md_X9_isPace ml_X9_262 st_X9_isPace (tX9_isPace (by omega)  hc7) (by omega) rfl rfl (Nat.le_of_ble_eq_true rfl) ⟨[], (List.append_nil _).symm⟩ ?_
      refine EV.eqS (st2 := [.inl (r8)]) rfl ?_
      refine EV.if_ne (tgt := 37) dX9_line_27 (by decide) (fun q9 => ?_) (fun q9 => ?_)
      · have hf := pv_gn hf q9
        refine EV.aload_n dX9_line_37 rfl rfl ?_
        refine EV.iload_n dX9_line_38 rfl rfl ?_
        refine EV.iload_n dX9_line_39 rfl rfl ?_
        refine EV.iload_n dX9_line_40 rfl rfl ?_
        refine EV.iload dX9_line_41 rfl ?_
        obtain ⟨h11, r12, hc10, hf⟩ := pv_c2o hf
        refine EV.invV (As := [.inl (a1), .inl (a2), .inl (a3), .inl (a4)]) (st := []) (d1 := d - 1) (sh1 := pv_SC) (h1 := MC h11) (r1 := (some (.inl r12))) dX9_line_43 sc_0 (by decide) md_X9_leastTurn ml_X9_265 im_X9_leastTurn se_X9_leastTurn (tX9_leastTurn (by omega)  hc10) (by omega) rfl rfl (Nat.le_of_ble_eq_true rfl) ⟨[], (List.append_nil _).symm⟩ ?_
        refine EV.eqS (st2 := [.inl (r12)]) rfl ?_
        exact FV.iret dX9_line_46 hf
      · have hf := pv_gp hf q9
        refine EV.aload_n dX9_line_30 rfl rfl ?_
        refine EV.bipush dX9_line_31 (by decide) (by decide) ?_
        obtain ⟨h14, r15, hc13, hf⟩ := pv_c2o hf
        refine EV.invV (As := [.inl (-3)]) (st := []) (d1 := d - 1) (sh1 := pv_SC) (h1 := MC h14) (r1 := (some (.inl r15))) dX9_line_33 sc_0 (by decide) md_X9_refuse ml_X9_59 im_X9_refuse se_X9_refuse (tX9_refuse (by omega)  hc13) (by omega) rfl rfl (Nat.le_of_ble_eq_true rfl) ⟨[], (List.append_nil _).symm⟩ ?_
        refine EV.eqS (st2 := [.inl (r15)]) rfl ?_
        exact FV.iret dX9_line_36 hf
    · have hf := pv_gp hf q6
      refine EV.weak (L2 := [some (.inr (.inr (0))), none, none, none, none]) (And.intro rfl trivial) ?_
      exact tX9_line_15 hd    hf

noncomputable def fX9_piecesNotched (N : Nat) (a1 : Int) (a2 : Int) (a3 : Int) (a4 : Int) (h : pv_H) : Option (pv_H × Int) :=
  if 0 ≤ a3 ∧ a3 < 60 then (pv_b (h 102 (Int.toNat (a3))) fun x2 => if 0 ≤ a3 ∧ a3 < 60 then (pv_b (pv_up h 102 (Int.toNat (a3)) a4) fun h4 => pv_c1 (fX1_take N 99 23 a2 h4) fun h6 => if 0 ≤ a3 ∧ a3 < 60 then (pv_b (pv_up h6 102 (Int.toNat (a3)) x2) fun h8 => if 0 ≤ a1 ∧ a1 < 4 then (pv_b (59 + 4 * (Int.toNat (a1))) fun x10 => pv_c1 (fX1_bendBy N x10 1 h8) fun h12 => pv_c2b (fX1_sendWaves N 0 0 h12) fun h14 r15 => some (h14, r15)) else none) else none) else none) else none

set_option maxHeartbeats 4000000 in
set_option maxRecDepth 20000 in
theorem tX9_piecesNotched {d N : Nat} {a1 : Int} {a2 : Int} {a3 : Int} {a4 : Int} {h h' : pv_H} {r : Int} (hd : 6 ≤ d)  (hf : fX9_piecesNotched N a1 a2 a3 a4 h = some (h', r)) : CALL yX9_piecesNotched cX9_piecesNotched 6 (some .int) d pv_SC (MC h) [.inr (.inr (0)), .inl (a1), .inl (a2), .inl (a3), .inl (a4)] pv_SC (MC h') (some (.inl r)) := by
  unfold fX9_piecesNotched at hf
  refine EV.call (own := RX9) (ini := false) rfl rfl (fun q => by cases q) ⟨[], (List.append_nil _).symm⟩ (Nat.le_of_ble_eq_true rfl) ?_
  refine EV.eqL (L2 := [some (.inr (.inr (0))), some (.inl (a1)), some (.inl (a2)), some (.inl (a3)), some (.inl (a4)), none]) rfl ?_
  refine EV.aload_n dX9_piecesNotched_0 rfl rfl ?_
  refine FV.getF (v := 99) dX9_piecesNotched_1 sc_0 fl_9_47 rfl rfl hvc_0_6 ?_
  refine FV.getF (v := 102) dX9_piecesNotched_4 sc_99 fl_9_159 rfl rfl hvc_99_4 ?_
  refine EV.iload_n dX9_piecesNotched_7 rfl rfl ?_
  obtain ⟨g1, hf⟩ := pv_gd hf
  refine FV.iald dX9_piecesNotched_8 sc_102 g1.1 g1.2 (j := (Int.toNat (a3))) rfl ?_
  obtain ⟨x2, ex2, hf⟩ := pv_bo hf
  refine FV.stiw (L2 := [some (.inr (.inr (0))), some (.inl (a1)), some (.inl (a2)), some (.inl (a3)), some (.inl (a4)), some (.inl (x2))]) dX9_piecesNotched_9 (Nat.le_of_ble_eq_true rfl) ex2 rfl ?_
  refine EV.aload_n dX9_piecesNotched_11 rfl rfl ?_
  refine FV.getF (v := 99) dX9_piecesNotched_12 sc_0 fl_9_47 rfl rfl hvc_0_6 ?_
  refine FV.getF (v := 102) dX9_piecesNotched_15 sc_99 fl_9_159 rfl rfl hvc_99_4 ?_
  refine EV.iload_n dX9_piecesNotched_18 rfl rfl ?_
  refine EV.iload dX9_piecesNotched_19 rfl ?_
  obtain ⟨g3, hf⟩ := pv_gd hf
  obtain ⟨h4, eh4, hf⟩ := pv_bo hf
  refine FV.iast dX9_piecesNotched_21 sc_102 g3.1 g3.2 (j := (Int.toNat (a3))) rfl eh4 ?_
  refine EV.aload_n dX9_piecesNotched_22 rfl rfl ?_
  refine FV.getF (v := 78) dX9_piecesNotched_23 sc_0 fl_9_40 rfl rfl hvc_0_5 ?_
  refine EV.aload_n dX9_piecesNotched_26 rfl rfl ?_
  refine FV.getF (v := 99) dX9_piecesNotched_27 sc_0 fl_9_47 rfl rfl hvc_0_6 ?_
  refine EV.aload_n dX9_piecesNotched_30 rfl rfl ?_
  refine FV.getF (v := 20) dX9_piecesNotched_31 sc_0 fl_9_19 rfl rfl hvc_0_1 ?_
  refine FV.getF (v := 23) dX9_piecesNotched_34 sc_20 fl_9_117 rfl rfl hvc_20_4 ?_
  refine EV.iload_n dX9_piecesNotched_37 rfl rfl ?_
  obtain ⟨h6, hc5, hf⟩ := pv_c1o hf
  refine EV.invV (As := [.inr (.inr (99)), .inr (.inr (23)), .inl (a2)]) (st := []) (d1 := d - 1) (sh1 := pv_SC) (h1 := MC h6) (r1 := none) dX9_piecesNotched_38 sc_78 (by decide) md_X1_take ml_X9_230 im_X1_take se_X1_take (tX1_take (by omega) ((by decide : 99 ∈ pv_l5)) ((by decide : 23 ∈ pv_l2)) hc5) (by omega) rfl rfl (Nat.le_of_ble_eq_true rfl) ⟨[], (List.append_nil _).symm⟩ ?_
  refine EV.aload_n dX9_piecesNotched_41 rfl rfl ?_
  refine FV.getF (v := 99) dX9_piecesNotched_42 sc_0 fl_9_47 rfl rfl hvc_0_6 ?_
  refine FV.getF (v := 102) dX9_piecesNotched_45 sc_99 fl_9_159 rfl rfl hvc_99_4 ?_
  refine EV.iload_n dX9_piecesNotched_48 rfl rfl ?_
  refine EV.iload dX9_piecesNotched_49 rfl ?_
  obtain ⟨g7, hf⟩ := pv_gd hf
  obtain ⟨h8, eh8, hf⟩ := pv_bo hf
  refine FV.iast dX9_piecesNotched_51 sc_102 g7.1 g7.2 (j := (Int.toNat (a3))) rfl eh8 ?_
  refine EV.aload_n dX9_piecesNotched_52 rfl rfl ?_
  refine FV.getF (v := 78) dX9_piecesNotched_53 sc_0 fl_9_40 rfl rfl hvc_0_5 ?_
  refine EV.aload_n dX9_piecesNotched_56 rfl rfl ?_
  refine FV.getF (v := 20) dX9_piecesNotched_57 sc_0 fl_9_19 rfl rfl hvc_0_1 ?_
  refine FV.getF (v := 22) dX9_piecesNotched_60 sc_20 fl_9_105 rfl rfl hvc_20_3 ?_
  refine EV.iload_n dX9_piecesNotched_63 rfl rfl ?_
  obtain ⟨g9, hf⟩ := pv_gd hf
  obtain ⟨x10, ex10, hf⟩ := pv_bo hf
  have mx10 : x10 ∈ pv_l0 := ex10 ▸ mq_22 _ (by omega)
  refine FV.aald (a := 1) (v := x10) dX9_piecesNotched_64 sc_22 (by decide) g9.1 g9.2 (j := (Int.toNat (a1))) rfl rfl (by rw [hq_22 _ (by omega), ex10]) ?_
  refine EV.iconst dX9_piecesNotched_65 (by decide) (by decide) ?_
  obtain ⟨h12, hc11, hf⟩ := pv_c1o hf
  refine EV.invV (As := [.inr (.inr (x10)), .inl (1)]) (st := []) (d1 := d - 1) (sh1 := pv_SC) (h1 := MC h12) (r1 := none) dX9_piecesNotched_66 sc_78 (by decide) md_X1_bendBy ml_X9_234 im_X1_bendBy se_X1_bendBy (tX1_bendBy (by omega) (mx10) hc11) (by omega) rfl rfl (Nat.le_of_ble_eq_true rfl) ⟨[], (List.append_nil _).symm⟩ ?_
  refine EV.aload_n dX9_piecesNotched_69 rfl rfl ?_
  refine FV.getF (v := 78) dX9_piecesNotched_70 sc_0 fl_9_40 rfl rfl hvc_0_5 ?_
  refine EV.iconst dX9_piecesNotched_73 (by decide) (by decide) ?_
  refine EV.iconst dX9_piecesNotched_74 (by decide) (by decide) ?_
  obtain ⟨h14, r15, hc13, hf⟩ := pv_c2o hf
  refine EV.invV (As := [.inl (0), .inl (0)]) (st := []) (d1 := d - 1) (sh1 := pv_SC) (h1 := MC h14) (r1 := (some (.inl r15))) dX9_piecesNotched_75 sc_78 (by decide) md_X1_sendWaves ml_X9_238 im_X1_sendWaves se_X1_sendWaves (tX1_sendWaves (by omega)  hc13) (by omega) rfl rfl (Nat.le_of_ble_eq_true rfl) ⟨[], (List.append_nil _).symm⟩ ?_
  refine EV.eqS (st2 := [.inl (r15)]) rfl ?_
  exact FV.iret dX9_piecesNotched_78 hf

noncomputable def fX9_notched_17 (N : Nat)  (a1 : Int) (a2 : Int) (a3 : Int) (a4 : Int) (a5 : Int)  (h : pv_H) : Option (pv_H × Int) :=
  pv_c2b (fX9_refuse N (-2) h) fun h17 r18 => some (h17, r18)

noncomputable def fX9_notched_36 (N : Nat)  (a1 : Int) (a2 : Int) (a3 : Int) (a4 : Int) (a5 : Int)  (h : pv_H) : Option (pv_H × Int) :=
  pv_c2b (fX9_refuse N (-3) h) fun h20 r21 => some (h20, r21)

noncomputable def fX9_notched (N : Nat) (a1 : Int) (a2 : Int) (a3 : Int) (a4 : Int) (a5 : Int) (h : pv_H) : Option (pv_H × Int) :=
  pv_c1 (fX9_hasCell N a1 a4 h) fun r2 => if r2 = 0 then (fX9_notched_17 N  a1 a2 a3 a4 a5  h) else (pv_c1 (fX9_hasDoings N a2 h) fun r5 => if r5 = 0 then (fX9_notched_17 N  a1 a2 a3 a4 a5  h) else (if a5 < 0 then (fX9_notched_36 N  a1 a2 a3 a4 a5  h) else (if a5 ≤ 99 then (if 0 ≤ a1 ∧ a1 < 4 then (pv_b (35 + 6 * (Int.toNat (a1))) fun x10 => pv_c1 (fX5_copyFrom N 99 x10 h) fun h12 => pv_c2b (fX9_piecesNotched N a2 a3 a4 a5 h12) fun h14 r15 => some (h14, r15)) else none) else (fX9_notched_36 N  a1 a2 a3 a4 a5  h))))

set_option maxHeartbeats 4000000 in
set_option maxRecDepth 20000 in
theorem tX9_notched_17 {d N : Nat}  {a1 : Int} {a2 : Int} {a3 : Int} {a4 : Int} {a5 : Int}  {h h' : pv_H} {r : Int} (hd : 7 ≤ d)    (hf : fX9_notched_17 N  a1 a2 a3 a4 a5  h = some (h', r)) : EV RX9 cX9_notched 6 (some .int) false d pv_SC (MC h') (some (.inl r)) 17 [some (.inr (.inr (0))), none, none, none, none, none] [] pv_SC (MC h) := by
  unfold fX9_notched_17 at hf
  refine EV.aload_n dX9_notched_17 rfl rfl ?_
  refine EV.bipush dX9_notched_18 (by decide) (by decide) ?_
  obtain ⟨h17, r18, hc16, hf⟩ := pv_c2o hf
  refine EV.invV (As := [.inl (-2)]) (st := []) (d1 := d - 1) (sh1 := pv_SC) (h1 := MC h17) (r1 := (some (.inl r18))) dX9_notched_20 sc_0 (by decide) md_X9_refuse ml_X9_59 im_X9_refuse se_X9_refuse (tX9_refuse (by omega)  hc16) (by omega) rfl rfl (Nat.le_of_ble_eq_true rfl) ⟨[], (List.append_nil _).symm⟩ ?_
  refine EV.eqS (st2 := [.inl (r18)]) rfl ?_
  exact FV.iret dX9_notched_23 hf

set_option maxHeartbeats 4000000 in
set_option maxRecDepth 20000 in
theorem tX9_notched_36 {d N : Nat}  {a1 : Int} {a2 : Int} {a3 : Int} {a4 : Int} {a5 : Int}  {h h' : pv_H} {r : Int} (hd : 7 ≤ d)    (hf : fX9_notched_36 N  a1 a2 a3 a4 a5  h = some (h', r)) : EV RX9 cX9_notched 6 (some .int) false d pv_SC (MC h') (some (.inl r)) 36 [some (.inr (.inr (0))), none, none, none, none, none] [] pv_SC (MC h) := by
  unfold fX9_notched_36 at hf
  refine EV.aload_n dX9_notched_36 rfl rfl ?_
  refine EV.bipush dX9_notched_37 (by decide) (by decide) ?_
  obtain ⟨h20, r21, hc19, hf⟩ := pv_c2o hf
  refine EV.invV (As := [.inl (-3)]) (st := []) (d1 := d - 1) (sh1 := pv_SC) (h1 := MC h20) (r1 := (some (.inl r21))) dX9_notched_39 sc_0 (by decide) md_X9_refuse ml_X9_59 im_X9_refuse se_X9_refuse (tX9_refuse (by omega)  hc19) (by omega) rfl rfl (Nat.le_of_ble_eq_true rfl) ⟨[], (List.append_nil _).symm⟩ ?_
  refine EV.eqS (st2 := [.inl (r21)]) rfl ?_
  exact FV.iret dX9_notched_42 hf

set_option maxHeartbeats 4000000 in
set_option maxRecDepth 20000 in
theorem tX9_notched {d N : Nat} {a1 : Int} {a2 : Int} {a3 : Int} {a4 : Int} {a5 : Int} {h h' : pv_H} {r : Int} (hd : 7 ≤ d)  (hf : fX9_notched N a1 a2 a3 a4 a5 h = some (h', r)) : CALL yX9_notched cX9_notched 6 (some .int) d pv_SC (MC h) [.inr (.inr (0)), .inl (a1), .inl (a2), .inl (a3), .inl (a4), .inl (a5)] pv_SC (MC h') (some (.inl r)) := by
  unfold fX9_notched at hf
  refine EV.call (own := RX9) (ini := false) rfl rfl (fun q => by cases q) ⟨[], (List.append_nil _).symm⟩ (Nat.le_of_ble_eq_true rfl) ?_
  refine EV.eqL (L2 := [some (.inr (.inr (0))), some (.inl (a1)), some (.inl (a2)), some (.inl (a3)), some (.inl (a4)), some (.inl (a5))]) rfl ?_
  refine EV.aload_n dX9_notched_0 rfl rfl ?_
  refine EV.iload_n dX9_notched_1 rfl rfl ?_
  refine EV.iload dX9_notched_2 rfl ?_
  obtain ⟨r2, hc1, hf⟩ := pv_c1o hf
  refine EV.invV (As := [.inl (a1), .inl (a4)]) (st := []) (d1 := d - 1) (sh1 := pv_SC) (h1 := MC h) (r1 := (some (.inl r2))) dX9_notched_4 sc_0 (by decide) md_X9_hasCell ml_X9_150 im_X9_hasCell se_X9_hasCell (tX9_hasCell (by omega)  hc1) (by omega) rfl rfl (Nat.le_of_ble_eq_true rfl) ⟨[], (List.append_nil _).symm⟩ ?_
  refine EV.eqS (st2 := [.inl (r2)]) rfl ?_
  refine EV.if_eq (tgt := 17) dX9_notched_7 (by decide) (fun q3 => ?_) (fun q3 => ?_)
  · have hf := pv_gp hf q3
    refine EV.weak (L2 := [some (.inr (.inr (0))), none, none, none, none, none]) (And.intro rfl trivial) ?_
    exact tX9_notched_17 hd    hf
  · have hf := pv_gn hf q3
    refine EV.iload_n dX9_notched_10 rfl rfl ?_
    obtain ⟨r5, hc4, hf⟩ := pv_c1o hf
    refine EV.invS (As := [.inl (a2)]) (st := []) (d1 := d - 1) (sh1 := pv_SC) (h1 := MC h) (r1 := (some (.inl r5))) dX9_notched_11 md_X9_hasDoings ml_X9_172 st_X9_hasDoings (tX9_hasDoings (by omega)  hc4) (by omega) rfl rfl (Nat.le_of_ble_eq_true rfl) ⟨[], (List.append_nil _).symm⟩ ?_
    refine EV.eqS (st2 := [.inl (r5)]) rfl ?_
    refine EV.if_ne (tgt := 24) dX9_notched_14 (by decide) (fun q6 => ?_) (fun q6 => ?_)
    · have hf := pv_gn hf q6
      refine EV.iload dX9_notched_24 rfl ?_
      refine EV.if_lt (tgt := 36) dX9_notched_26 (by decide) (fun q7 => ?_) (fun q7 => ?_)
      · have hf := pv_gp hf q7
        refine EV.weak (L2 := [some (.inr (.inr (0))), none, none, none, none, none]) (And.intro rfl trivial) ?_
        exact tX9_notched_36 hd    hf
      · have hf := pv_gn hf q7
        refine EV.iload dX9_notched_29 rfl ?_
        refine EV.bipush dX9_notched_31 (by decide) (by decide) ?_
        refine EV.icmp_le (tgt := 43) dX9_notched_33 (by decide) (fun q8 => ?_) (fun q8 => ?_)
        · have hf := pv_gp hf q8
          refine EV.aload_n dX9_notched_43 rfl rfl ?_
          refine FV.getF (v := 99) dX9_notched_44 sc_0 fl_9_47 rfl rfl hvc_0_6 ?_
          refine EV.aload_n dX9_notched_47 rfl rfl ?_
          refine FV.getF (v := 20) dX9_notched_48 sc_0 fl_9_19 rfl rfl hvc_0_1 ?_
          refine FV.getF (v := 21) dX9_notched_51 sc_20 fl_9_94 rfl rfl hvc_20_2 ?_
          refine EV.iload_n dX9_notched_54 rfl rfl ?_
          obtain ⟨g9, hf⟩ := pv_gd hf
          obtain ⟨x10, ex10, hf⟩ := pv_bo hf
          have mx10 : x10 ∈ pv_l5 := ex10 ▸ mq_21 _ (by omega)
          refine FV.aald (a := 0) (v := x10) dX9_notched_55 sc_21 (by decide) g9.1 g9.2 (j := (Int.toNat (a1))) rfl rfl (by rw [hq_21 _ (by omega), ex10]) ?_
          obtain ⟨h12, hc11, hf⟩ := pv_c1o hf
          refine EV.invV (As := [.inr (.inr (x10))]) (st := []) (d1 := d - 1) (sh1 := pv_SC) (h1 := MC h12) (r1 := none) dX9_notched_56 sc_99 (by decide) md_X5_copyFrom ml_X9_101 im_X5_copyFrom se_X5_copyFrom (tX5_copyFrom (by omega) ((by decide : 99 ∈ pv_l5)) (mx10) hc11) (by omega) rfl rfl (Nat.le_of_ble_eq_true rfl) ⟨[], (List.append_nil _).symm⟩ ?_
          refine EV.aload_n dX9_notched_59 rfl rfl ?_
          refine EV.iload_n dX9_notched_60 rfl rfl ?_
          refine EV.iload_n dX9_notched_61 rfl rfl ?_
          refine EV.iload dX9_notched_62 rfl ?_
          refine EV.iload dX9_notched_64 rfl ?_
          obtain ⟨h14, r15, hc13, hf⟩ := pv_c2o hf
          refine EV.invV (As := [.inl (a2), .inl (a3), .inl (a4), .inl (a5)]) (st := []) (d1 := d - 1) (sh1 := pv_SC) (h1 := MC h14) (r1 := (some (.inl r15))) dX9_notched_66 sc_0 (by decide) md_X9_piecesNotched ml_X9_272 im_X9_piecesNotched se_X9_piecesNotched (tX9_piecesNotched (by omega)  hc13) (by omega) rfl rfl (Nat.le_of_ble_eq_true rfl) ⟨[], (List.append_nil _).symm⟩ ?_
          refine EV.eqS (st2 := [.inl (r15)]) rfl ?_
          exact FV.iret dX9_notched_69 hf
        · have hf := pv_gn hf q8
          refine EV.weak (L2 := [some (.inr (.inr (0))), none, none, none, none, none]) (And.intro rfl trivial) ?_
          exact tX9_notched_36 hd    hf
    · have hf := pv_gp hf q6
      refine EV.weak (L2 := [some (.inr (.inr (0))), none, none, none, none, none]) (And.intro rfl trivial) ?_
      exact tX9_notched_17 hd    hf

noncomputable def fX9_notch_26 (N : Nat)  (a1 : Int) (a2 : Int) (a3 : Int) (a4 : Int)  (h : pv_H) : Option (pv_H × Int) :=
  pv_c2b (fX9_refuse N (-2) h) fun h14 r15 => some (h14, r15)

noncomputable def fX9_notch_100 (N : Nat)  (a1 : Int) (a2 : Int) (a3 : Int) (a4 : Int) (s0 : Int) (h : pv_H) : Option (pv_H × Int) :=
  some (h, s0)

noncomputable def fX9_notch_62 (N : Nat) (k52 : Int → pv_H → Option (pv_H × Int)) (a1 : Int) (a2 : Int) (a3 : Int) (a4 : Int) : Nat → Int → Int → pv_H → Option (pv_H × Int)
  | 0, _, _, _ => none
  | n + 1, v5, v6, h => if (h 99 0) ≤ v6 then (pv_b (pv_w (v5 + 1)) fun x18 => k52 (x18) h) else (pv_c2b (fX9_piecesNotched N a2 a3 v6 v5 h) fun h20 r21 => if r21 = 2 then (if a4 = 0 then (fX9_notch_100 N  a1 a2 a3 a4 (v5) h20) else (fX9_notch_100 N  a1 a2 a3 a4 (v6) h20)) else (pv_b (pv_w (v6 + 1)) fun x23 => fX9_notch_62 N k52 a1 a2 a3 a4 n (v5) (x23) h20))

noncomputable def fX9_notch_52 (N : Nat)  (a1 : Int) (a2 : Int) (a3 : Int) (a4 : Int) : Nat → Int → pv_H → Option (pv_H × Int)
  | 0, _, _ => none
  | n + 1, v5, h => if 99 < v5 then (some (h, -1)) else (fX9_notch_62 N (fun v5_ hh => fX9_notch_52 N  a1 a2 a3 a4 n v5_ hh) a1 a2 a3 a4 N (v5) (0) h)

noncomputable def fX9_notch (N : Nat) (a1 : Int) (a2 : Int) (a3 : Int) (a4 : Int) (h : pv_H) : Option (pv_H × Int) :=
  pv_c1 (fX9_hasRod N a1 h) fun r2 => if r2 = 0 then (fX9_notch_26 N  a1 a2 a3 a4  h) else (pv_c1 (fX9_hasDoings N a2 h) fun r5 => if r5 = 0 then (fX9_notch_26 N  a1 a2 a3 a4  h) else (if a4 < 0 then (fX9_notch_26 N  a1 a2 a3 a4  h) else (if a4 ≤ 1 then (if 0 ≤ a1 ∧ a1 < 4 then (pv_b (35 + 6 * (Int.toNat (a1))) fun x10 => pv_c1 (fX5_copyFrom N 99 x10 h) fun h12 => fX9_notch_52 N  a1 a2 a3 a4 N (0) h12) else none) else (fX9_notch_26 N  a1 a2 a3 a4  h))))

set_option maxHeartbeats 4000000 in
set_option maxRecDepth 20000 in
theorem tX9_notch_26 {d N : Nat}  {a1 : Int} {a2 : Int} {a3 : Int} {a4 : Int}  {h h' : pv_H} {r : Int} (hd : 7 ≤ d)    (hf : fX9_notch_26 N  a1 a2 a3 a4  h = some (h', r)) : EV RX9 cX9_notch 7 (some .int) false d pv_SC (MC h') (some (.inl r)) 26 [some (.inr (.inr (0))), none, none, none, none, none, none] [] pv_SC (MC h) := by
  unfold fX9_notch_26 at hf
  refine EV.aload_n dX9_notch_26 rfl rfl ?_
  refine EV.bipush dX9_notch_27 (by decide) (by decide) ?_
  obtain ⟨h14, r15, hc13, hf⟩ := pv_c2o hf
  refine EV.invV (As := [.inl (-2)]) (st := []) (d1 := d - 1) (sh1 := pv_SC) (h1 := MC h14) (r1 := (some (.inl r15))) dX9_notch_29 sc_0 (by decide) md_X9_refuse ml_X9_59 im_X9_refuse se_X9_refuse (tX9_refuse (by omega)  hc13) (by omega) rfl rfl (Nat.le_of_ble_eq_true rfl) ⟨[], (List.append_nil _).symm⟩ ?_
  refine EV.eqS (st2 := [.inl (r15)]) rfl ?_
  exact FV.iret dX9_notch_32 hf

set_option maxHeartbeats 4000000 in
set_option maxRecDepth 20000 in
theorem tX9_notch_100 {d N : Nat}  {a1 : Int} {a2 : Int} {a3 : Int} {a4 : Int} {s0 : Int} {h h' : pv_H} {r : Int} (hd : 7 ≤ d)    (hf : fX9_notch_100 N  a1 a2 a3 a4 s0 h = some (h', r)) : EV RX9 cX9_notch 7 (some .int) false d pv_SC (MC h') (some (.inl r)) 100 [none, none, none, none, none, none, none] [.inl (s0)] pv_SC (MC h) := by
  unfold fX9_notch_100 at hf
  exact FV.iret dX9_notch_100 hf

set_option maxHeartbeats 4000000 in
set_option maxRecDepth 20000 in
theorem tX9_notch_62 {d N : Nat} {k52 : Int → pv_H → Option (pv_H × Int)} {a1 : Int} {a2 : Int} {a3 : Int} {a4 : Int} {h' : pv_H} {r : Int} (hd : 7 ≤ d) (hk52 : ∀ (v5 : Int)  (hh : pv_H), k52 v5 hh = some (h', r) → EV RX9 cX9_notch 7 (some .int) false d pv_SC (MC h') (some (.inl r)) 52 [some (.inr (.inr (0))), none, some (.inl (a2)), some (.inl (a3)), some (.inl (a4)), some (.inl (v5)), none] [] pv_SC (MC hh))  : ∀ (n : Nat) (v5 : Int) (v6 : Int)  (h : pv_H), fX9_notch_62 N k52 a1 a2 a3 a4 n v5 v6 h = some (h', r) → EV RX9 cX9_notch 7 (some .int) false d pv_SC (MC h') (some (.inl r)) 62 [some (.inr (.inr (0))), none, some (.inl (a2)), some (.inl (a3)), some (.inl (a4)), some (.inl (v5)), some (.inl (v6))] [] pv_SC (MC h) := by
  intro n
  induction n with
  | zero =>
    intro v5 v6  h hf
    cases hf
  | succ n ih =>
    intro v5 v6  h hf
    rw [fX9_notch_62] at hf
    refine EV.iload dX9_notch_62 rfl ?_
    refine EV.aload_n dX9_notch_64 rfl rfl ?_
    refine FV.getF (v := 99) dX9_notch_65 sc_0 fl_9_47 rfl rfl hvc_0_6 ?_
    refine FV.getI dX9_notch_68 sc_99 fl_9_144 rfl ?_
    refine EV.icmp_ge (tgt := 107) dX9_notch_71 (by decide) (fun q17 => ?_) (fun q17 => ?_)
    · have hf := pv_gp hf q17
      obtain ⟨x18, ex18, hf⟩ := pv_bo hf
      refine FV.inc (L2 := [some (.inr (.inr (0))), none, some (.inl (a2)), some (.inl (a3)), some (.inl (a4)), some (.inl (x18)), some (.inl (v6))]) dX9_notch_107 rfl (Nat.le_of_ble_eq_true rfl) ex18 rfl ?_
      refine EV.goto (tgt := 52) dX9_notch_110 (by decide) ?_
      refine EV.weak (L2 := [some (.inr (.inr (0))), none, some (.inl (a2)), some (.inl (a3)), some (.inl (a4)), some (.inl (x18)), none]) (And.intro rfl (And.intro rfl (And.intro rfl (And.intro rfl (And.intro rfl trivial))))) ?_
      exact hk52 _  _ hf
    · have hf := pv_gn hf q17
      refine EV.aload_n dX9_notch_74 rfl rfl ?_
      refine EV.iload_n dX9_notch_75 rfl rfl ?_
      refine EV.iload_n dX9_notch_76 rfl rfl ?_
      refine EV.iload dX9_notch_77 rfl ?_
      refine EV.iload dX9_notch_79 rfl ?_
      obtain ⟨h20, r21, hc19, hf⟩ := pv_c2o hf
      refine EV.invV (As := [.inl (a2), .inl (a3), .inl (v6), .inl (v5)]) (st := []) (d1 := d - 1) (sh1 := pv_SC) (h1 := MC h20) (r1 := (some (.inl r21))) dX9_notch_81 sc_0 (by decide) md_X9_piecesNotched ml_X9_272 im_X9_piecesNotched se_X9_piecesNotched (tX9_piecesNotched (by omega)  hc19) (by omega) rfl rfl (Nat.le_of_ble_eq_true rfl) ⟨[], (List.append_nil _).symm⟩ ?_
      refine EV.eqS (st2 := [.inl (r21)]) rfl ?_
      refine EV.iconst dX9_notch_84 (by decide) (by decide) ?_
      refine EV.icmp_ne (tgt := 101) dX9_notch_85 (by decide) (fun q22 => ?_) (fun q22 => ?_)
      · have hf := pv_gn hf q22
        obtain ⟨x23, ex23, hf⟩ := pv_bo hf
        refine FV.inc (L2 := [some (.inr (.inr (0))), none, some (.inl (a2)), some (.inl (a3)), some (.inl (a4)), some (.inl (v5)), some (.inl (x23))]) dX9_notch_101 rfl (Nat.le_of_ble_eq_true rfl) ex23 rfl ?_
        refine EV.goto (tgt := 62) dX9_notch_104 (by decide) ?_
        refine EV.weak (L2 := [some (.inr (.inr (0))), none, some (.inl (a2)), some (.inl (a3)), some (.inl (a4)), some (.inl (v5)), some (.inl (x23))]) (And.intro rfl (And.intro rfl (And.intro rfl (And.intro rfl (And.intro rfl (And.intro rfl trivial)))))) ?_
        exact ih _ _  _ hf
      · have hf := pv_gp hf q22
        refine EV.iload dX9_notch_88 rfl ?_
        refine EV.if_ne (tgt := 98) dX9_notch_90 (by decide) (fun q24 => ?_) (fun q24 => ?_)
        · have hf := pv_gn hf q24
          refine EV.iload dX9_notch_98 rfl ?_
          refine EV.weak (L2 := [none, none, none, none, none, none, none]) trivial ?_
          exact tX9_notch_100 hd    hf
        · have hf := pv_gp hf q24
          refine EV.iload dX9_notch_93 rfl ?_
          refine EV.goto (tgt := 100) dX9_notch_95 (by decide) ?_
          refine EV.weak (L2 := [none, none, none, none, none, none, none]) trivial ?_
          exact tX9_notch_100 hd    hf

set_option maxHeartbeats 4000000 in
set_option maxRecDepth 20000 in
theorem tX9_notch_52 {d N : Nat}  {a1 : Int} {a2 : Int} {a3 : Int} {a4 : Int} {h' : pv_H} {r : Int} (hd : 7 ≤ d)   : ∀ (n : Nat) (v5 : Int)  (h : pv_H), fX9_notch_52 N  a1 a2 a3 a4 n v5 h = some (h', r) → EV RX9 cX9_notch 7 (some .int) false d pv_SC (MC h') (some (.inl r)) 52 [some (.inr (.inr (0))), none, some (.inl (a2)), some (.inl (a3)), some (.inl (a4)), some (.inl (v5)), none] [] pv_SC (MC h) := by
  intro n
  induction n with
  | zero =>
    intro v5  h hf
    cases hf
  | succ n ih =>
    intro v5  h hf
    rw [fX9_notch_52] at hf
    refine EV.iload dX9_notch_52 rfl ?_
    refine EV.bipush dX9_notch_54 (by decide) (by decide) ?_
    refine EV.icmp_gt (tgt := 113) dX9_notch_56 (by decide) (fun q16 => ?_) (fun q16 => ?_)
    · have hf := pv_gp hf q16
      refine EV.iconst dX9_notch_113 (by decide) (by decide) ?_
      exact FV.iret dX9_notch_114 hf
    · have hf := pv_gn hf q16
      refine EV.iconst dX9_notch_59 (by decide) (by decide) ?_
      refine FV.stiw (L2 := [some (.inr (.inr (0))), none, some (.inl (a2)), some (.inl (a3)), some (.inl (a4)), some (.inl (v5)), some (.inl (0))]) dX9_notch_60 (Nat.le_of_ble_eq_true rfl) rfl rfl ?_
      refine EV.weak (L2 := [some (.inr (.inr (0))), none, some (.inl (a2)), some (.inl (a3)), some (.inl (a4)), some (.inl (v5)), some (.inl (0))]) (And.intro rfl (And.intro rfl (And.intro rfl (And.intro rfl (And.intro rfl (And.intro rfl trivial)))))) ?_
      exact tX9_notch_62 hd (ih)  _ _ _  _ hf

set_option maxHeartbeats 4000000 in
set_option maxRecDepth 20000 in
theorem tX9_notch {d N : Nat} {a1 : Int} {a2 : Int} {a3 : Int} {a4 : Int} {h h' : pv_H} {r : Int} (hd : 7 ≤ d)  (hf : fX9_notch N a1 a2 a3 a4 h = some (h', r)) : CALL yX9_notch cX9_notch 7 (some .int) d pv_SC (MC h) [.inr (.inr (0)), .inl (a1), .inl (a2), .inl (a3), .inl (a4)] pv_SC (MC h') (some (.inl r)) := by
  unfold fX9_notch at hf
  refine EV.call (own := RX9) (ini := false) rfl rfl (fun q => by cases q) ⟨[], (List.append_nil _).symm⟩ (Nat.le_of_ble_eq_true rfl) ?_
  refine EV.eqL (L2 := [some (.inr (.inr (0))), some (.inl (a1)), some (.inl (a2)), some (.inl (a3)), some (.inl (a4)), none, none]) rfl ?_
  refine EV.aload_n dX9_notch_0 rfl rfl ?_
  refine EV.iload_n dX9_notch_1 rfl rfl ?_
  obtain ⟨r2, hc1, hf⟩ := pv_c1o hf
  refine EV.invV (As := [.inl (a1)]) (st := []) (d1 := d - 1) (sh1 := pv_SC) (h1 := MC h) (r1 := (some (.inl r2))) dX9_notch_2 sc_0 (by decide) md_X9_hasRod ml_X9_140 im_X9_hasRod se_X9_hasRod (tX9_hasRod (by omega)  hc1) (by omega) rfl rfl (Nat.le_of_ble_eq_true rfl) ⟨[], (List.append_nil _).symm⟩ ?_
  refine EV.eqS (st2 := [.inl (r2)]) rfl ?_
  refine EV.if_eq (tgt := 26) dX9_notch_5 (by decide) (fun q3 => ?_) (fun q3 => ?_)
  · have hf := pv_gp hf q3
    refine EV.weak (L2 := [some (.inr (.inr (0))), none, none, none, none, none, none]) (And.intro rfl trivial) ?_
    exact tX9_notch_26 hd    hf
  · have hf := pv_gn hf q3
    refine EV.iload_n dX9_notch_8 rfl rfl ?_
    obtain ⟨r5, hc4, hf⟩ := pv_c1o hf
    refine EV.invS (As := [.inl (a2)]) (st := []) (d1 := d - 1) (sh1 := pv_SC) (h1 := MC h) (r1 := (some (.inl r5))) dX9_notch_9 md_X9_hasDoings ml_X9_172 st_X9_hasDoings (tX9_hasDoings (by omega)  hc4) (by omega) rfl rfl (Nat.le_of_ble_eq_true rfl) ⟨[], (List.append_nil _).symm⟩ ?_
    refine EV.eqS (st2 := [.inl (r5)]) rfl ?_
    refine EV.if_eq (tgt := 26) dX9_notch_12 (by decide) (fun q6 => ?_) (fun q6 => ?_)
    · have hf := pv_gp hf q6
      refine EV.weak (L2 := [some (.inr (.inr (0))), none, none, none, none, none, none]) (And.intro rfl trivial) ?_
      exact tX9_notch_26 hd    hf
    · have hf := pv_gn hf q6
      refine EV.iload dX9_notch_15 rfl ?_
      refine EV.if_lt (tgt := 26) dX9_notch_17 (by decide) (fun q7 => ?_) (fun q7 => ?_)
      · have hf := pv_gp hf q7
        refine EV.weak (L2 := [some (.inr (.inr (0))), none, none, none, none, none, none]) (And.intro rfl trivial) ?_
        exact tX9_notch_26 hd    hf
      · have hf := pv_gn hf q7
        refine EV.iload dX9_notch_20 rfl ?_
        refine EV.iconst dX9_notch_22 (by decide) (by decide) ?_
        refine EV.icmp_le (tgt := 33) dX9_notch_23 (by decide) (fun q8 => ?_) (fun q8 => ?_)
        · have hf := pv_gp hf q8
          refine EV.aload_n dX9_notch_33 rfl rfl ?_
          refine FV.getF (v := 99) dX9_notch_34 sc_0 fl_9_47 rfl rfl hvc_0_6 ?_
          refine EV.aload_n dX9_notch_37 rfl rfl ?_
          refine FV.getF (v := 20) dX9_notch_38 sc_0 fl_9_19 rfl rfl hvc_0_1 ?_
          refine FV.getF (v := 21) dX9_notch_41 sc_20 fl_9_94 rfl rfl hvc_20_2 ?_
          refine EV.iload_n dX9_notch_44 rfl rfl ?_
          obtain ⟨g9, hf⟩ := pv_gd hf
          obtain ⟨x10, ex10, hf⟩ := pv_bo hf
          have mx10 : x10 ∈ pv_l5 := ex10 ▸ mq_21 _ (by omega)
          refine FV.aald (a := 0) (v := x10) dX9_notch_45 sc_21 (by decide) g9.1 g9.2 (j := (Int.toNat (a1))) rfl rfl (by rw [hq_21 _ (by omega), ex10]) ?_
          obtain ⟨h12, hc11, hf⟩ := pv_c1o hf
          refine EV.invV (As := [.inr (.inr (x10))]) (st := []) (d1 := d - 1) (sh1 := pv_SC) (h1 := MC h12) (r1 := none) dX9_notch_46 sc_99 (by decide) md_X5_copyFrom ml_X9_101 im_X5_copyFrom se_X5_copyFrom (tX5_copyFrom (by omega) ((by decide : 99 ∈ pv_l5)) (mx10) hc11) (by omega) rfl rfl (Nat.le_of_ble_eq_true rfl) ⟨[], (List.append_nil _).symm⟩ ?_
          refine EV.iconst dX9_notch_49 (by decide) (by decide) ?_
          refine FV.stiw (L2 := [some (.inr (.inr (0))), some (.inl (a1)), some (.inl (a2)), some (.inl (a3)), some (.inl (a4)), some (.inl (0)), none]) dX9_notch_50 (Nat.le_of_ble_eq_true rfl) rfl rfl ?_
          refine EV.weak (L2 := [some (.inr (.inr (0))), none, some (.inl (a2)), some (.inl (a3)), some (.inl (a4)), some (.inl (0)), none]) (And.intro rfl (And.intro rfl (And.intro rfl (And.intro rfl (And.intro rfl trivial))))) ?_
          exact tX9_notch_52 hd   _ _  _ hf
        · have hf := pv_gn hf q8
          refine EV.weak (L2 := [some (.inr (.inr (0))), none, none, none, none, none, none]) (And.intro rfl trivial) ?_
          exact tX9_notch_26 hd    hf

noncomputable def fX9_longer_15 (N : Nat)  (a1 : Int) (a2 : Int) (a3 : Int) (a4 : Int)  (h : pv_H) : Option (pv_H × Int) :=
  pv_c2b (fX9_refuse N (-2) h) fun h15 r16 => some (h15, r16)

noncomputable def fX9_longer_35 (N : Nat)  (a1 : Int) (a2 : Int) (a3 : Int) (a4 : Int)  (h : pv_H) : Option (pv_H × Int) :=
  pv_c2b (fX9_refuse N (-3) h) fun h18 r19 => some (h18, r19)

noncomputable def fX9_longer_73 (N : Nat)  (a1 : Int) (a2 : Int) (a3 : Int) (a4 : Int) : Nat → Int → pv_H → Option (pv_H × Int)
  | 0, _, _ => none
  | n + 1, v5, h => if a4 ≤ v5 then (if 0 ≤ a2 ∧ a2 < 4 then (pv_b (59 + 4 * (Int.toNat (a2))) fun x22 => pv_c2b (fX1_breakRod N 99 x22 23 a3 h) fun h24 r25 => some (h24, r25)) else none) else (if 0 ≤ a1 ∧ a1 < 4 then (pv_b (35 + 6 * (Int.toNat (a1))) fun x27 => pv_c1 (fX5_takeCell N 99 v5 x27 0 h) fun h29 => pv_b (pv_w (v5 + 1)) fun x30 => fX9_longer_73 N  a1 a2 a3 a4 n (x30) h29) else none)

noncomputable def fX9_longer (N : Nat) (a1 : Int) (a2 : Int) (a3 : Int) (a4 : Int) (h : pv_H) : Option (pv_H × Int) :=
  pv_c1 (fX9_hasRod N a1 h) fun r2 => if r2 = 0 then (fX9_longer_15 N  a1 a2 a3 a4  h) else (pv_c1 (fX9_hasDoings N a2 h) fun r5 => if r5 = 0 then (fX9_longer_15 N  a1 a2 a3 a4  h) else (if a4 < 3 then (fX9_longer_35 N  a1 a2 a3 a4  h) else (if a4 ≤ 60 then (pv_c1 (fX5_begin N 99 a4 h) fun h10 => if 0 ≤ a1 ∧ a1 < 4 then (pv_b (35 + 6 * (Int.toNat (a1))) fun x12 => pv_b (pv_up h10 99 1 (h10 x12 1)) fun h13 => fX9_longer_73 N  a1 a2 a3 a4 N (0) h13) else none) else (fX9_longer_35 N  a1 a2 a3 a4  h))))

set_option maxHeartbeats 4000000 in
set_option maxRecDepth 20000 in
theorem tX9_longer_15 {d N : Nat}  {a1 : Int} {a2 : Int} {a3 : Int} {a4 : Int}  {h h' : pv_H} {r : Int} (hd : 7 ≤ d)    (hf : fX9_longer_15 N  a1 a2 a3 a4  h = some (h', r)) : EV RX9 cX9_longer 6 (some .int) false d pv_SC (MC h') (some (.inl r)) 15 [some (.inr (.inr (0))), none, none, none, none, none] [] pv_SC (MC h) := by
  unfold fX9_longer_15 at hf
  refine EV.aload_n dX9_longer_15 rfl rfl ?_
  refine EV.bipush dX9_longer_16 (by decide) (by decide) ?_
  obtain ⟨h15, r16, hc14, hf⟩ := pv_c2o hf
  refine EV.invV (As := [.inl (-2)]) (st := []) (d1 := d - 1) (sh1 := pv_SC) (h1 := MC h15) (r1 := (some (.inl r16))) dX9_longer_18 sc_0 (by decide) md_X9_refuse ml_X9_59 im_X9_refuse se_X9_refuse (tX9_refuse (by omega)  hc14) (by omega) rfl rfl (Nat.le_of_ble_eq_true rfl) ⟨[], (List.append_nil _).symm⟩ ?_
  refine EV.eqS (st2 := [.inl (r16)]) rfl ?_
  exact FV.iret dX9_longer_21 hf

set_option maxHeartbeats 4000000 in
set_option maxRecDepth 20000 in
theorem tX9_longer_35 {d N : Nat}  {a1 : Int} {a2 : Int} {a3 : Int} {a4 : Int}  {h h' : pv_H} {r : Int} (hd : 7 ≤ d)    (hf : fX9_longer_35 N  a1 a2 a3 a4  h = some (h', r)) : EV RX9 cX9_longer 6 (some .int) false d pv_SC (MC h') (some (.inl r)) 35 [some (.inr (.inr (0))), none, none, none, none, none] [] pv_SC (MC h) := by
  unfold fX9_longer_35 at hf
  refine EV.aload_n dX9_longer_35 rfl rfl ?_
  refine EV.bipush dX9_longer_36 (by decide) (by decide) ?_
  obtain ⟨h18, r19, hc17, hf⟩ := pv_c2o hf
  refine EV.invV (As := [.inl (-3)]) (st := []) (d1 := d - 1) (sh1 := pv_SC) (h1 := MC h18) (r1 := (some (.inl r19))) dX9_longer_38 sc_0 (by decide) md_X9_refuse ml_X9_59 im_X9_refuse se_X9_refuse (tX9_refuse (by omega)  hc17) (by omega) rfl rfl (Nat.le_of_ble_eq_true rfl) ⟨[], (List.append_nil _).symm⟩ ?_
  refine EV.eqS (st2 := [.inl (r19)]) rfl ?_
  exact FV.iret dX9_longer_41 hf

set_option maxHeartbeats 4000000 in
set_option maxRecDepth 20000 in
theorem tX9_longer_73 {d N : Nat}  {a1 : Int} {a2 : Int} {a3 : Int} {a4 : Int} {h' : pv_H} {r : Int} (hd : 7 ≤ d)   : ∀ (n : Nat) (v5 : Int)  (h : pv_H), fX9_longer_73 N  a1 a2 a3 a4 n v5 h = some (h', r) → EV RX9 cX9_longer 6 (some .int) false d pv_SC (MC h') (some (.inl r)) 73 [some (.inr (.inr (0))), some (.inl (a1)), some (.inl (a2)), some (.inl (a3)), some (.inl (a4)), some (.inl (v5))] [] pv_SC (MC h) := by
  intro n
  induction n with
  | zero =>
    intro v5  h hf
    cases hf
  | succ n ih =>
    intro v5  h hf
    rw [fX9_longer_73] at hf
    refine EV.iload dX9_longer_73 rfl ?_
    refine EV.iload dX9_longer_75 rfl ?_
    refine EV.icmp_ge (tgt := 105) dX9_longer_77 (by decide) (fun q20 => ?_) (fun q20 => ?_)
    · have hf := pv_gp hf q20
      refine EV.aload_n dX9_longer_105 rfl rfl ?_
      refine FV.getF (v := 78) dX9_longer_106 sc_0 fl_9_40 rfl rfl hvc_0_5 ?_
      refine EV.aload_n dX9_longer_109 rfl rfl ?_
      refine FV.getF (v := 99) dX9_longer_110 sc_0 fl_9_47 rfl rfl hvc_0_6 ?_
      refine EV.aload_n dX9_longer_113 rfl rfl ?_
      refine FV.getF (v := 20) dX9_longer_114 sc_0 fl_9_19 rfl rfl hvc_0_1 ?_
      refine FV.getF (v := 22) dX9_longer_117 sc_20 fl_9_105 rfl rfl hvc_20_3 ?_
      refine EV.iload_n dX9_longer_120 rfl rfl ?_
      obtain ⟨g21, hf⟩ := pv_gd hf
      obtain ⟨x22, ex22, hf⟩ := pv_bo hf
      have mx22 : x22 ∈ pv_l0 := ex22 ▸ mq_22 _ (by omega)
      refine FV.aald (a := 1) (v := x22) dX9_longer_121 sc_22 (by decide) g21.1 g21.2 (j := (Int.toNat (a2))) rfl rfl (by rw [hq_22 _ (by omega), ex22]) ?_
      refine EV.aload_n dX9_longer_122 rfl rfl ?_
      refine FV.getF (v := 20) dX9_longer_123 sc_0 fl_9_19 rfl rfl hvc_0_1 ?_
      refine FV.getF (v := 23) dX9_longer_126 sc_20 fl_9_117 rfl rfl hvc_20_4 ?_
      refine EV.iload_n dX9_longer_129 rfl rfl ?_
      obtain ⟨h24, r25, hc23, hf⟩ := pv_c2o hf
      refine EV.invV (As := [.inr (.inr (99)), .inr (.inr (x22)), .inr (.inr (23)), .inl (a3)]) (st := []) (d1 := d - 1) (sh1 := pv_SC) (h1 := MC h24) (r1 := (some (.inl r25))) dX9_longer_130 sc_78 (by decide) md_X1_breakRod ml_X9_182 im_X1_breakRod se_X1_breakRod (tX1_breakRod (by omega) ((by decide : 99 ∈ pv_l5)) (mx22) ((by decide : 23 ∈ pv_l2)) hc23) (by omega) rfl rfl (Nat.le_of_ble_eq_true rfl) ⟨[], (List.append_nil _).symm⟩ ?_
      refine EV.eqS (st2 := [.inl (r25)]) rfl ?_
      exact FV.iret dX9_longer_133 hf
    · have hf := pv_gn hf q20
      refine EV.aload_n dX9_longer_80 rfl rfl ?_
      refine FV.getF (v := 99) dX9_longer_81 sc_0 fl_9_47 rfl rfl hvc_0_6 ?_
      refine EV.iload dX9_longer_84 rfl ?_
      refine EV.aload_n dX9_longer_86 rfl rfl ?_
      refine FV.getF (v := 20) dX9_longer_87 sc_0 fl_9_19 rfl rfl hvc_0_1 ?_
      refine FV.getF (v := 21) dX9_longer_90 sc_20 fl_9_94 rfl rfl hvc_20_2 ?_
      refine EV.iload_n dX9_longer_93 rfl rfl ?_
      obtain ⟨g26, hf⟩ := pv_gd hf
      obtain ⟨x27, ex27, hf⟩ := pv_bo hf
      have mx27 : x27 ∈ pv_l5 := ex27 ▸ mq_21 _ (by omega)
      refine FV.aald (a := 0) (v := x27) dX9_longer_94 sc_21 (by decide) g26.1 g26.2 (j := (Int.toNat (a1))) rfl rfl (by rw [hq_21 _ (by omega), ex27]) ?_
      refine EV.iconst dX9_longer_95 (by decide) (by decide) ?_
      obtain ⟨h29, hc28, hf⟩ := pv_c1o hf
      refine EV.invV (As := [.inl (v5), .inr (.inr (x27)), .inl (0)]) (st := []) (d1 := d - 1) (sh1 := pv_SC) (h1 := MC h29) (r1 := none) dX9_longer_96 sc_99 (by decide) md_X5_takeCell ml_X9_276 im_X5_takeCell se_X5_takeCell (tX5_takeCell (by omega) ((by decide : 99 ∈ pv_l5)) (mx27) hc28) (by omega) rfl rfl (Nat.le_of_ble_eq_true rfl) ⟨[], (List.append_nil _).symm⟩ ?_
      obtain ⟨x30, ex30, hf⟩ := pv_bo hf
      refine FV.inc (L2 := [some (.inr (.inr (0))), some (.inl (a1)), some (.inl (a2)), some (.inl (a3)), some (.inl (a4)), some (.inl (x30))]) dX9_longer_99 rfl (Nat.le_of_ble_eq_true rfl) ex30 rfl ?_
      refine EV.goto (tgt := 73) dX9_longer_102 (by decide) ?_
      refine EV.weak (L2 := [some (.inr (.inr (0))), some (.inl (a1)), some (.inl (a2)), some (.inl (a3)), some (.inl (a4)), some (.inl (x30))]) (And.intro rfl (And.intro rfl (And.intro rfl (And.intro rfl (And.intro rfl (And.intro rfl trivial)))))) ?_
      exact ih _  _ hf

set_option maxHeartbeats 4000000 in
set_option maxRecDepth 20000 in
theorem tX9_longer {d N : Nat} {a1 : Int} {a2 : Int} {a3 : Int} {a4 : Int} {h h' : pv_H} {r : Int} (hd : 7 ≤ d)  (hf : fX9_longer N a1 a2 a3 a4 h = some (h', r)) : CALL yX9_longer cX9_longer 6 (some .int) d pv_SC (MC h) [.inr (.inr (0)), .inl (a1), .inl (a2), .inl (a3), .inl (a4)] pv_SC (MC h') (some (.inl r)) := by
  unfold fX9_longer at hf
  refine EV.call (own := RX9) (ini := false) rfl rfl (fun q => by cases q) ⟨[], (List.append_nil _).symm⟩ (Nat.le_of_ble_eq_true rfl) ?_
  refine EV.eqL (L2 := [some (.inr (.inr (0))), some (.inl (a1)), some (.inl (a2)), some (.inl (a3)), some (.inl (a4)), none]) rfl ?_
  refine EV.aload_n dX9_longer_0 rfl rfl ?_
  refine EV.iload_n dX9_longer_1 rfl rfl ?_
  obtain ⟨r2, hc1, hf⟩ := pv_c1o hf
  refine EV.invV (As := [.inl (a1)]) (st := []) (d1 := d - 1) (sh1 := pv_SC) (h1 := MC h) (r1 := (some (.inl r2))) dX9_longer_2 sc_0 (by decide) md_X9_hasRod ml_X9_140 im_X9_hasRod se_X9_hasRod (tX9_hasRod (by omega)  hc1) (by omega) rfl rfl (Nat.le_of_ble_eq_true rfl) ⟨[], (List.append_nil _).symm⟩ ?_
  refine EV.eqS (st2 := [.inl (r2)]) rfl ?_
  refine EV.if_eq (tgt := 15) dX9_longer_5 (by decide) (fun q3 => ?_) (fun q3 => ?_)
  · have hf := pv_gp hf q3
    refine EV.weak (L2 := [some (.inr (.inr (0))), none, none, none, none, none]) (And.intro rfl trivial) ?_
    exact tX9_longer_15 hd    hf
  · have hf := pv_gn hf q3
    refine EV.iload_n dX9_longer_8 rfl rfl ?_
    obtain ⟨r5, hc4, hf⟩ := pv_c1o hf
    refine EV.invS (As := [.inl (a2)]) (st := []) (d1 := d - 1) (sh1 := pv_SC) (h1 := MC h) (r1 := (some (.inl r5))) dX9_longer_9 md_X9_hasDoings ml_X9_172 st_X9_hasDoings (tX9_hasDoings (by omega)  hc4) (by omega) rfl rfl (Nat.le_of_ble_eq_true rfl) ⟨[], (List.append_nil _).symm⟩ ?_
    refine EV.eqS (st2 := [.inl (r5)]) rfl ?_
    refine EV.if_ne (tgt := 22) dX9_longer_12 (by decide) (fun q6 => ?_) (fun q6 => ?_)
    · have hf := pv_gn hf q6
      refine EV.iload dX9_longer_22 rfl ?_
      refine EV.iconst dX9_longer_24 (by decide) (by decide) ?_
      refine EV.icmp_lt (tgt := 35) dX9_longer_25 (by decide) (fun q7 => ?_) (fun q7 => ?_)
      · have hf := pv_gp hf q7
        refine EV.weak (L2 := [some (.inr (.inr (0))), none, none, none, none, none]) (And.intro rfl trivial) ?_
        exact tX9_longer_35 hd    hf
      · have hf := pv_gn hf q7
        refine EV.iload dX9_longer_28 rfl ?_
        refine EV.bipush dX9_longer_30 (by decide) (by decide) ?_
        refine EV.icmp_le (tgt := 42) dX9_longer_32 (by decide) (fun q8 => ?_) (fun q8 => ?_)
        · have hf := pv_gp hf q8
          refine EV.aload_n dX9_longer_42 rfl rfl ?_
          refine FV.getF (v := 99) dX9_longer_43 sc_0 fl_9_47 rfl rfl hvc_0_6 ?_
          refine EV.iload dX9_longer_46 rfl ?_
          obtain ⟨h10, hc9, hf⟩ := pv_c1o hf
          refine EV.invV (As := [.inl (a4)]) (st := []) (d1 := d - 1) (sh1 := pv_SC) (h1 := MC h10) (r1 := none) dX9_longer_48 sc_99 (by decide) md_X5_begin ml_X9_275 im_X5_begin se_X5_begin (tX5_begin (by omega) ((by decide : 99 ∈ pv_l5)) hc9) (by omega) rfl rfl (Nat.le_of_ble_eq_true rfl) ⟨[], (List.append_nil _).symm⟩ ?_
          refine EV.aload_n dX9_longer_51 rfl rfl ?_
          refine FV.getF (v := 99) dX9_longer_52 sc_0 fl_9_47 rfl rfl hvc_0_6 ?_
          refine EV.aload_n dX9_longer_55 rfl rfl ?_
          refine FV.getF (v := 20) dX9_longer_56 sc_0 fl_9_19 rfl rfl hvc_0_1 ?_
          refine FV.getF (v := 21) dX9_longer_59 sc_20 fl_9_94 rfl rfl hvc_20_2 ?_
          refine EV.iload_n dX9_longer_62 rfl rfl ?_
          obtain ⟨g11, hf⟩ := pv_gd hf
          obtain ⟨x12, ex12, hf⟩ := pv_bo hf
          have mx12 : x12 ∈ pv_l5 := ex12 ▸ mq_21 _ (by omega)
          refine FV.aald (a := 0) (v := x12) dX9_longer_63 sc_21 (by decide) g11.1 g11.2 (j := (Int.toNat (a1))) rfl rfl (by rw [hq_21 _ (by omega), ex12]) ?_
          refine FV.getI dX9_longer_64 (sl5_0 _ mx12) fl_9_147 rfl ?_
          obtain ⟨h13, eh13, hf⟩ := pv_bo hf
          refine FV.putI dX9_longer_67 sc_99 fl_9_147 rfl rfl eh13 ?_
          refine EV.iconst dX9_longer_70 (by decide) (by decide) ?_
          refine FV.stiw (L2 := [some (.inr (.inr (0))), some (.inl (a1)), some (.inl (a2)), some (.inl (a3)), some (.inl (a4)), some (.inl (0))]) dX9_longer_71 (Nat.le_of_ble_eq_true rfl) rfl rfl ?_
          refine EV.weak (L2 := [some (.inr (.inr (0))), some (.inl (a1)), some (.inl (a2)), some (.inl (a3)), some (.inl (a4)), some (.inl (0))]) (And.intro rfl (And.intro rfl (And.intro rfl (And.intro rfl (And.intro rfl (And.intro rfl trivial)))))) ?_
          exact tX9_longer_73 hd   _ _  _ hf
        · have hf := pv_gn hf q8
          refine EV.weak (L2 := [some (.inr (.inr (0))), none, none, none, none, none]) (And.intro rfl trivial) ?_
          exact tX9_longer_35 hd    hf
    · have hf := pv_gp hf q6
      refine EV.weak (L2 := [some (.inr (.inr (0))), none, none, none, none, none]) (And.intro rfl trivial) ?_
      exact tX9_longer_15 hd    hf

noncomputable def fX9_thinner_15 (N : Nat)  (a1 : Int) (a2 : Int) (a3 : Int) (a4 : Int)  (h : pv_H) : Option (pv_H × Int) :=
  pv_c2b (fX9_refuse N (-2) h) fun h14 r15 => some (h14, r15)

noncomputable def fX9_thinner_35 (N : Nat)  (a1 : Int) (a2 : Int) (a3 : Int) (a4 : Int)  (h : pv_H) : Option (pv_H × Int) :=
  pv_c2b (fX9_refuse N (-3) h) fun h17 r18 => some (h17, r18)

noncomputable def fX9_thinner_61 (N : Nat)  (a1 : Int) (a2 : Int) (a3 : Int) (a4 : Int) : Nat → Int → pv_H → Option (pv_H × Int)
  | 0, _, _ => none
  | n + 1, v5, h => if (h 99 0) ≤ v5 then (if 0 ≤ a2 ∧ a2 < 4 then (pv_b (59 + 4 * (Int.toNat (a2))) fun x21 => pv_c2b (fX1_breakRod N 99 x21 23 a3 h) fun h23 r24 => some (h23, r24)) else none) else (if 0 ≤ v5 ∧ v5 < 60 then (if 0 ≤ v5 ∧ v5 < 60 then (pv_b (pv_up h 100 (Int.toNat (v5)) (max 1 (pv_w (Int.tdiv (pv_w ((h 100 (Int.toNat (v5))) * a4)) 100)))) fun h27 => if 0 ≤ v5 ∧ v5 < 60 then (if 0 ≤ v5 ∧ v5 < 60 then (pv_b (pv_up h27 101 (Int.toNat (v5)) (max 1 (pv_w (Int.tdiv (pv_w ((h27 101 (Int.toNat (v5))) * a4)) 100)))) fun h30 => pv_b (pv_w (v5 + 1)) fun x31 => fX9_thinner_61 N  a1 a2 a3 a4 n (x31) h30) else none) else none) else none) else none)

noncomputable def fX9_thinner (N : Nat) (a1 : Int) (a2 : Int) (a3 : Int) (a4 : Int) (h : pv_H) : Option (pv_H × Int) :=
  pv_c1 (fX9_hasRod N a1 h) fun r2 => if r2 = 0 then (fX9_thinner_15 N  a1 a2 a3 a4  h) else (pv_c1 (fX9_hasDoings N a2 h) fun r5 => if r5 = 0 then (fX9_thinner_15 N  a1 a2 a3 a4  h) else (if a4 < 1 then (fX9_thinner_35 N  a1 a2 a3 a4  h) else (if a4 ≤ 100 then (if 0 ≤ a1 ∧ a1 < 4 then (pv_b (35 + 6 * (Int.toNat (a1))) fun x10 => pv_c1 (fX5_copyFrom N 99 x10 h) fun h12 => fX9_thinner_61 N  a1 a2 a3 a4 N (0) h12) else none) else (fX9_thinner_35 N  a1 a2 a3 a4  h))))

set_option maxHeartbeats 4000000 in
set_option maxRecDepth 20000 in
theorem tX9_thinner_15 {d N : Nat}  {a1 : Int} {a2 : Int} {a3 : Int} {a4 : Int}  {h h' : pv_H} {r : Int} (hd : 7 ≤ d)    (hf : fX9_thinner_15 N  a1 a2 a3 a4  h = some (h', r)) : EV RX9 cX9_thinner 6 (some .int) false d pv_SC (MC h') (some (.inl r)) 15 [some (.inr (.inr (0))), none, none, none, none, none] [] pv_SC (MC h) := by
  unfold fX9_thinner_15 at hf
  refine EV.aload_n dX9_thinner_15 rfl rfl ?_
  refine EV.bipush dX9_thinner_16 (by decide) (by decide) ?_
  obtain ⟨h14, r15, hc13, hf⟩ := pv_c2o hf
  refine EV.invV (As := [.inl (-2)]) (st := []) (d1 := d - 1) (sh1 := pv_SC) (h1 := MC h14) (r1 := (some (.inl r15))) dX9_thinner_18 sc_0 (by decide) md_X9_refuse ml_X9_59 im_X9_refuse se_X9_refuse (tX9_refuse (by omega)  hc13) (by omega) rfl rfl (Nat.le_of_ble_eq_true rfl) ⟨[], (List.append_nil _).symm⟩ ?_
  refine EV.eqS (st2 := [.inl (r15)]) rfl ?_
  exact FV.iret dX9_thinner_21 hf

set_option maxHeartbeats 4000000 in
set_option maxRecDepth 20000 in
theorem tX9_thinner_35 {d N : Nat}  {a1 : Int} {a2 : Int} {a3 : Int} {a4 : Int}  {h h' : pv_H} {r : Int} (hd : 7 ≤ d)    (hf : fX9_thinner_35 N  a1 a2 a3 a4  h = some (h', r)) : EV RX9 cX9_thinner 6 (some .int) false d pv_SC (MC h') (some (.inl r)) 35 [some (.inr (.inr (0))), none, none, none, none, none] [] pv_SC (MC h) := by
  unfold fX9_thinner_35 at hf
  refine EV.aload_n dX9_thinner_35 rfl rfl ?_
  refine EV.bipush dX9_thinner_36 (by decide) (by decide) ?_
  obtain ⟨h17, r18, hc16, hf⟩ := pv_c2o hf
  refine EV.invV (As := [.inl (-3)]) (st := []) (d1 := d - 1) (sh1 := pv_SC) (h1 := MC h17) (r1 := (some (.inl r18))) dX9_thinner_38 sc_0 (by decide) md_X9_refuse ml_X9_59 im_X9_refuse se_X9_refuse (tX9_refuse (by omega)  hc16) (by omega) rfl rfl (Nat.le_of_ble_eq_true rfl) ⟨[], (List.append_nil _).symm⟩ ?_
  refine EV.eqS (st2 := [.inl (r18)]) rfl ?_
  exact FV.iret dX9_thinner_41 hf

set_option maxHeartbeats 4000000 in
set_option maxRecDepth 20000 in
theorem tX9_thinner_61 {d N : Nat}  {a1 : Int} {a2 : Int} {a3 : Int} {a4 : Int} {h' : pv_H} {r : Int} (hd : 7 ≤ d)   : ∀ (n : Nat) (v5 : Int)  (h : pv_H), fX9_thinner_61 N  a1 a2 a3 a4 n v5 h = some (h', r) → EV RX9 cX9_thinner 6 (some .int) false d pv_SC (MC h') (some (.inl r)) 61 [some (.inr (.inr (0))), none, some (.inl (a2)), some (.inl (a3)), some (.inl (a4)), some (.inl (v5))] [] pv_SC (MC h) := by
  intro n
  induction n with
  | zero =>
    intro v5  h hf
    cases hf
  | succ n ih =>
    intro v5  h hf
    rw [fX9_thinner_61] at hf
    refine EV.iload dX9_thinner_61 rfl ?_
    refine EV.aload_n dX9_thinner_63 rfl rfl ?_
    refine FV.getF (v := 99) dX9_thinner_64 sc_0 fl_9_47 rfl rfl hvc_0_6 ?_
    refine FV.getI dX9_thinner_67 sc_99 fl_9_144 rfl ?_
    refine EV.icmp_ge (tgt := 139) dX9_thinner_70 (by decide) (fun q19 => ?_) (fun q19 => ?_)
    · have hf := pv_gp hf q19
      refine EV.aload_n dX9_thinner_139 rfl rfl ?_
      refine FV.getF (v := 78) dX9_thinner_140 sc_0 fl_9_40 rfl rfl hvc_0_5 ?_
      refine EV.aload_n dX9_thinner_143 rfl rfl ?_
      refine FV.getF (v := 99) dX9_thinner_144 sc_0 fl_9_47 rfl rfl hvc_0_6 ?_
      refine EV.aload_n dX9_thinner_147 rfl rfl ?_
      refine FV.getF (v := 20) dX9_thinner_148 sc_0 fl_9_19 rfl rfl hvc_0_1 ?_
      refine FV.getF (v := 22) dX9_thinner_151 sc_20 fl_9_105 rfl rfl hvc_20_3 ?_
      refine EV.iload_n dX9_thinner_154 rfl rfl ?_
      obtain ⟨g20, hf⟩ := pv_gd hf
      obtain ⟨x21, ex21, hf⟩ := pv_bo hf
      have mx21 : x21 ∈ pv_l0 := ex21 ▸ mq_22 _ (by omega)
      refine FV.aald (a := 1) (v := x21) dX9_thinner_155 sc_22 (by decide) g20.1 g20.2 (j := (Int.toNat (a2))) rfl rfl (by rw [hq_22 _ (by omega), ex21]) ?_
      refine EV.aload_n dX9_thinner_156 rfl rfl ?_
      refine FV.getF (v := 20) dX9_thinner_157 sc_0 fl_9_19 rfl rfl hvc_0_1 ?_
      refine FV.getF (v := 23) dX9_thinner_160 sc_20 fl_9_117 rfl rfl hvc_20_4 ?_
      refine EV.iload_n dX9_thinner_163 rfl rfl ?_
      obtain ⟨h23, r24, hc22, hf⟩ := pv_c2o hf
      refine EV.invV (As := [.inr (.inr (99)), .inr (.inr (x21)), .inr (.inr (23)), .inl (a3)]) (st := []) (d1 := d - 1) (sh1 := pv_SC) (h1 := MC h23) (r1 := (some (.inl r24))) dX9_thinner_164 sc_78 (by decide) md_X1_breakRod ml_X9_182 im_X1_breakRod se_X1_breakRod (tX1_breakRod (by omega) ((by decide : 99 ∈ pv_l5)) (mx21) ((by decide : 23 ∈ pv_l2)) hc22) (by omega) rfl rfl (Nat.le_of_ble_eq_true rfl) ⟨[], (List.append_nil _).symm⟩ ?_
      refine EV.eqS (st2 := [.inl (r24)]) rfl ?_
      exact FV.iret dX9_thinner_167 hf
    · have hf := pv_gn hf q19
      refine EV.aload_n dX9_thinner_73 rfl rfl ?_
      refine FV.getF (v := 99) dX9_thinner_74 sc_0 fl_9_47 rfl rfl hvc_0_6 ?_
      refine FV.getF (v := 100) dX9_thinner_77 sc_99 fl_9_153 rfl rfl hvc_99_2 ?_
      refine EV.iload dX9_thinner_80 rfl ?_
      refine EV.iconst dX9_thinner_82 (by decide) (by decide) ?_
      refine EV.aload_n dX9_thinner_83 rfl rfl ?_
      refine FV.getF (v := 99) dX9_thinner_84 sc_0 fl_9_47 rfl rfl hvc_0_6 ?_
      refine FV.getF (v := 100) dX9_thinner_87 sc_99 fl_9_153 rfl rfl hvc_99_2 ?_
      refine EV.iload dX9_thinner_90 rfl ?_
      obtain ⟨g25, hf⟩ := pv_gd hf
      refine FV.iald dX9_thinner_92 sc_100 g25.1 g25.2 (j := (Int.toNat (v5))) rfl ?_
      refine EV.iload dX9_thinner_93 rfl ?_
      refine EV.imul dX9_thinner_95 ?_
      refine EV.bipush dX9_thinner_96 (by decide) (by decide) ?_
      refine EV.idiv dX9_thinner_98 (by decide) ?_
      refine EV.mmax dX9_thinner_99 ml_X9_280 w_maxs w_mai w_maxc (by omega) (Nat.le_of_ble_eq_true rfl) ?_
      obtain ⟨g26, hf⟩ := pv_gd hf
      obtain ⟨h27, eh27, hf⟩ := pv_bo hf
      refine FV.iast dX9_thinner_102 sc_100 g26.1 g26.2 (j := (Int.toNat (v5))) rfl eh27 ?_
      refine EV.aload_n dX9_thinner_103 rfl rfl ?_
      refine FV.getF (v := 99) dX9_thinner_104 sc_0 fl_9_47 rfl rfl hvc_0_6 ?_
      refine FV.getF (v := 101) dX9_thinner_107 sc_99 fl_9_156 rfl rfl hvc_99_3 ?_
      refine EV.iload dX9_thinner_110 rfl ?_
      refine EV.iconst dX9_thinner_112 (by decide) (by decide) ?_
      refine EV.aload_n dX9_thinner_113 rfl rfl ?_
      refine FV.getF (v := 99) dX9_thinner_114 sc_0 fl_9_47 rfl rfl hvc_0_6 ?_
      refine FV.getF (v := 101) dX9_thinner_117 sc_99 fl_9_156 rfl rfl hvc_99_3 ?_
      refine EV.iload dX9_thinner_120 rfl ?_
      obtain ⟨g28, hf⟩ := pv_gd hf
      refine FV.iald dX9_thinner_122 sc_101 g28.1 g28.2 (j := (Int.toNat (v5))) rfl ?_
      refine EV.iload dX9_thinner_123 rfl ?_
      refine EV.imul dX9_thinner_125 ?_
      refine EV.bipush dX9_thinner_126 (by decide) (by decide) ?_
      refine EV.idiv dX9_thinner_128 (by decide) ?_
      refine EV.mmax dX9_thinner_129 ml_X9_280 w_maxs w_mai w_maxc (by omega) (Nat.le_of_ble_eq_true rfl) ?_
      obtain ⟨g29, hf⟩ := pv_gd hf
      obtain ⟨h30, eh30, hf⟩ := pv_bo hf
      refine FV.iast dX9_thinner_132 sc_101 g29.1 g29.2 (j := (Int.toNat (v5))) rfl eh30 ?_
      obtain ⟨x31, ex31, hf⟩ := pv_bo hf
      refine FV.inc (L2 := [some (.inr (.inr (0))), none, some (.inl (a2)), some (.inl (a3)), some (.inl (a4)), some (.inl (x31))]) dX9_thinner_133 rfl (Nat.le_of_ble_eq_true rfl) ex31 rfl ?_
      refine EV.goto (tgt := 61) dX9_thinner_136 (by decide) ?_
      refine EV.weak (L2 := [some (.inr (.inr (0))), none, some (.inl (a2)), some (.inl (a3)), some (.inl (a4)), some (.inl (x31))]) (And.intro rfl (And.intro rfl (And.intro rfl (And.intro rfl (And.intro rfl trivial))))) ?_
      exact ih _  _ hf

set_option maxHeartbeats 4000000 in
set_option maxRecDepth 20000 in
theorem tX9_thinner {d N : Nat} {a1 : Int} {a2 : Int} {a3 : Int} {a4 : Int} {h h' : pv_H} {r : Int} (hd : 7 ≤ d)  (hf : fX9_thinner N a1 a2 a3 a4 h = some (h', r)) : CALL yX9_thinner cX9_thinner 6 (some .int) d pv_SC (MC h) [.inr (.inr (0)), .inl (a1), .inl (a2), .inl (a3), .inl (a4)] pv_SC (MC h') (some (.inl r)) := by
  unfold fX9_thinner at hf
  refine EV.call (own := RX9) (ini := false) rfl rfl (fun q => by cases q) ⟨[], (List.append_nil _).symm⟩ (Nat.le_of_ble_eq_true rfl) ?_
  refine EV.eqL (L2 := [some (.inr (.inr (0))), some (.inl (a1)), some (.inl (a2)), some (.inl (a3)), some (.inl (a4)), none]) rfl ?_
  refine EV.aload_n dX9_thinner_0 rfl rfl ?_
  refine EV.iload_n dX9_thinner_1 rfl rfl ?_
  obtain ⟨r2, hc1, hf⟩ := pv_c1o hf
  refine EV.invV (As := [.inl (a1)]) (st := []) (d1 := d - 1) (sh1 := pv_SC) (h1 := MC h) (r1 := (some (.inl r2))) dX9_thinner_2 sc_0 (by decide) md_X9_hasRod ml_X9_140 im_X9_hasRod se_X9_hasRod (tX9_hasRod (by omega)  hc1) (by omega) rfl rfl (Nat.le_of_ble_eq_true rfl) ⟨[], (List.append_nil _).symm⟩ ?_
  refine EV.eqS (st2 := [.inl (r2)]) rfl ?_
  refine EV.if_eq (tgt := 15) dX9_thinner_5 (by decide) (fun q3 => ?_) (fun q3 => ?_)
  · have hf := pv_gp hf q3
    refine EV.weak (L2 := [some (.inr (.inr (0))), none, none, none, none, none]) (And.intro rfl trivial) ?_
    exact tX9_thinner_15 hd    hf
  · have hf := pv_gn hf q3
    refine EV.iload_n dX9_thinner_8 rfl rfl ?_
    obtain ⟨r5, hc4, hf⟩ := pv_c1o hf
    refine EV.invS (As := [.inl (a2)]) (st := []) (d1 := d - 1) (sh1 := pv_SC) (h1 := MC h) (r1 := (some (.inl r5))) dX9_thinner_9 md_X9_hasDoings ml_X9_172 st_X9_hasDoings (tX9_hasDoings (by omega)  hc4) (by omega) rfl rfl (Nat.le_of_ble_eq_true rfl) ⟨[], (List.append_nil _).symm⟩ ?_
    refine EV.eqS (st2 := [.inl (r5)]) rfl ?_
    refine EV.if_ne (tgt := 22) dX9_thinner_12 (by decide) (fun q6 => ?_) (fun q6 => ?_)
    · have hf := pv_gn hf q6
      refine EV.iload dX9_thinner_22 rfl ?_
      refine EV.iconst dX9_thinner_24 (by decide) (by decide) ?_
      refine EV.icmp_lt (tgt := 35) dX9_thinner_25 (by decide) (fun q7 => ?_) (fun q7 => ?_)
      · have hf := pv_gp hf q7
        refine EV.weak (L2 := [some (.inr (.inr (0))), none, none, none, none, none]) (And.intro rfl trivial) ?_
        exact tX9_thinner_35 hd    hf
      · have hf := pv_gn hf q7
        refine EV.iload dX9_thinner_28 rfl ?_
        refine EV.bipush dX9_thinner_30 (by decide) (by decide) ?_
        refine EV.icmp_le (tgt := 42) dX9_thinner_32 (by decide) (fun q8 => ?_) (fun q8 => ?_)
        · have hf := pv_gp hf q8
          refine EV.aload_n dX9_thinner_42 rfl rfl ?_
          refine FV.getF (v := 99) dX9_thinner_43 sc_0 fl_9_47 rfl rfl hvc_0_6 ?_
          refine EV.aload_n dX9_thinner_46 rfl rfl ?_
          refine FV.getF (v := 20) dX9_thinner_47 sc_0 fl_9_19 rfl rfl hvc_0_1 ?_
          refine FV.getF (v := 21) dX9_thinner_50 sc_20 fl_9_94 rfl rfl hvc_20_2 ?_
          refine EV.iload_n dX9_thinner_53 rfl rfl ?_
          obtain ⟨g9, hf⟩ := pv_gd hf
          obtain ⟨x10, ex10, hf⟩ := pv_bo hf
          have mx10 : x10 ∈ pv_l5 := ex10 ▸ mq_21 _ (by omega)
          refine FV.aald (a := 0) (v := x10) dX9_thinner_54 sc_21 (by decide) g9.1 g9.2 (j := (Int.toNat (a1))) rfl rfl (by rw [hq_21 _ (by omega), ex10]) ?_
          obtain ⟨h12, hc11, hf⟩ := pv_c1o hf
          refine EV.invV (As := [.inr (.inr (x10))]) (st := []) (d1 := d - 1) (sh1 := pv_SC) (h1 := MC h12) (r1 := none) dX9_thinner_55 sc_99 (by decide) md_X5_copyFrom ml_X9_101 im_X5_copyFrom se_X5_copyFrom (tX5_copyFrom (by omega) ((by decide : 99 ∈ pv_l5)) (mx10) hc11) (by omega) rfl rfl (Nat.le_of_ble_eq_true rfl) ⟨[], (List.append_nil _).symm⟩ ?_
          refine EV.iconst dX9_thinner_58 (by decide) (by decide) ?_
          refine FV.stiw (L2 := [some (.inr (.inr (0))), some (.inl (a1)), some (.inl (a2)), some (.inl (a3)), some (.inl (a4)), some (.inl (0))]) dX9_thinner_59 (Nat.le_of_ble_eq_true rfl) rfl rfl ?_
          refine EV.weak (L2 := [some (.inr (.inr (0))), none, some (.inl (a2)), some (.inl (a3)), some (.inl (a4)), some (.inl (0))]) (And.intro rfl (And.intro rfl (And.intro rfl (And.intro rfl (And.intro rfl trivial))))) ?_
          exact tX9_thinner_61 hd   _ _  _ hf
        · have hf := pv_gn hf q8
          refine EV.weak (L2 := [some (.inr (.inr (0))), none, none, none, none, none]) (And.intro rfl trivial) ?_
          exact tX9_thinner_35 hd    hf
    · have hf := pv_gp hf q6
      refine EV.weak (L2 := [some (.inr (.inr (0))), none, none, none, none, none]) (And.intro rfl trivial) ?_
      exact tX9_thinner_15 hd    hf

noncomputable def fX9_piecesStiffened_19 (N : Nat)  (a1 : Int) (a2 : Int) (a3 : Int) (a4 : Int) : Nat → Int → pv_H → Option (pv_H × Int)
  | 0, _, _ => none
  | n + 1, v5, h => if (h 99 0) ≤ v5 then (if 0 ≤ a3 ∧ a3 < 4 then (pv_b (59 + 4 * (Int.toNat (a3))) fun x7 => pv_c2b (fX1_breakRod N 99 x7 23 a4 h) fun h9 r10 => some (h9, r10)) else none) else (if 0 ≤ v5 ∧ v5 < 60 then (if 0 ≤ a2 ∧ a2 < 4 then (pv_b (35 + 6 * (Int.toNat (a2))) fun x13 => if 0 ≤ v5 ∧ v5 < 60 then (if 0 ≤ v5 ∧ v5 < 60 then (pv_b (pv_up h 100 (Int.toNat (v5)) (pv_w ((h 100 (Int.toNat (v5))) + (h (x13 + 1) (Int.toNat (v5)))))) fun h16 => pv_b (pv_w (v5 + 1)) fun x17 => fX9_piecesStiffened_19 N  a1 a2 a3 a4 n (x17) h16) else none) else none) else none) else none)

noncomputable def fX9_piecesStiffened (N : Nat) (a1 : Int) (a2 : Int) (a3 : Int) (a4 : Int) (h : pv_H) : Option (pv_H × Int) :=
  if 0 ≤ a1 ∧ a1 < 4 then (pv_b (35 + 6 * (Int.toNat (a1))) fun x2 => pv_c1 (fX5_copyFrom N 99 x2 h) fun h4 => fX9_piecesStiffened_19 N  a1 a2 a3 a4 N (0) h4) else none

set_option maxHeartbeats 4000000 in
set_option maxRecDepth 20000 in
theorem tX9_piecesStiffened_19 {d N : Nat}  {a1 : Int} {a2 : Int} {a3 : Int} {a4 : Int} {h' : pv_H} {r : Int} (hd : 7 ≤ d)   : ∀ (n : Nat) (v5 : Int)  (h : pv_H), fX9_piecesStiffened_19 N  a1 a2 a3 a4 n v5 h = some (h', r) → EV RX9 cX9_piecesStiffened 6 (some .int) false d pv_SC (MC h') (some (.inl r)) 19 [some (.inr (.inr (0))), none, some (.inl (a2)), some (.inl (a3)), some (.inl (a4)), some (.inl (v5))] [] pv_SC (MC h) := by
  intro n
  induction n with
  | zero =>
    intro v5  h hf
    cases hf
  | succ n ih =>
    intro v5  h hf
    rw [fX9_piecesStiffened_19] at hf
    refine EV.iload dX9_piecesStiffened_19 rfl ?_
    refine EV.aload_n dX9_piecesStiffened_21 rfl rfl ?_
    refine FV.getF (v := 99) dX9_piecesStiffened_22 sc_0 fl_9_47 rfl rfl hvc_0_6 ?_
    refine FV.getI dX9_piecesStiffened_25 sc_99 fl_9_144 rfl ?_
    refine EV.icmp_ge (tgt := 65) dX9_piecesStiffened_28 (by decide) (fun q5 => ?_) (fun q5 => ?_)
    · have hf := pv_gp hf q5
      refine EV.aload_n dX9_piecesStiffened_65 rfl rfl ?_
      refine FV.getF (v := 78) dX9_piecesStiffened_66 sc_0 fl_9_40 rfl rfl hvc_0_5 ?_
      refine EV.aload_n dX9_piecesStiffened_69 rfl rfl ?_
      refine FV.getF (v := 99) dX9_piecesStiffened_70 sc_0 fl_9_47 rfl rfl hvc_0_6 ?_
      refine EV.aload_n dX9_piecesStiffened_73 rfl rfl ?_
      refine FV.getF (v := 20) dX9_piecesStiffened_74 sc_0 fl_9_19 rfl rfl hvc_0_1 ?_
      refine FV.getF (v := 22) dX9_piecesStiffened_77 sc_20 fl_9_105 rfl rfl hvc_20_3 ?_
      refine EV.iload_n dX9_piecesStiffened_80 rfl rfl ?_
      obtain ⟨g6, hf⟩ := pv_gd hf
      obtain ⟨x7, ex7, hf⟩ := pv_bo hf
      have mx7 : x7 ∈ pv_l0 := ex7 ▸ mq_22 _ (by omega)
      refine FV.aald (a := 1) (v := x7) dX9_piecesStiffened_81 sc_22 (by decide) g6.1 g6.2 (j := (Int.toNat (a3))) rfl rfl (by rw [hq_22 _ (by omega), ex7]) ?_
      refine EV.aload_n dX9_piecesStiffened_82 rfl rfl ?_
      refine FV.getF (v := 20) dX9_piecesStiffened_83 sc_0 fl_9_19 rfl rfl hvc_0_1 ?_
      refine FV.getF (v := 23) dX9_piecesStiffened_86 sc_20 fl_9_117 rfl rfl hvc_20_4 ?_
      refine EV.iload dX9_piecesStiffened_89 rfl ?_
      obtain ⟨h9, r10, hc8, hf⟩ := pv_c2o hf
      refine EV.invV (As := [.inr (.inr (99)), .inr (.inr (x7)), .inr (.inr (23)), .inl (a4)]) (st := []) (d1 := d - 1) (sh1 := pv_SC) (h1 := MC h9) (r1 := (some (.inl r10))) dX9_piecesStiffened_91 sc_78 (by decide) md_X1_breakRod ml_X9_182 im_X1_breakRod se_X1_breakRod (tX1_breakRod (by omega) ((by decide : 99 ∈ pv_l5)) (mx7) ((by decide : 23 ∈ pv_l2)) hc8) (by omega) rfl rfl (Nat.le_of_ble_eq_true rfl) ⟨[], (List.append_nil _).symm⟩ ?_
      refine EV.eqS (st2 := [.inl (r10)]) rfl ?_
      exact FV.iret dX9_piecesStiffened_94 hf
    · have hf := pv_gn hf q5
      refine EV.aload_n dX9_piecesStiffened_31 rfl rfl ?_
      refine FV.getF (v := 99) dX9_piecesStiffened_32 sc_0 fl_9_47 rfl rfl hvc_0_6 ?_
      refine FV.getF (v := 100) dX9_piecesStiffened_35 sc_99 fl_9_153 rfl rfl hvc_99_2 ?_
      refine EV.iload dX9_piecesStiffened_38 rfl ?_
      refine EV.dup2 dX9_piecesStiffened_40 rfl rfl ?_
      obtain ⟨g11, hf⟩ := pv_gd hf
      refine FV.iald dX9_piecesStiffened_41 sc_100 g11.1 g11.2 (j := (Int.toNat (v5))) rfl ?_
      refine EV.aload_n dX9_piecesStiffened_42 rfl rfl ?_
      refine FV.getF (v := 20) dX9_piecesStiffened_43 sc_0 fl_9_19 rfl rfl hvc_0_1 ?_
      refine FV.getF (v := 21) dX9_piecesStiffened_46 sc_20 fl_9_94 rfl rfl hvc_20_2 ?_
      refine EV.iload_n dX9_piecesStiffened_49 rfl rfl ?_
      obtain ⟨g12, hf⟩ := pv_gd hf
      obtain ⟨x13, ex13, hf⟩ := pv_bo hf
      have mx13 : x13 ∈ pv_l5 := ex13 ▸ mq_21 _ (by omega)
      refine FV.aald (a := 0) (v := x13) dX9_piecesStiffened_50 sc_21 (by decide) g12.1 g12.2 (j := (Int.toNat (a2))) rfl rfl (by rw [hq_21 _ (by omega), ex13]) ?_
      refine FV.getF (v := x13 + 1) dX9_piecesStiffened_51 (sl5_0 _ mx13) fl_9_153 rfl (mu5_0 _ mx13 _) (hl5_0_2 _ mx13) ?_
      refine EV.iload dX9_piecesStiffened_54 rfl ?_
      obtain ⟨g14, hf⟩ := pv_gd hf
      refine FV.iald dX9_piecesStiffened_56 (sl5_1 _ mx13) g14.1 g14.2 (j := (Int.toNat (v5))) rfl ?_
      refine EV.iadd dX9_piecesStiffened_57 ?_
      obtain ⟨g15, hf⟩ := pv_gd hf
      obtain ⟨h16, eh16, hf⟩ := pv_bo hf
      refine FV.iast dX9_piecesStiffened_58 sc_100 g15.1 g15.2 (j := (Int.toNat (v5))) rfl eh16 ?_
      obtain ⟨x17, ex17, hf⟩ := pv_bo hf
      refine FV.inc (L2 := [some (.inr (.inr (0))), none, some (.inl (a2)), some (.inl (a3)), some (.inl (a4)), some (.inl (x17))]) dX9_piecesStiffened_59 rfl (Nat.le_of_ble_eq_true rfl) ex17 rfl ?_
      refine EV.goto (tgt := 19) dX9_piecesStiffened_62 (by decide) ?_
      refine EV.weak (L2 := [some (.inr (.inr (0))), none, some (.inl (a2)), some (.inl (a3)), some (.inl (a4)), some (.inl (x17))]) (And.intro rfl (And.intro rfl (And.intro rfl (And.intro rfl (And.intro rfl trivial))))) ?_
      exact ih _  _ hf

set_option maxHeartbeats 4000000 in
set_option maxRecDepth 20000 in
theorem tX9_piecesStiffened {d N : Nat} {a1 : Int} {a2 : Int} {a3 : Int} {a4 : Int} {h h' : pv_H} {r : Int} (hd : 7 ≤ d)  (hf : fX9_piecesStiffened N a1 a2 a3 a4 h = some (h', r)) : CALL yX9_piecesStiffened cX9_piecesStiffened 6 (some .int) d pv_SC (MC h) [.inr (.inr (0)), .inl (a1), .inl (a2), .inl (a3), .inl (a4)] pv_SC (MC h') (some (.inl r)) := by
  unfold fX9_piecesStiffened at hf
  refine EV.call (own := RX9) (ini := false) rfl rfl (fun q => by cases q) ⟨[], (List.append_nil _).symm⟩ (Nat.le_of_ble_eq_true rfl) ?_
  refine EV.eqL (L2 := [some (.inr (.inr (0))), some (.inl (a1)), some (.inl (a2)), some (.inl (a3)), some (.inl (a4)), none]) rfl ?_
  refine EV.aload_n dX9_piecesStiffened_0 rfl rfl ?_
  refine FV.getF (v := 99) dX9_piecesStiffened_1 sc_0 fl_9_47 rfl rfl hvc_0_6 ?_
  refine EV.aload_n dX9_piecesStiffened_4 rfl rfl ?_
  refine FV.getF (v := 20) dX9_piecesStiffened_5 sc_0 fl_9_19 rfl rfl hvc_0_1 ?_
  refine FV.getF (v := 21) dX9_piecesStiffened_8 sc_20 fl_9_94 rfl rfl hvc_20_2 ?_
  refine EV.iload_n dX9_piecesStiffened_11 rfl rfl ?_
  obtain ⟨g1, hf⟩ := pv_gd hf
  obtain ⟨x2, ex2, hf⟩ := pv_bo hf
  have mx2 : x2 ∈ pv_l5 := ex2 ▸ mq_21 _ (by omega)
  refine FV.aald (a := 0) (v := x2) dX9_piecesStiffened_12 sc_21 (by decide) g1.1 g1.2 (j := (Int.toNat (a1))) rfl rfl (by rw [hq_21 _ (by omega), ex2]) ?_
  obtain ⟨h4, hc3, hf⟩ := pv_c1o hf
  refine EV.invV (As := [.inr (.inr (x2))]) (st := []) (d1 := d - 1) (sh1 := pv_SC) (h1 := MC h4) (r1 := none) dX9_piecesStiffened_13 sc_99 (by decide) md_X5_copyFrom ml_X9_101 im_X5_copyFrom se_X5_copyFrom (tX5_copyFrom (by omega) ((by decide : 99 ∈ pv_l5)) (mx2) hc3) (by omega) rfl rfl (Nat.le_of_ble_eq_true rfl) ⟨[], (List.append_nil _).symm⟩ ?_
  refine EV.iconst dX9_piecesStiffened_16 (by decide) (by decide) ?_
  refine FV.stiw (L2 := [some (.inr (.inr (0))), some (.inl (a1)), some (.inl (a2)), some (.inl (a3)), some (.inl (a4)), some (.inl (0))]) dX9_piecesStiffened_17 (Nat.le_of_ble_eq_true rfl) rfl rfl ?_
  refine EV.weak (L2 := [some (.inr (.inr (0))), none, some (.inl (a2)), some (.inl (a3)), some (.inl (a4)), some (.inl (0))]) (And.intro rfl (And.intro rfl (And.intro rfl (And.intro rfl (And.intro rfl trivial))))) ?_
  exact tX9_piecesStiffened_19 hd   _ _  _ hf

noncomputable def fX9_beside_23 (N : Nat)  (a1 : Int) (a2 : Int) (a3 : Int) (a4 : Int)  (h : pv_H) : Option (pv_H × Int) :=
  pv_c2b (fX9_refuse N (-2) h) fun h23 r24 => some (h23, r24)

noncomputable def fX9_beside_62 (N : Nat)  (a1 : Int) (a2 : Int) (a3 : Int) (a4 : Int)  (h : pv_H) : Option (pv_H × Int) :=
  pv_c2b (fX9_refuse N (-3) h) fun h26 r27 => some (h26, r27)

noncomputable def fX9_beside (N : Nat) (a1 : Int) (a2 : Int) (a3 : Int) (a4 : Int) (h : pv_H) : Option (pv_H × Int) :=
  pv_c1 (fX9_hasRod N a1 h) fun r2 => if r2 = 0 then (fX9_beside_23 N  a1 a2 a3 a4  h) else (pv_c1 (fX9_hasRod N a2 h) fun r5 => if r5 = 0 then (fX9_beside_23 N  a1 a2 a3 a4  h) else (pv_c1 (fX9_hasDoings N a3 h) fun r8 => if r8 = 0 then (fX9_beside_23 N  a1 a2 a3 a4  h) else (if a1 = a2 then (fX9_beside_62 N  a1 a2 a3 a4  h) else (if 0 ≤ a1 ∧ a1 < 4 then (pv_b (35 + 6 * (Int.toNat (a1))) fun x12 => if 0 ≤ a2 ∧ a2 < 4 then (pv_b (35 + 6 * (Int.toNat (a2))) fun x14 => if (h x12 0) = (h x14 0) then (pv_c2b (fX9_piecesStiffened N a1 a2 a3 a4 h) fun h17 r18 => pv_c2b (fX9_piecesStiffened N a2 a1 a3 a4 h17) fun h20 r21 => some (h20, pv_w (r18 + r21))) else (fX9_beside_62 N  a1 a2 a3 a4  h)) else none) else none))))

set_option maxHeartbeats 4000000 in
set_option maxRecDepth 20000 in
theorem tX9_beside_23 {d N : Nat}  {a1 : Int} {a2 : Int} {a3 : Int} {a4 : Int}  {h h' : pv_H} {r : Int} (hd : 8 ≤ d)    (hf : fX9_beside_23 N  a1 a2 a3 a4  h = some (h', r)) : EV RX9 cX9_beside 5 (some .int) false d pv_SC (MC h') (some (.inl r)) 23 [some (.inr (.inr (0))), none, none, none, none] [] pv_SC (MC h) := by
  unfold fX9_beside_23 at hf
  refine EV.aload_n dX9_beside_23 rfl rfl ?_
  refine EV.bipush dX9_beside_24 (by decide) (by decide) ?_
  obtain ⟨h23, r24, hc22, hf⟩ := pv_c2o hf
  refine EV.invV (As := [.inl (-2)]) (st := []) (d1 := d - 1) (sh1 := pv_SC) (h1 := MC h23) (r1 := (some (.inl r24))) dX9_beside_26 sc_0 (by decide) md_X9_refuse ml_X9_59 im_X9_refuse se_X9_refuse (tX9_refuse (by omega)  hc22) (by omega) rfl rfl (Nat.le_of_ble_eq_true rfl) ⟨[], (List.append_nil _).symm⟩ ?_
  refine EV.eqS (st2 := [.inl (r24)]) rfl ?_
  exact FV.iret dX9_beside_29 hf

set_option maxHeartbeats 4000000 in
set_option maxRecDepth 20000 in
theorem tX9_beside_62 {d N : Nat}  {a1 : Int} {a2 : Int} {a3 : Int} {a4 : Int}  {h h' : pv_H} {r : Int} (hd : 8 ≤ d)    (hf : fX9_beside_62 N  a1 a2 a3 a4  h = some (h', r)) : EV RX9 cX9_beside 5 (some .int) false d pv_SC (MC h') (some (.inl r)) 62 [some (.inr (.inr (0))), none, none, none, none] [] pv_SC (MC h) := by
  unfold fX9_beside_62 at hf
  refine EV.aload_n dX9_beside_62 rfl rfl ?_
  refine EV.bipush dX9_beside_63 (by decide) (by decide) ?_
  obtain ⟨h26, r27, hc25, hf⟩ := pv_c2o hf
  refine EV.invV (As := [.inl (-3)]) (st := []) (d1 := d - 1) (sh1 := pv_SC) (h1 := MC h26) (r1 := (some (.inl r27))) dX9_beside_65 sc_0 (by decide) md_X9_refuse ml_X9_59 im_X9_refuse se_X9_refuse (tX9_refuse (by omega)  hc25) (by omega) rfl rfl (Nat.le_of_ble_eq_true rfl) ⟨[], (List.append_nil _).symm⟩ ?_
  refine EV.eqS (st2 := [.inl (r27)]) rfl ?_
  exact FV.iret dX9_beside_68 hf

set_option maxHeartbeats 4000000 in
set_option maxRecDepth 20000 in
theorem tX9_beside {d N : Nat} {a1 : Int} {a2 : Int} {a3 : Int} {a4 : Int} {h h' : pv_H} {r : Int} (hd : 8 ≤ d)  (hf : fX9_beside N a1 a2 a3 a4 h = some (h', r)) : CALL yX9_beside cX9_beside 5 (some .int) d pv_SC (MC h) [.inr (.inr (0)), .inl (a1), .inl (a2), .inl (a3), .inl (a4)] pv_SC (MC h') (some (.inl r)) := by
  unfold fX9_beside at hf
  refine EV.call (own := RX9) (ini := false) rfl rfl (fun q => by cases q) ⟨[], (List.append_nil _).symm⟩ (Nat.le_of_ble_eq_true rfl) ?_
  refine EV.eqL (L2 := [some (.inr (.inr (0))), some (.inl (a1)), some (.inl (a2)), some (.inl (a3)), some (.inl (a4))]) rfl ?_
  refine EV.aload_n dX9_beside_0 rfl rfl ?_
  refine EV.iload_n dX9_beside_1 rfl rfl ?_
  obtain ⟨r2, hc1, hf⟩ := pv_c1o hf
  refine EV.invV (As := [.inl (a1)]) (st := []) (d1 := d - 1) (sh1 := pv_SC) (h1 := MC h) (r1 := (some (.inl r2))) dX9_beside_2 sc_0 (by decide) md_X9_hasRod ml_X9_140 im_X9_hasRod se_X9_hasRod (tX9_hasRod (by omega)  hc1) (by omega) rfl rfl (Nat.le_of_ble_eq_true rfl) ⟨[], (List.append_nil _).symm⟩ ?_
  refine EV.eqS (st2 := [.inl (r2)]) rfl ?_
  refine EV.if_eq (tgt := 23) dX9_beside_5 (by decide) (fun q3 => ?_) (fun q3 => ?_)
  · have hf := pv_gp hf q3
    refine EV.weak (L2 := [some (.inr (.inr (0))), none, none, none, none]) (And.intro rfl trivial) ?_
    exact tX9_beside_23 hd    hf
  · have hf := pv_gn hf q3
    refine EV.aload_n dX9_beside_8 rfl rfl ?_
    refine EV.iload_n dX9_beside_9 rfl rfl ?_
    obtain ⟨r5, hc4, hf⟩ := pv_c1o hf
    refine EV.invV (As := [.inl (a2)]) (st := []) (d1 := d - 1) (sh1 := pv_SC) (h1 := MC h) (r1 := (some (.inl r5))) dX9_beside_10 sc_0 (by decide) md_X9_hasRod ml_X9_140 im_X9_hasRod se_X9_hasRod (tX9_hasRod (by omega)  hc4) (by omega) rfl rfl (Nat.le_of_ble_eq_true rfl) ⟨[], (List.append_nil _).symm⟩ ?_
    refine EV.eqS (st2 := [.inl (r5)]) rfl ?_
    refine EV.if_eq (tgt := 23) dX9_beside_13 (by decide) (fun q6 => ?_) (fun q6 => ?_)
    · have hf := pv_gp hf q6
      refine EV.weak (L2 := [some (.inr (.inr (0))), none, none, none, none]) (And.intro rfl trivial) ?_
      exact tX9_beside_23 hd    hf
    · have hf := pv_gn hf q6
      refine EV.iload_n dX9_beside_16 rfl rfl ?_
      obtain ⟨r8, hc7, hf⟩ := pv_c1o hf
      refine EV.invS (As := [.inl (a3)]) (st := []) (d1 := d - 1) (sh1 := pv_SC) (h1 := MC h) (r1 := (some (.inl r8))) dX9_beside_17 md_X9_hasDoings ml_X9_172 st_X9_hasDoings (tX9_hasDoings (by omega)  hc7) (by omega) rfl rfl (Nat.le_of_ble_eq_true rfl) ⟨[], (List.append_nil _).symm⟩ ?_
      refine EV.eqS (st2 := [.inl (r8)]) rfl ?_
      refine EV.if_ne (tgt := 30) dX9_beside_20 (by decide) (fun q9 => ?_) (fun q9 => ?_)
      · have hf := pv_gn hf q9
        refine EV.iload_n dX9_beside_30 rfl rfl ?_
        refine EV.iload_n dX9_beside_31 rfl rfl ?_
        refine EV.icmp_eq (tgt := 62) dX9_beside_32 (by decide) (fun q10 => ?_) (fun q10 => ?_)
        · have hf := pv_gp hf q10
          refine EV.weak (L2 := [some (.inr (.inr (0))), none, none, none, none]) (And.intro rfl trivial) ?_
          exact tX9_beside_62 hd    hf
        · have hf := pv_gn hf q10
          refine EV.aload_n dX9_beside_35 rfl rfl ?_
          refine FV.getF (v := 20) dX9_beside_36 sc_0 fl_9_19 rfl rfl hvc_0_1 ?_
          refine FV.getF (v := 21) dX9_beside_39 sc_20 fl_9_94 rfl rfl hvc_20_2 ?_
          refine EV.iload_n dX9_beside_42 rfl rfl ?_
          obtain ⟨g11, hf⟩ := pv_gd hf
          obtain ⟨x12, ex12, hf⟩ := pv_bo hf
          have mx12 : x12 ∈ pv_l5 := ex12 ▸ mq_21 _ (by omega)
          refine FV.aald (a := 0) (v := x12) dX9_beside_43 sc_21 (by decide) g11.1 g11.2 (j := (Int.toNat (a1))) rfl rfl (by rw [hq_21 _ (by omega), ex12]) ?_
          refine FV.getI dX9_beside_44 (sl5_0 _ mx12) fl_9_144 rfl ?_
          refine EV.aload_n dX9_beside_47 rfl rfl ?_
          refine FV.getF (v := 20) dX9_beside_48 sc_0 fl_9_19 rfl rfl hvc_0_1 ?_
          refine FV.getF (v := 21) dX9_beside_51 sc_20 fl_9_94 rfl rfl hvc_20_2 ?_
          refine EV.iload_n dX9_beside_54 rfl rfl ?_
          obtain ⟨g13, hf⟩ := pv_gd hf
          obtain ⟨x14, ex14, hf⟩ := pv_bo hf
          have mx14 : x14 ∈ pv_l5 := ex14 ▸ mq_21 _ (by omega)
          refine FV.aald (a := 0) (v := x14) dX9_beside_55 sc_21 (by decide) g13.1 g13.2 (j := (Int.toNat (a2))) rfl rfl (by rw [hq_21 _ (by omega), ex14]) ?_
          refine FV.getI dX9_beside_56 (sl5_0 _ mx14) fl_9_144 rfl ?_
          refine EV.icmp_eq (tgt := 69) dX9_beside_59 (by decide) (fun q15 => ?_) (fun q15 => ?_)
          · have hf := pv_gp hf q15
            refine EV.aload_n dX9_beside_69 rfl rfl ?_
            refine EV.iload_n dX9_beside_70 rfl rfl ?_
            refine EV.iload_n dX9_beside_71 rfl rfl ?_
            refine EV.iload_n dX9_beside_72 rfl rfl ?_
            refine EV.iload dX9_beside_73 rfl ?_
            obtain ⟨h17, r18, hc16, hf⟩ := pv_c2o hf
            refine EV.invV (As := [.inl (a1), .inl (a2), .inl (a3), .inl (a4)]) (st := []) (d1 := d - 1) (sh1 := pv_SC) (h1 := MC h17) (r1 := (some (.inl r18))) dX9_beside_75 sc_0 (by decide) md_X9_piecesStiffened ml_X9_283 im_X9_piecesStiffened se_X9_piecesStiffened (tX9_piecesStiffened (by omega)  hc16) (by omega) rfl rfl (Nat.le_of_ble_eq_true rfl) ⟨[], (List.append_nil _).symm⟩ ?_
            refine EV.eqS (st2 := [.inl (r18)]) rfl ?_
            refine EV.aload_n dX9_beside_78 rfl rfl ?_
            refine EV.iload_n dX9_beside_79 rfl rfl ?_
            refine EV.iload_n dX9_beside_80 rfl rfl ?_
            refine EV.iload_n dX9_beside_81 rfl rfl ?_
            refine EV.iload dX9_beside_82 rfl ?_
            obtain ⟨h20, r21, hc19, hf⟩ := pv_c2o hf
            refine EV.invV (As := [.inl (a2), .inl (a1), .inl (a3), .inl (a4)]) (st := [.inl (r18)]) (d1 := d - 1) (sh1 := pv_SC) (h1 := MC h20) (r1 := (some (.inl r21))) dX9_beside_84 sc_0 (by decide) md_X9_piecesStiffened ml_X9_283 im_X9_piecesStiffened se_X9_piecesStiffened (tX9_piecesStiffened (by omega)  hc19) (by omega) rfl rfl (Nat.le_of_ble_eq_true rfl) ⟨[], (List.append_nil _).symm⟩ ?_
            refine EV.eqS (st2 := [.inl (r21), .inl (r18)]) rfl ?_
            refine EV.iadd dX9_beside_87 ?_
            exact FV.iret dX9_beside_88 hf
          · have hf := pv_gn hf q15
            refine EV.weak (L2 := [some (.inr (.inr (0))), none, none, none, none]) (And.intro rfl trivial) ?_
            exact tX9_beside_62 hd    hf
      · have hf := pv_gp hf q9
        refine EV.weak (L2 := [some (.inr (.inr (0))), none, none, none, none]) (And.intro rfl trivial) ?_
        exact tX9_beside_23 hd    hf

noncomputable def fX9_neverThree_3 (N : Nat)  (a1 : Int) (a2 : Int) (a3 : Int) : Nat → Int → pv_H → Option (pv_H × Int)
  | 0, _, _ => none
  | n + 1, v4, h => if a3 < v4 then (some (h, 1)) else (if 0 ≤ a1 ∧ a1 < 4 then (pv_b (35 + 6 * (Int.toNat (a1))) fun x3 => if 0 ≤ a2 ∧ a2 < 4 then (pv_b (59 + 4 * (Int.toNat (a2))) fun x5 => pv_c2b (fX1_breakRod N x3 x5 23 v4 h) fun h7 r8 => if r8 < 3 then (pv_b (pv_w (v4 + 1)) fun x10 => fX9_neverThree_3 N  a1 a2 a3 n (x10) h7) else (some (h7, 0))) else none) else none)

noncomputable def fX9_neverThree (N : Nat) (a1 : Int) (a2 : Int) (a3 : Int) (h : pv_H) : Option (pv_H × Int) :=
  fX9_neverThree_3 N  a1 a2 a3 N (1) h

set_option maxHeartbeats 4000000 in
set_option maxRecDepth 20000 in
theorem tX9_neverThree_3 {d N : Nat}  {a1 : Int} {a2 : Int} {a3 : Int} {h' : pv_H} {r : Int} (hd : 7 ≤ d)   : ∀ (n : Nat) (v4 : Int)  (h : pv_H), fX9_neverThree_3 N  a1 a2 a3 n v4 h = some (h', r) → EV RX9 cX9_neverThree 5 (some .boolean) false d pv_SC (MC h') (some (.inl r)) 3 [some (.inr (.inr (0))), some (.inl (a1)), some (.inl (a2)), some (.inl (a3)), some (.inl (v4))] [] pv_SC (MC h) := by
  intro n
  induction n with
  | zero =>
    intro v4  h hf
    cases hf
  | succ n ih =>
    intro v4  h hf
    rw [fX9_neverThree_3] at hf
    refine EV.iload dX9_neverThree_3 rfl ?_
    refine EV.iload_n dX9_neverThree_5 rfl rfl ?_
    refine EV.icmp_gt (tgt := 55) dX9_neverThree_6 (by decide) (fun q1 => ?_) (fun q1 => ?_)
    · have hf := pv_gp hf q1
      refine EV.iconst dX9_neverThree_55 (by decide) (by decide) ?_
      exact FV.zret dX9_neverThree_56 (by decide) hf
    · have hf := pv_gn hf q1
      refine EV.aload_n dX9_neverThree_9 rfl rfl ?_
      refine FV.getF (v := 78) dX9_neverThree_10 sc_0 fl_9_40 rfl rfl hvc_0_5 ?_
      refine EV.aload_n dX9_neverThree_13 rfl rfl ?_
      refine FV.getF (v := 20) dX9_neverThree_14 sc_0 fl_9_19 rfl rfl hvc_0_1 ?_
      refine FV.getF (v := 21) dX9_neverThree_17 sc_20 fl_9_94 rfl rfl hvc_20_2 ?_
      refine EV.iload_n dX9_neverThree_20 rfl rfl ?_
      obtain ⟨g2, hf⟩ := pv_gd hf
      obtain ⟨x3, ex3, hf⟩ := pv_bo hf
      have mx3 : x3 ∈ pv_l5 := ex3 ▸ mq_21 _ (by omega)
      refine FV.aald (a := 0) (v := x3) dX9_neverThree_21 sc_21 (by decide) g2.1 g2.2 (j := (Int.toNat (a1))) rfl rfl (by rw [hq_21 _ (by omega), ex3]) ?_
      refine EV.aload_n dX9_neverThree_22 rfl rfl ?_
      refine FV.getF (v := 20) dX9_neverThree_23 sc_0 fl_9_19 rfl rfl hvc_0_1 ?_
      refine FV.getF (v := 22) dX9_neverThree_26 sc_20 fl_9_105 rfl rfl hvc_20_3 ?_
      refine EV.iload_n dX9_neverThree_29 rfl rfl ?_
      obtain ⟨g4, hf⟩ := pv_gd hf
      obtain ⟨x5, ex5, hf⟩ := pv_bo hf
      have mx5 : x5 ∈ pv_l0 := ex5 ▸ mq_22 _ (by omega)
      refine FV.aald (a := 1) (v := x5) dX9_neverThree_30 sc_22 (by decide) g4.1 g4.2 (j := (Int.toNat (a2))) rfl rfl (by rw [hq_22 _ (by omega), ex5]) ?_
      refine EV.aload_n dX9_neverThree_31 rfl rfl ?_
      refine FV.getF (v := 20) dX9_neverThree_32 sc_0 fl_9_19 rfl rfl hvc_0_1 ?_
      refine FV.getF (v := 23) dX9_neverThree_35 sc_20 fl_9_117 rfl rfl hvc_20_4 ?_
      refine EV.iload dX9_neverThree_38 rfl ?_
      obtain ⟨h7, r8, hc6, hf⟩ := pv_c2o hf
      refine EV.invV (As := [.inr (.inr (x3)), .inr (.inr (x5)), .inr (.inr (23)), .inl (v4)]) (st := []) (d1 := d - 1) (sh1 := pv_SC) (h1 := MC h7) (r1 := (some (.inl r8))) dX9_neverThree_40 sc_78 (by decide) md_X1_breakRod ml_X9_182 im_X1_breakRod se_X1_breakRod (tX1_breakRod (by omega) (mx3) (mx5) ((by decide : 23 ∈ pv_l2)) hc6) (by omega) rfl rfl (Nat.le_of_ble_eq_true rfl) ⟨[], (List.append_nil _).symm⟩ ?_
      refine EV.eqS (st2 := [.inl (r8)]) rfl ?_
      refine EV.iconst dX9_neverThree_43 (by decide) (by decide) ?_
      refine EV.icmp_lt (tgt := 49) dX9_neverThree_44 (by decide) (fun q9 => ?_) (fun q9 => ?_)
      · have hf := pv_gp hf q9
        obtain ⟨x10, ex10, hf⟩ := pv_bo hf
        refine FV.inc (L2 := [some (.inr (.inr (0))), some (.inl (a1)), some (.inl (a2)), some (.inl (a3)), some (.inl (x10))]) dX9_neverThree_49 rfl (Nat.le_of_ble_eq_true rfl) ex10 rfl ?_
        refine EV.goto (tgt := 3) dX9_neverThree_52 (by decide) ?_
        refine EV.weak (L2 := [some (.inr (.inr (0))), some (.inl (a1)), some (.inl (a2)), some (.inl (a3)), some (.inl (x10))]) (And.intro rfl (And.intro rfl (And.intro rfl (And.intro rfl (And.intro rfl trivial))))) ?_
        exact ih _  _ hf
      · have hf := pv_gn hf q9
        refine EV.iconst dX9_neverThree_47 (by decide) (by decide) ?_
        exact FV.zret dX9_neverThree_48 (by decide) hf

set_option maxHeartbeats 4000000 in
set_option maxRecDepth 20000 in
theorem tX9_neverThree {d N : Nat} {a1 : Int} {a2 : Int} {a3 : Int} {h h' : pv_H} {r : Int} (hd : 7 ≤ d)  (hf : fX9_neverThree N a1 a2 a3 h = some (h', r)) : CALL yX9_neverThree cX9_neverThree 5 (some .boolean) d pv_SC (MC h) [.inr (.inr (0)), .inl (a1), .inl (a2), .inl (a3)] pv_SC (MC h') (some (.inl r)) := by
  unfold fX9_neverThree at hf
  refine EV.call (own := RX9) (ini := false) rfl rfl (fun q => by cases q) ⟨[], (List.append_nil _).symm⟩ (Nat.le_of_ble_eq_true rfl) ?_
  refine EV.eqL (L2 := [some (.inr (.inr (0))), some (.inl (a1)), some (.inl (a2)), some (.inl (a3)), none]) rfl ?_
  refine EV.iconst dX9_neverThree_0 (by decide) (by decide) ?_
  refine FV.stiw (L2 := [some (.inr (.inr (0))), some (.inl (a1)), some (.inl (a2)), some (.inl (a3)), some (.inl (1))]) dX9_neverThree_1 (Nat.le_of_ble_eq_true rfl) rfl rfl ?_
  refine EV.weak (L2 := [some (.inr (.inr (0))), some (.inl (a1)), some (.inl (a2)), some (.inl (a3)), some (.inl (1))]) (And.intro rfl (And.intro rfl (And.intro rfl (And.intro rfl (And.intro rfl trivial))))) ?_
  exact tX9_neverThree_3 hd   _ _  _ hf

noncomputable def fX9_never_66 (N : Nat) (k33 : Int → Int → pv_H → Option (pv_H × Int)) (a1 : Int) (a2 : Int) (v3 : Int) (v4 : Int) (h : pv_H) : Option (pv_H × Int) :=
  pv_b (pv_w (v4 + 1)) fun x22 => k33 (v3) (x22) h

noncomputable def fX9_never_33 (N : Nat)  (a1 : Int) (a2 : Int) : Nat → Int → Int → pv_H → Option (pv_H × Int)
  | 0, _, _, _ => none
  | n + 1, v3, v4, h => if 4 ≤ v4 then (some (h, v3)) else (pv_c1 (fX9_hasRod N v4 h) fun r15 => if r15 = 0 then (fX9_never_66 N (fun v3_ v4_ hh => fX9_never_33 N  a1 a2 n v3_ v4_ hh) a1 a2 (v3) (v4) h) else (pv_c2b (fX9_neverThree N v4 a1 a2 h) fun h18 r19 => if r19 = 0 then (fX9_never_66 N (fun v3_ v4_ hh => fX9_never_33 N  a1 a2 n v3_ v4_ hh) a1 a2 (v3) (v4) h18) else (pv_b (pv_or v3 (pv_shl 1 v4)) fun x21 => fX9_never_66 N (fun v3_ v4_ hh => fX9_never_33 N  a1 a2 n v3_ v4_ hh) a1 a2 (x21) (v4) h18)))

noncomputable def fX9_never (N : Nat) (a1 : Int) (a2 : Int) (h : pv_H) : Option (pv_H × Int) :=
  pv_c1 (fX9_hasDoings N a1 h) fun r2 => if r2 = 0 then (pv_c2b (fX9_refuse N (-2) h) fun h11 r12 => some (h11, r12)) else (pv_c1 (fX9_areSeeds N a2 h) fun r5 => if r5 = 0 then (pv_c2b (fX9_refuse N (-3) h) fun h8 r9 => some (h8, r9)) else (fX9_never_33 N  a1 a2 N (0) (0) h))

set_option maxHeartbeats 4000000 in
set_option maxRecDepth 20000 in
theorem tX9_never_66 {d N : Nat} {k33 : Int → Int → pv_H → Option (pv_H × Int)} {a1 : Int} {a2 : Int} {v3 : Int} {v4 : Int} {h h' : pv_H} {r : Int} (hd : 8 ≤ d) (hk33 : ∀ (v3 : Int) (v4 : Int)  (hh : pv_H), k33 v3 v4 hh = some (h', r) → EV RX9 cX9_never 5 (some .int) false d pv_SC (MC h') (some (.inl r)) 33 [some (.inr (.inr (0))), some (.inl (a1)), some (.inl (a2)), some (.inl (v3)), some (.inl (v4))] [] pv_SC (MC hh))   (hf : fX9_never_66 N k33 a1 a2 v3 v4 h = some (h', r)) : EV RX9 cX9_never 5 (some .int) false d pv_SC (MC h') (some (.inl r)) 66 [some (.inr (.inr (0))), some (.inl (a1)), some (.inl (a2)), some (.inl (v3)), some (.inl (v4))] [] pv_SC (MC h) := by
  unfold fX9_never_66 at hf
  obtain ⟨x22, ex22, hf⟩ := pv_bo hf
  refine FV.inc (L2 := [some (.inr (.inr (0))), some (.inl (a1)), some (.inl (a2)), some (.inl (v3)), some (.inl (x22))]) dX9_never_66 rfl (Nat.le_of_ble_eq_true rfl) ex22 rfl ?_
  refine EV.goto (tgt := 33) dX9_never_69 (by decide) ?_
  refine EV.weak (L2 := [some (.inr (.inr (0))), some (.inl (a1)), some (.inl (a2)), some (.inl (v3)), some (.inl (x22))]) (And.intro rfl (And.intro rfl (And.intro rfl (And.intro rfl (And.intro rfl trivial))))) ?_
  exact hk33 _ _  _ hf

set_option maxHeartbeats 4000000 in
set_option maxRecDepth 20000 in
theorem tX9_never_33 {d N : Nat}  {a1 : Int} {a2 : Int} {h' : pv_H} {r : Int} (hd : 8 ≤ d)   : ∀ (n : Nat) (v3 : Int) (v4 : Int)  (h : pv_H), fX9_never_33 N  a1 a2 n v3 v4 h = some (h', r) → EV RX9 cX9_never 5 (some .int) false d pv_SC (MC h') (some (.inl r)) 33 [some (.inr (.inr (0))), some (.inl (a1)), some (.inl (a2)), some (.inl (v3)), some (.inl (v4))] [] pv_SC (MC h) := by
  intro n
  induction n with
  | zero =>
    intro v3 v4  h hf
    cases hf
  | succ n ih =>
    intro v3 v4  h hf
    rw [fX9_never_33] at hf
    refine EV.iload dX9_never_33 rfl ?_
    refine EV.iconst dX9_never_35 (by decide) (by decide) ?_
    refine EV.icmp_ge (tgt := 72) dX9_never_36 (by decide) (fun q13 => ?_) (fun q13 => ?_)
    · have hf := pv_gp hf q13
      refine EV.iload_n dX9_never_72 rfl rfl ?_
      exact FV.iret dX9_never_73 hf
    · have hf := pv_gn hf q13
      refine EV.aload_n dX9_never_39 rfl rfl ?_
      refine EV.iload dX9_never_40 rfl ?_
      obtain ⟨r15, hc14, hf⟩ := pv_c1o hf
      refine EV.invV (As := [.inl (v4)]) (st := []) (d1 := d - 1) (sh1 := pv_SC) (h1 := MC h) (r1 := (some (.inl r15))) dX9_never_42 sc_0 (by decide) md_X9_hasRod ml_X9_140 im_X9_hasRod se_X9_hasRod (tX9_hasRod (by omega)  hc14) (by omega) rfl rfl (Nat.le_of_ble_eq_true rfl) ⟨[], (List.append_nil _).symm⟩ ?_
      refine EV.eqS (st2 := [.inl (r15)]) rfl ?_
      refine EV.if_eq (tgt := 66) dX9_never_45 (by decide) (fun q16 => ?_) (fun q16 => ?_)
      · have hf := pv_gp hf q16
        refine EV.weak (L2 := [some (.inr (.inr (0))), some (.inl (a1)), some (.inl (a2)), some (.inl (v3)), some (.inl (v4))]) (And.intro rfl (And.intro rfl (And.intro rfl (And.intro rfl (And.intro rfl trivial))))) ?_
        exact tX9_never_66 hd (ih)   hf
      · have hf := pv_gn hf q16
        refine EV.aload_n dX9_never_48 rfl rfl ?_
        refine EV.iload dX9_never_49 rfl ?_
        refine EV.iload_n dX9_never_51 rfl rfl ?_
        refine EV.iload_n dX9_never_52 rfl rfl ?_
        obtain ⟨h18, r19, hc17, hf⟩ := pv_c2o hf
        refine EV.invV (As := [.inl (v4), .inl (a1), .inl (a2)]) (st := []) (d1 := d - 1) (sh1 := pv_SC) (h1 := MC h18) (r1 := (some (.inl r19))) dX9_never_53 sc_0 (by decide) md_X9_neverThree ml_X9_286 im_X9_neverThree se_X9_neverThree (tX9_neverThree (by omega)  hc17) (by omega) rfl rfl (Nat.le_of_ble_eq_true rfl) ⟨[], (List.append_nil _).symm⟩ ?_
        refine EV.eqS (st2 := [.inl (r19)]) rfl ?_
        refine EV.if_eq (tgt := 66) dX9_never_56 (by decide) (fun q20 => ?_) (fun q20 => ?_)
        · have hf := pv_gp hf q20
          refine EV.weak (L2 := [some (.inr (.inr (0))), some (.inl (a1)), some (.inl (a2)), some (.inl (v3)), some (.inl (v4))]) (And.intro rfl (And.intro rfl (And.intro rfl (And.intro rfl (And.intro rfl trivial))))) ?_
          exact tX9_never_66 hd (ih)   hf
        · have hf := pv_gn hf q20
          refine EV.iload_n dX9_never_59 rfl rfl ?_
          refine EV.iconst dX9_never_60 (by decide) (by decide) ?_
          refine EV.iload dX9_never_61 rfl ?_
          refine EV.ishl dX9_never_63 ?_
          refine EV.ior dX9_never_64 ?_
          obtain ⟨x21, ex21, hf⟩ := pv_bo hf
          refine FV.sti (L2 := [some (.inr (.inr (0))), some (.inl (a1)), some (.inl (a2)), some (.inl (x21)), some (.inl (v4))]) dX9_never_65 rfl (Nat.le_of_ble_eq_true rfl) ex21 rfl ?_
          refine EV.weak (L2 := [some (.inr (.inr (0))), some (.inl (a1)), some (.inl (a2)), some (.inl (x21)), some (.inl (v4))]) (And.intro rfl (And.intro rfl (And.intro rfl (And.intro rfl (And.intro rfl trivial))))) ?_
          exact tX9_never_66 hd (ih)   hf

set_option maxHeartbeats 4000000 in
set_option maxRecDepth 20000 in
theorem tX9_never {d N : Nat} {a1 : Int} {a2 : Int} {h h' : pv_H} {r : Int} (hd : 8 ≤ d)  (hf : fX9_never N a1 a2 h = some (h', r)) : CALL yX9_never cX9_never 5 (some .int) d pv_SC (MC h) [.inr (.inr (0)), .inl (a1), .inl (a2)] pv_SC (MC h') (some (.inl r)) := by
  unfold fX9_never at hf
  refine EV.call (own := RX9) (ini := false) rfl rfl (fun q => by cases q) ⟨[], (List.append_nil _).symm⟩ (Nat.le_of_ble_eq_true rfl) ?_
  refine EV.eqL (L2 := [some (.inr (.inr (0))), some (.inl (a1)), some (.inl (a2)), none, none]) rfl ?_
  refine EV.iload_n dX9_never_0 rfl rfl ?_
  obtain ⟨r2, hc1, hf⟩ := pv_c1o hf
  refine EV.invS (As := [.inl (a1)]) (st := []) (d1 := d - 1) (sh1 := pv_SC) (h1 := MC h) (r1 := (some (.inl r2))) dX9_never_1 md_X9_hasDoings ml_X9_172 st_X9_hasDoings (tX9_hasDoings (by omega)  hc1) (by omega) rfl rfl (Nat.le_of_ble_eq_true rfl) ⟨[], (List.append_nil _).symm⟩ ?_
  refine EV.eqS (st2 := [.inl (r2)]) rfl ?_
  refine EV.if_ne (tgt := 14) dX9_never_4 (by decide) (fun q3 => ?_) (fun q3 => ?_)
  · have hf := pv_gn hf q3
    refine EV.iload_n dX9_never_14 rfl rfl ?_
    obtain ⟨r5, hc4, hf⟩ := pv_c1o hf
    refine EV.invS (As := [.inl (a2)]) (st := []) (d1 := d - 1) (sh1 := pv_SC) (h1 := MC h) (r1 := (some (.inl r5))) dX9_never_15 md_X9_areSeeds ml_X9_251 st_X9_areSeeds (tX9_areSeeds (by omega)  hc4) (by omega) rfl rfl (Nat.le_of_ble_eq_true rfl) ⟨[], (List.append_nil _).symm⟩ ?_
    refine EV.eqS (st2 := [.inl (r5)]) rfl ?_
    refine EV.if_ne (tgt := 28) dX9_never_18 (by decide) (fun q6 => ?_) (fun q6 => ?_)
    · have hf := pv_gn hf q6
      refine EV.iconst dX9_never_28 (by decide) (by decide) ?_
      refine FV.sti (L2 := [some (.inr (.inr (0))), some (.inl (a1)), some (.inl (a2)), some (.inl (0)), none]) dX9_never_29 rfl (Nat.le_of_ble_eq_true rfl) rfl rfl ?_
      refine EV.iconst dX9_never_30 (by decide) (by decide) ?_
      refine FV.stiw (L2 := [some (.inr (.inr (0))), some (.inl (a1)), some (.inl (a2)), some (.inl (0)), some (.inl (0))]) dX9_never_31 (Nat.le_of_ble_eq_true rfl) rfl rfl ?_
      refine EV.weak (L2 := [some (.inr (.inr (0))), some (.inl (a1)), some (.inl (a2)), some (.inl (0)), some (.inl (0))]) (And.intro rfl (And.intro rfl (And.intro rfl (And.intro rfl (And.intro rfl trivial))))) ?_
      exact tX9_never_33 hd   _ _ _  _ hf
    · have hf := pv_gp hf q6
      refine EV.aload_n dX9_never_21 rfl rfl ?_
      refine EV.bipush dX9_never_22 (by decide) (by decide) ?_
      obtain ⟨h8, r9, hc7, hf⟩ := pv_c2o hf
      refine EV.invV (As := [.inl (-3)]) (st := []) (d1 := d - 1) (sh1 := pv_SC) (h1 := MC h8) (r1 := (some (.inl r9))) dX9_never_24 sc_0 (by decide) md_X9_refuse ml_X9_59 im_X9_refuse se_X9_refuse (tX9_refuse (by omega)  hc7) (by omega) rfl rfl (Nat.le_of_ble_eq_true rfl) ⟨[], (List.append_nil _).symm⟩ ?_
      refine EV.eqS (st2 := [.inl (r9)]) rfl ?_
      exact FV.iret dX9_never_27 hf
  · have hf := pv_gp hf q3
    refine EV.aload_n dX9_never_7 rfl rfl ?_
    refine EV.bipush dX9_never_8 (by decide) (by decide) ?_
    obtain ⟨h11, r12, hc10, hf⟩ := pv_c2o hf
    refine EV.invV (As := [.inl (-2)]) (st := []) (d1 := d - 1) (sh1 := pv_SC) (h1 := MC h11) (r1 := (some (.inl r12))) dX9_never_10 sc_0 (by decide) md_X9_refuse ml_X9_59 im_X9_refuse se_X9_refuse (tX9_refuse (by omega)  hc10) (by omega) rfl rfl (Nat.le_of_ble_eq_true rfl) ⟨[], (List.append_nil _).symm⟩ ?_
    refine EV.eqS (st2 := [.inl (r12)]) rfl ?_
    exact FV.iret dX9_never_13 hf

noncomputable def fX9_runsLike_103 (N : Nat) (k6 : Int → Int → pv_H → Option (pv_H × Int)) (a1 : Int) (a2 : Int) (a3 : Int) (a4 : Int) (a5 : Int) (v6 : Int) (v7 : Int) (h : pv_H) : Option (pv_H × Int) :=
  pv_b (pv_w (v7 + 1)) fun x20 => k6 (v6) (x20) h

noncomputable def fX9_runsLike_74 (N : Nat) (k6 : Int → Int → pv_H → Option (pv_H × Int)) (a1 : Int) (a2 : Int) (a3 : Int) (a4 : Int) (a5 : Int) (v6 : Int) (v7 : Int) (s0 : Int) (h : pv_H) : Option (pv_H × Int) :=
  if s0 = 0 then (fX9_runsLike_103 N (k6) a1 a2 a3 a4 a5 (v6) (v7) h) else (if 0 ≤ a3 ∧ a3 < 4 then (pv_b (216 + 2 * (Int.toNat (a3))) fun x15 => pv_c1 (fX7_hasPieces N 79 x15 h) fun r17 => if r17 = 0 then (fX9_runsLike_103 N (k6) a1 a2 a3 a4 a5 (v6) (v7) h) else (pv_b (pv_w (v6 + 1)) fun x19 => fX9_runsLike_103 N (k6) a1 a2 a3 a4 a5 (x19) (v7) h)) else none)

noncomputable def fX9_runsLike_69 (N : Nat) (k6 : Int → Int → pv_H → Option (pv_H × Int)) (a1 : Int) (a2 : Int) (a3 : Int) (a4 : Int) (a5 : Int) (v6 : Int) (v7 : Int) (h : pv_H) : Option (pv_H × Int) :=
  fX9_runsLike_74 N (k6) a1 a2 a3 a4 a5 (v6) (v7) (1) h

noncomputable def fX9_runsLike_6 (N : Nat)  (a1 : Int) (a2 : Int) (a3 : Int) (a4 : Int) (a5 : Int) : Nat → Int → Int → pv_H → Option (pv_H × Int)
  | 0, _, _, _ => none
  | n + 1, v6, v7, h => if a4 < v7 then (some (h, v6)) else (if 0 ≤ a1 ∧ a1 < 4 then (pv_b (35 + 6 * (Int.toNat (a1))) fun x3 => if 0 ≤ a2 ∧ a2 < 4 then (pv_b (59 + 4 * (Int.toNat (a2))) fun x5 => pv_c2b (fX1_breakRod N x3 x5 23 v7 h) fun h7 r8 => if a5 = (-1) then (fX9_runsLike_69 N (fun v6_ v7_ hh => fX9_runsLike_6 N  a1 a2 a3 a4 a5 n v6_ v7_ hh) a1 a2 a3 a4 a5 (v6) (v7) h7) else (pv_c1 (fX7_breakAt N 79 a5 h7) fun r11 => if r11 = 0 then (fX9_runsLike_69 N (fun v6_ v7_ hh => fX9_runsLike_6 N  a1 a2 a3 a4 a5 n v6_ v7_ hh) a1 a2 a3 a4 a5 (v6) (v7) h7) else (fX9_runsLike_74 N (fun v6_ v7_ hh => fX9_runsLike_6 N  a1 a2 a3 a4 a5 n v6_ v7_ hh) a1 a2 a3 a4 a5 (v6) (v7) (0) h7))) else none) else none)

noncomputable def fX9_runsLike (N : Nat) (a1 : Int) (a2 : Int) (a3 : Int) (a4 : Int) (a5 : Int) (h : pv_H) : Option (pv_H × Int) :=
  fX9_runsLike_6 N  a1 a2 a3 a4 a5 N (0) (1) h

set_option maxHeartbeats 4000000 in
set_option maxRecDepth 20000 in
theorem tX9_runsLike_103 {d N : Nat} {k6 : Int → Int → pv_H → Option (pv_H × Int)} {a1 : Int} {a2 : Int} {a3 : Int} {a4 : Int} {a5 : Int} {v6 : Int} {v7 : Int} {h h' : pv_H} {r : Int} (hd : 7 ≤ d) (hk6 : ∀ (v6 : Int) (v7 : Int)  (hh : pv_H), k6 v6 v7 hh = some (h', r) → EV RX9 cX9_runsLike 9 (some .int) false d pv_SC (MC h') (some (.inl r)) 6 [some (.inr (.inr (0))), some (.inl (a1)), some (.inl (a2)), some (.inl (a3)), some (.inl (a4)), some (.inl (a5)), some (.inl (v6)), some (.inl (v7)), none] [] pv_SC (MC hh))   (hf : fX9_runsLike_103 N k6 a1 a2 a3 a4 a5 v6 v7 h = some (h', r)) : EV RX9 cX9_runsLike 9 (some .int) false d pv_SC (MC h') (some (.inl r)) 103 [some (.inr (.inr (0))), some (.inl (a1)), some (.inl (a2)), some (.inl (a3)), some (.inl (a4)), some (.inl (a5)), some (.inl (v6)), some (.inl (v7)), none] [] pv_SC (MC h) := by
  unfold fX9_runsLike_103 at hf
  obtain ⟨x20, ex20, hf⟩ := pv_bo hf
  refine FV.inc (L2 := [some (.inr (.inr (0))), some (.inl (a1)), some (.inl (a2)), some (.inl (a3)), some (.inl (a4)), some (.inl (a5)), some (.inl (v6)), some (.inl (x20)), none]) dX9_runsLike_103 rfl (Nat.le_of_ble_eq_true rfl) ex20 rfl ?_
  refine EV.goto (tgt := 6) dX9_runsLike_106 (by decide) ?_
  refine EV.weak (L2 := [some (.inr (.inr (0))), some (.inl (a1)), some (.inl (a2)), some (.inl (a3)), some (.inl (a4)), some (.inl (a5)), some (.inl (v6)), some (.inl (x20)), none]) (And.intro rfl (And.intro rfl (And.intro rfl (And.intro rfl (And.intro rfl (And.intro rfl (And.intro rfl (And.intro rfl trivial)))))))) ?_
  exact hk6 _ _  _ hf

set_option maxHeartbeats 4000000 in
set_option maxRecDepth 20000 in
theorem tX9_runsLike_74 {d N : Nat} {k6 : Int → Int → pv_H → Option (pv_H × Int)} {a1 : Int} {a2 : Int} {a3 : Int} {a4 : Int} {a5 : Int} {v6 : Int} {v7 : Int} {s0 : Int} {h h' : pv_H} {r : Int} (hd : 7 ≤ d) (hk6 : ∀ (v6 : Int) (v7 : Int)  (hh : pv_H), k6 v6 v7 hh = some (h', r) → EV RX9 cX9_runsLike 9 (some .int) false d pv_SC (MC h') (some (.inl r)) 6 [some (.inr (.inr (0))), some (.inl (a1)), some (.inl (a2)), some (.inl (a3)), some (.inl (a4)), some (.inl (a5)), some (.inl (v6)), some (.inl (v7)), none] [] pv_SC (MC hh))   (hf : fX9_runsLike_74 N k6 a1 a2 a3 a4 a5 v6 v7 s0 h = some (h', r)) : EV RX9 cX9_runsLike 9 (some .int) false d pv_SC (MC h') (some (.inl r)) 74 [some (.inr (.inr (0))), some (.inl (a1)), some (.inl (a2)), some (.inl (a3)), some (.inl (a4)), some (.inl (a5)), some (.inl (v6)), some (.inl (v7)), none] [.inl (s0)] pv_SC (MC h) := by
  unfold fX9_runsLike_74 at hf
  refine FV.stiw (L2 := [some (.inr (.inr (0))), some (.inl (a1)), some (.inl (a2)), some (.inl (a3)), some (.inl (a4)), some (.inl (a5)), some (.inl (v6)), some (.inl (v7)), some (.inl (s0))]) dX9_runsLike_74 (Nat.le_of_ble_eq_true rfl) rfl rfl ?_
  refine EV.iload dX9_runsLike_76 rfl ?_
  refine EV.if_eq (tgt := 103) dX9_runsLike_78 (by decide) (fun q13 => ?_) (fun q13 => ?_)
  · have hf := pv_gp hf q13
    refine EV.weak (L2 := [some (.inr (.inr (0))), some (.inl (a1)), some (.inl (a2)), some (.inl (a3)), some (.inl (a4)), some (.inl (a5)), some (.inl (v6)), some (.inl (v7)), none]) (And.intro rfl (And.intro rfl (And.intro rfl (And.intro rfl (And.intro rfl (And.intro rfl (And.intro rfl (And.intro rfl trivial)))))))) ?_
    exact tX9_runsLike_103 hd (hk6)   hf
  · have hf := pv_gn hf q13
    refine EV.aload_n dX9_runsLike_81 rfl rfl ?_
    refine FV.getF (v := 78) dX9_runsLike_82 sc_0 fl_9_40 rfl rfl hvc_0_5 ?_
    refine FV.getF (v := 79) dX9_runsLike_85 sc_78 fl_9_190 rfl rfl hvc_78_0 ?_
    refine EV.aload_n dX9_runsLike_88 rfl rfl ?_
    refine FV.getF (v := 76) dX9_runsLike_89 sc_0 fl_9_29 rfl rfl hvc_0_3 ?_
    refine EV.iload_n dX9_runsLike_92 rfl rfl ?_
    obtain ⟨g14, hf⟩ := pv_gd hf
    obtain ⟨x15, ex15, hf⟩ := pv_bo hf
    have mx15 : x15 ∈ pv_l6 := ex15 ▸ mq_76 _ (by omega)
    refine FV.aald (a := 3) (v := x15) dX9_runsLike_93 sc_76 (by decide) g14.1 g14.2 (j := (Int.toNat (a3))) rfl rfl (by rw [hq_76 _ (by omega), ex15]) ?_
    obtain ⟨r17, hc16, hf⟩ := pv_c1o hf
    refine EV.invV (As := [.inr (.inr (x15))]) (st := []) (d1 := d - 1) (sh1 := pv_SC) (h1 := MC h) (r1 := (some (.inl r17))) dX9_runsLike_94 sc_79 (by decide) md_X7_hasPieces ml_X9_294 im_X7_hasPieces se_X7_hasPieces (tX7_hasPieces (by omega) ((by decide : 79 ∈ pv_l7)) (mx15) hc16) (by omega) rfl rfl (Nat.le_of_ble_eq_true rfl) ⟨[], (List.append_nil _).symm⟩ ?_
    refine EV.eqS (st2 := [.inl (r17)]) rfl ?_
    refine EV.if_eq (tgt := 103) dX9_runsLike_97 (by decide) (fun q18 => ?_) (fun q18 => ?_)
    · have hf := pv_gp hf q18
      refine EV.weak (L2 := [some (.inr (.inr (0))), some (.inl (a1)), some (.inl (a2)), some (.inl (a3)), some (.inl (a4)), some (.inl (a5)), some (.inl (v6)), some (.inl (v7)), none]) (And.intro rfl (And.intro rfl (And.intro rfl (And.intro rfl (And.intro rfl (And.intro rfl (And.intro rfl (And.intro rfl trivial)))))))) ?_
      exact tX9_runsLike_103 hd (hk6)   hf
    · have hf := pv_gn hf q18
      obtain ⟨x19, ex19, hf⟩ := pv_bo hf
      refine FV.inc (L2 := [some (.inr (.inr (0))), some (.inl (a1)), some (.inl (a2)), some (.inl (a3)), some (.inl (a4)), some (.inl (a5)), some (.inl (x19)), some (.inl (v7)), some (.inl (s0))]) dX9_runsLike_100 rfl (Nat.le_of_ble_eq_true rfl) ex19 rfl ?_
      refine EV.weak (L2 := [some (.inr (.inr (0))), some (.inl (a1)), some (.inl (a2)), some (.inl (a3)), some (.inl (a4)), some (.inl (a5)), some (.inl (x19)), some (.inl (v7)), none]) (And.intro rfl (And.intro rfl (And.intro rfl (And.intro rfl (And.intro rfl (And.intro rfl (And.intro rfl (And.intro rfl trivial)))))))) ?_
      exact tX9_runsLike_103 hd (hk6)   hf

set_option maxHeartbeats 4000000 in
set_option maxRecDepth 20000 in
theorem tX9_runsLike_69 {d N : Nat} {k6 : Int → Int → pv_H → Option (pv_H × Int)} {a1 : Int} {a2 : Int} {a3 : Int} {a4 : Int} {a5 : Int} {v6 : Int} {v7 : Int} {h h' : pv_H} {r : Int} (hd : 7 ≤ d) (hk6 : ∀ (v6 : Int) (v7 : Int)  (hh : pv_H), k6 v6 v7 hh = some (h', r) → EV RX9 cX9_runsLike 9 (some .int) false d pv_SC (MC h') (some (.inl r)) 6 [some (.inr (.inr (0))), some (.inl (a1)), some (.inl (a2)), some (.inl (a3)), some (.inl (a4)), some (.inl (a5)), some (.inl (v6)), some (.inl (v7)), none] [] pv_SC (MC hh))   (hf : fX9_runsLike_69 N k6 a1 a2 a3 a4 a5 v6 v7 h = some (h', r)) : EV RX9 cX9_runsLike 9 (some .int) false d pv_SC (MC h') (some (.inl r)) 69 [some (.inr (.inr (0))), some (.inl (a1)), some (.inl (a2)), some (.inl (a3)), some (.inl (a4)), some (.inl (a5)), some (.inl (v6)), some (.inl (v7)), none] [] pv_SC (MC h) := by
  unfold fX9_runsLike_69 at hf
  refine EV.iconst dX9_runsLike_69 (by decide) (by decide) ?_
  refine EV.goto (tgt := 74) dX9_runsLike_70 (by decide) ?_
  refine EV.weak (L2 := [some (.inr (.inr (0))), some (.inl (a1)), some (.inl (a2)), some (.inl (a3)), some (.inl (a4)), some (.inl (a5)), some (.inl (v6)), some (.inl (v7)), none]) (And.intro rfl (And.intro rfl (And.intro rfl (And.intro rfl (And.intro rfl (And.intro rfl (And.intro rfl (And.intro rfl trivial)))))))) ?_
  exact tX9_runsLike_74 hd (hk6)   hf

set_option maxHeartbeats 4000000 in
set_option maxRecDepth 20000 in
theorem tX9_runsLike_6 {d N : Nat}  {a1 : Int} {a2 : Int} {a3 : Int} {a4 : Int} {a5 : Int} {h' : pv_H} {r : Int} (hd : 7 ≤ d)   : ∀ (n : Nat) (v6 : Int) (v7 : Int)  (h : pv_H), fX9_runsLike_6 N  a1 a2 a3 a4 a5 n v6 v7 h = some (h', r) → EV RX9 cX9_runsLike 9 (some .int) false d pv_SC (MC h') (some (.inl r)) 6 [some (.inr (.inr (0))), some (.inl (a1)), some (.inl (a2)), some (.inl (a3)), some (.inl (a4)), some (.inl (a5)), some (.inl (v6)), some (.inl (v7)), none] [] pv_SC (MC h) := by
  intro n
  induction n with
  | zero =>
    intro v6 v7  h hf
    cases hf
  | succ n ih =>
    intro v6 v7  h hf
    rw [fX9_runsLike_6] at hf
    refine EV.iload dX9_runsLike_6 rfl ?_
    refine EV.iload dX9_runsLike_8 rfl ?_
    refine EV.icmp_gt (tgt := 109) dX9_runsLike_10 (by decide) (fun q1 => ?_) (fun q1 => ?_)
    · have hf := pv_gp hf q1
      refine EV.iload dX9_runsLike_109 rfl ?_
      exact FV.iret dX9_runsLike_111 hf
    · have hf := pv_gn hf q1
      refine EV.aload_n dX9_runsLike_13 rfl rfl ?_
      refine FV.getF (v := 78) dX9_runsLike_14 sc_0 fl_9_40 rfl rfl hvc_0_5 ?_
      refine EV.aload_n dX9_runsLike_17 rfl rfl ?_
      refine FV.getF (v := 20) dX9_runsLike_18 sc_0 fl_9_19 rfl rfl hvc_0_1 ?_
      refine FV.getF (v := 21) dX9_runsLike_21 sc_20 fl_9_94 rfl rfl hvc_20_2 ?_
      refine EV.iload_n dX9_runsLike_24 rfl rfl ?_
      obtain ⟨g2, hf⟩ := pv_gd hf
      obtain ⟨x3, ex3, hf⟩ := pv_bo hf
      have mx3 : x3 ∈ pv_l5 := ex3 ▸ mq_21 _ (by omega)
      refine FV.aald (a := 0) (v := x3) dX9_runsLike_25 sc_21 (by decide) g2.1 g2.2 (j := (Int.toNat (a1))) rfl rfl (by rw [hq_21 _ (by omega), ex3]) ?_
      refine EV.aload_n dX9_runsLike_26 rfl rfl ?_
      refine FV.getF (v := 20) dX9_runsLike_27 sc_0 fl_9_19 rfl rfl hvc_0_1 ?_
      refine FV.getF (v := 22) dX9_runsLike_30 sc_20 fl_9_105 rfl rfl hvc_20_3 ?_
      refine EV.iload_n dX9_runsLike_33 rfl rfl ?_
      obtain ⟨g4, hf⟩ := pv_gd hf
      obtain ⟨x5, ex5, hf⟩ := pv_bo hf
      have mx5 : x5 ∈ pv_l0 := ex5 ▸ mq_22 _ (by omega)
      refine FV.aald (a := 1) (v := x5) dX9_runsLike_34 sc_22 (by decide) g4.1 g4.2 (j := (Int.toNat (a2))) rfl rfl (by rw [hq_22 _ (by omega), ex5]) ?_
      refine EV.aload_n dX9_runsLike_35 rfl rfl ?_
      refine FV.getF (v := 20) dX9_runsLike_36 sc_0 fl_9_19 rfl rfl hvc_0_1 ?_
      refine FV.getF (v := 23) dX9_runsLike_39 sc_20 fl_9_117 rfl rfl hvc_20_4 ?_
      refine EV.iload dX9_runsLike_42 rfl ?_
      obtain ⟨h7, r8, hc6, hf⟩ := pv_c2o hf
      refine EV.invV (As := [.inr (.inr (x3)), .inr (.inr (x5)), .inr (.inr (23)), .inl (v7)]) (st := []) (d1 := d - 1) (sh1 := pv_SC) (h1 := MC h7) (r1 := (some (.inl r8))) dX9_runsLike_44 sc_78 (by decide) md_X1_breakRod ml_X9_182 im_X1_breakRod se_X1_breakRod (tX1_breakRod (by omega) (mx3) (mx5) ((by decide : 23 ∈ pv_l2)) hc6) (by omega) rfl rfl (Nat.le_of_ble_eq_true rfl) ⟨[], (List.append_nil _).symm⟩ ?_
      refine EV.eqS (st2 := [.inl (r8)]) rfl ?_
      refine EV.pop dX9_runsLike_47 rfl ?_
      refine EV.iload dX9_runsLike_48 rfl ?_
      refine EV.iconst dX9_runsLike_50 (by decide) (by decide) ?_
      refine EV.icmp_eq (tgt := 69) dX9_runsLike_51 (by decide) (fun q9 => ?_) (fun q9 => ?_)
      · have hf := pv_gp hf q9
        refine EV.weak (L2 := [some (.inr (.inr (0))), some (.inl (a1)), some (.inl (a2)), some (.inl (a3)), some (.inl (a4)), some (.inl (a5)), some (.inl (v6)), some (.inl (v7)), none]) (And.intro rfl (And.intro rfl (And.intro rfl (And.intro rfl (And.intro rfl (And.intro rfl (And.intro rfl (And.intro rfl trivial)))))))) ?_
        exact tX9_runsLike_69 hd (ih)   hf
      · have hf := pv_gn hf q9
        refine EV.aload_n dX9_runsLike_54 rfl rfl ?_
        refine FV.getF (v := 78) dX9_runsLike_55 sc_0 fl_9_40 rfl rfl hvc_0_5 ?_
        refine FV.getF (v := 79) dX9_runsLike_58 sc_78 fl_9_190 rfl rfl hvc_78_0 ?_
        refine EV.iload dX9_runsLike_61 rfl ?_
        obtain ⟨r11, hc10, hf⟩ := pv_c1o hf
        refine EV.invV (As := [.inl (a5)]) (st := []) (d1 := d - 1) (sh1 := pv_SC) (h1 := MC h7) (r1 := (some (.inl r11))) dX9_runsLike_63 sc_79 (by decide) md_X7_breakAt ml_X9_259 im_X7_breakAt se_X7_breakAt (tX7_breakAt (by omega) ((by decide : 79 ∈ pv_l7)) hc10) (by omega) rfl rfl (Nat.le_of_ble_eq_true rfl) ⟨[], (List.append_nil _).symm⟩ ?_
        refine EV.eqS (st2 := [.inl (r11)]) rfl ?_
        refine EV.if_ne (tgt := 73) dX9_runsLike_66 (by decide) (fun q12 => ?_) (fun q12 => ?_)
        · have hf := pv_gn hf q12
          refine EV.iconst dX9_runsLike_73 (by decide) (by decide) ?_
          refine EV.weak (L2 := [some (.inr (.inr (0))), some (.inl (a1)), some (.inl (a2)), some (.inl (a3)), some (.inl (a4)), some (.inl (a5)), some (.inl (v6)), some (.inl (v7)), none]) (And.intro rfl (And.intro rfl (And.intro rfl (And.intro rfl (And.intro rfl (And.intro rfl (And.intro rfl (And.intro rfl trivial)))))))) ?_
          exact tX9_runsLike_74 hd (ih)   hf
        · have hf := pv_gp hf q12
          refine EV.weak (L2 := [some (.inr (.inr (0))), some (.inl (a1)), some (.inl (a2)), some (.inl (a3)), some (.inl (a4)), some (.inl (a5)), some (.inl (v6)), some (.inl (v7)), none]) (And.intro rfl (And.intro rfl (And.intro rfl (And.intro rfl (And.intro rfl (And.intro rfl (And.intro rfl (And.intro rfl trivial)))))))) ?_
          exact tX9_runsLike_69 hd (ih)   hf

set_option maxHeartbeats 4000000 in
set_option maxRecDepth 20000 in
theorem tX9_runsLike {d N : Nat} {a1 : Int} {a2 : Int} {a3 : Int} {a4 : Int} {a5 : Int} {h h' : pv_H} {r : Int} (hd : 7 ≤ d)  (hf : fX9_runsLike N a1 a2 a3 a4 a5 h = some (h', r)) : CALL yX9_runsLike cX9_runsLike 9 (some .int) d pv_SC (MC h) [.inr (.inr (0)), .inl (a1), .inl (a2), .inl (a3), .inl (a4), .inl (a5)] pv_SC (MC h') (some (.inl r)) := by
  unfold fX9_runsLike at hf
  refine EV.call (own := RX9) (ini := false) rfl rfl (fun q => by cases q) ⟨[], (List.append_nil _).symm⟩ (Nat.le_of_ble_eq_true rfl) ?_
  refine EV.eqL (L2 := [some (.inr (.inr (0))), some (.inl (a1)), some (.inl (a2)), some (.inl (a3)), some (.inl (a4)), some (.inl (a5)), none, none, none]) rfl ?_
  refine EV.iconst dX9_runsLike_0 (by decide) (by decide) ?_
  refine FV.stiw (L2 := [some (.inr (.inr (0))), some (.inl (a1)), some (.inl (a2)), some (.inl (a3)), some (.inl (a4)), some (.inl (a5)), some (.inl (0)), none, none]) dX9_runsLike_1 (Nat.le_of_ble_eq_true rfl) rfl rfl ?_
  refine EV.iconst dX9_runsLike_3 (by decide) (by decide) ?_
  refine FV.stiw (L2 := [some (.inr (.inr (0))), some (.inl (a1)), some (.inl (a2)), some (.inl (a3)), some (.inl (a4)), some (.inl (a5)), some (.inl (0)), some (.inl (1)), none]) dX9_runsLike_4 (Nat.le_of_ble_eq_true rfl) rfl rfl ?_
  refine EV.weak (L2 := [some (.inr (.inr (0))), some (.inl (a1)), some (.inl (a2)), some (.inl (a3)), some (.inl (a4)), some (.inl (a5)), some (.inl (0)), some (.inl (1)), none]) (And.intro rfl (And.intro rfl (And.intro rfl (And.intro rfl (And.intro rfl (And.intro rfl (And.intro rfl (And.intro rfl trivial)))))))) ?_
  exact tX9_runsLike_6 hd   _ _ _  _ hf

noncomputable def fX9_read_26 (N : Nat)  (a1 : Int) (a2 : Int) (a3 : Int) (a4 : Int)  (h : pv_H) : Option (pv_H × Int) :=
  pv_c2b (fX9_refuse N (-2) h) fun h23 r24 => some (h23, r24)

noncomputable def fX9_read_136 (N : Nat)  (a1 : Int) (a2 : Int) (a3 : Int) (a4 : Int) (s0 : Int) (h : pv_H) : Option (pv_H × Int) :=
  some (h, s0)

noncomputable def fX9_read_118 (N : Nat) (k78 : Int → Int → Int → Int → pv_H → Option (pv_H × Int)) (a1 : Int) (a2 : Int) (a3 : Int) (a4 : Int) (v5 : Int) (v6 : Int) (v7 : Int) (v8 : Int) (h : pv_H) : Option (pv_H × Int) :=
  pv_b (pv_w (v8 + 1)) fun x32 => k78 (v5) (v6) (v7) (x32) h

noncomputable def fX9_read_78 (N : Nat)  (a1 : Int) (a2 : Int) (a3 : Int) (a4 : Int) : Nat → Int → Int → Int → Int → pv_H → Option (pv_H × Int)
  | 0, _, _, _, _, _ => none
  | n + 1, v5, v6, v7, v8, h => if 4 ≤ v8 then (if a4 = 0 then (fX9_read_136 N  a1 a2 a3 a4 (v5) h) else (fX9_read_136 N  a1 a2 a3 a4 (v7) h)) else (pv_c2b (fX9_runsLike N a1 v8 a2 a3 (-1) h) fun h28 r29 => pv_b (pv_w (v5 + r29)) fun x30 => if r29 ≤ v6 then (fX9_read_118 N (fun v5_ v6_ v7_ v8_ hh => fX9_read_78 N  a1 a2 a3 a4 n v5_ v6_ v7_ v8_ hh) a1 a2 a3 a4 (x30) (v6) (v7) (v8) h28) else (fX9_read_118 N (fun v5_ v6_ v7_ v8_ hh => fX9_read_78 N  a1 a2 a3 a4 n v5_ v6_ v7_ v8_ hh) a1 a2 a3 a4 (x30) (r29) (v8) (v8) h28))

noncomputable def fX9_read (N : Nat) (a1 : Int) (a2 : Int) (a3 : Int) (a4 : Int) (h : pv_H) : Option (pv_H × Int) :=
  pv_c1 (fX9_hasRod N a1 h) fun r2 => if r2 = 0 then (fX9_read_26 N  a1 a2 a3 a4  h) else (pv_c1 (fX9_isRow N a2 h) fun r5 => if r5 = 0 then (fX9_read_26 N  a1 a2 a3 a4  h) else (if a4 < 0 then (fX9_read_26 N  a1 a2 a3 a4  h) else (if a4 ≤ 1 then (pv_c1 (fX9_areSeeds N a3 h) fun r10 => if r10 = 0 then (pv_c2b (fX9_refuse N (-3) h) fun h20 r21 => some (h20, r21)) else (if 0 ≤ a2 ∧ a2 < 4 then (pv_b (216 + 2 * (Int.toNat (a2))) fun x13 => if (h x13 0) = 0 then (pv_c2b (fX9_refuse N (-6) h) fun h17 r18 => some (h17, r18)) else (pv_b (-1) fun x15 => fX9_read_78 N  a1 a2 a3 a4 N (0) (0) (x15) (0) h)) else none)) else (fX9_read_26 N  a1 a2 a3 a4  h))))

set_option maxHeartbeats 4000000 in
set_option maxRecDepth 20000 in
theorem tX9_read_26 {d N : Nat}  {a1 : Int} {a2 : Int} {a3 : Int} {a4 : Int}  {h h' : pv_H} {r : Int} (hd : 8 ≤ d)    (hf : fX9_read_26 N  a1 a2 a3 a4  h = some (h', r)) : EV RX9 cX9_read 10 (some .int) false d pv_SC (MC h') (some (.inl r)) 26 [some (.inr (.inr (0))), none, none, none, none, none, none, none, none, none] [] pv_SC (MC h) := by
  unfold fX9_read_26 at hf
  refine EV.aload_n dX9_read_26 rfl rfl ?_
  refine EV.bipush dX9_read_27 (by decide) (by decide) ?_
  obtain ⟨h23, r24, hc22, hf⟩ := pv_c2o hf
  refine EV.invV (As := [.inl (-2)]) (st := []) (d1 := d - 1) (sh1 := pv_SC) (h1 := MC h23) (r1 := (some (.inl r24))) dX9_read_29 sc_0 (by decide) md_X9_refuse ml_X9_59 im_X9_refuse se_X9_refuse (tX9_refuse (by omega)  hc22) (by omega) rfl rfl (Nat.le_of_ble_eq_true rfl) ⟨[], (List.append_nil _).symm⟩ ?_
  refine EV.eqS (st2 := [.inl (r24)]) rfl ?_
  exact FV.iret dX9_read_32 hf

set_option maxHeartbeats 4000000 in
set_option maxRecDepth 20000 in
theorem tX9_read_136 {d N : Nat}  {a1 : Int} {a2 : Int} {a3 : Int} {a4 : Int} {s0 : Int} {h h' : pv_H} {r : Int} (hd : 8 ≤ d)    (hf : fX9_read_136 N  a1 a2 a3 a4 s0 h = some (h', r)) : EV RX9 cX9_read 10 (some .int) false d pv_SC (MC h') (some (.inl r)) 136 [none, none, none, none, none, none, none, none, none, none] [.inl (s0)] pv_SC (MC h) := by
  unfold fX9_read_136 at hf
  exact FV.iret dX9_read_136 hf

set_option maxHeartbeats 4000000 in
set_option maxRecDepth 20000 in
theorem tX9_read_118 {d N : Nat} {k78 : Int → Int → Int → Int → pv_H → Option (pv_H × Int)} {a1 : Int} {a2 : Int} {a3 : Int} {a4 : Int} {v5 : Int} {v6 : Int} {v7 : Int} {v8 : Int} {h h' : pv_H} {r : Int} (hd : 8 ≤ d) (hk78 : ∀ (v5 : Int) (v6 : Int) (v7 : Int) (v8 : Int)  (hh : pv_H), k78 v5 v6 v7 v8 hh = some (h', r) → EV RX9 cX9_read 10 (some .int) false d pv_SC (MC h') (some (.inl r)) 78 [some (.inr (.inr (0))), some (.inl (a1)), some (.inl (a2)), some (.inl (a3)), some (.inl (a4)), some (.inl (v5)), some (.inl (v6)), some (.inl (v7)), some (.inl (v8)), none] [] pv_SC (MC hh))   (hf : fX9_read_118 N k78 a1 a2 a3 a4 v5 v6 v7 v8 h = some (h', r)) : EV RX9 cX9_read 10 (some .int) false d pv_SC (MC h') (some (.inl r)) 118 [some (.inr (.inr (0))), some (.inl (a1)), some (.inl (a2)), some (.inl (a3)), some (.inl (a4)), some (.inl (v5)), some (.inl (v6)), some (.inl (v7)), some (.inl (v8)), none] [] pv_SC (MC h) := by
  unfold fX9_read_118 at hf
  obtain ⟨x32, ex32, hf⟩ := pv_bo hf
  refine FV.inc (L2 := [some (.inr (.inr (0))), some (.inl (a1)), some (.inl (a2)), some (.inl (a3)), some (.inl (a4)), some (.inl (v5)), some (.inl (v6)), some (.inl (v7)), some (.inl (x32)), none]) dX9_read_118 rfl (Nat.le_of_ble_eq_true rfl) ex32 rfl ?_
  refine EV.goto (tgt := 78) dX9_read_121 (by decide) ?_
  refine EV.weak (L2 := [some (.inr (.inr (0))), some (.inl (a1)), some (.inl (a2)), some (.inl (a3)), some (.inl (a4)), some (.inl (v5)), some (.inl (v6)), some (.inl (v7)), some (.inl (x32)), none]) (And.intro rfl (And.intro rfl (And.intro rfl (And.intro rfl (And.intro rfl (And.intro rfl (And.intro rfl (And.intro rfl (And.intro rfl trivial))))))))) ?_
  exact hk78 _ _ _ _  _ hf

set_option maxHeartbeats 4000000 in
set_option maxRecDepth 20000 in
theorem tX9_read_78 {d N : Nat}  {a1 : Int} {a2 : Int} {a3 : Int} {a4 : Int} {h' : pv_H} {r : Int} (hd : 8 ≤ d)   : ∀ (n : Nat) (v5 : Int) (v6 : Int) (v7 : Int) (v8 : Int)  (h : pv_H), fX9_read_78 N  a1 a2 a3 a4 n v5 v6 v7 v8 h = some (h', r) → EV RX9 cX9_read 10 (some .int) false d pv_SC (MC h') (some (.inl r)) 78 [some (.inr (.inr (0))), some (.inl (a1)), some (.inl (a2)), some (.inl (a3)), some (.inl (a4)), some (.inl (v5)), some (.inl (v6)), some (.inl (v7)), some (.inl (v8)), none] [] pv_SC (MC h) := by
  intro n
  induction n with
  | zero =>
    intro v5 v6 v7 v8  h hf
    cases hf
  | succ n ih =>
    intro v5 v6 v7 v8  h hf
    rw [fX9_read_78] at hf
    refine EV.iload dX9_read_78 rfl ?_
    refine EV.iconst dX9_read_80 (by decide) (by decide) ?_
    refine EV.icmp_ge (tgt := 124) dX9_read_81 (by decide) (fun q25 => ?_) (fun q25 => ?_)
    · have hf := pv_gp hf q25
      refine EV.iload dX9_read_124 rfl ?_
      refine EV.if_ne (tgt := 134) dX9_read_126 (by decide) (fun q26 => ?_) (fun q26 => ?_)
      · have hf := pv_gn hf q26
        refine EV.iload dX9_read_134 rfl ?_
        refine EV.weak (L2 := [none, none, none, none, none, none, none, none, none, none]) trivial ?_
        exact tX9_read_136 hd    hf
      · have hf := pv_gp hf q26
        refine EV.iload dX9_read_129 rfl ?_
        refine EV.goto (tgt := 136) dX9_read_131 (by decide) ?_
        refine EV.weak (L2 := [none, none, none, none, none, none, none, none, none, none]) trivial ?_
        exact tX9_read_136 hd    hf
    · have hf := pv_gn hf q25
      refine EV.aload_n dX9_read_84 rfl rfl ?_
      refine EV.iload_n dX9_read_85 rfl rfl ?_
      refine EV.iload dX9_read_86 rfl ?_
      refine EV.iload_n dX9_read_88 rfl rfl ?_
      refine EV.iload_n dX9_read_89 rfl rfl ?_
      refine EV.iconst dX9_read_90 (by decide) (by decide) ?_
      obtain ⟨h28, r29, hc27, hf⟩ := pv_c2o hf
      refine EV.invV (As := [.inl (a1), .inl (v8), .inl (a2), .inl (a3), .inl (-1)]) (st := []) (d1 := d - 1) (sh1 := pv_SC) (h1 := MC h28) (r1 := (some (.inl r29))) dX9_read_91 sc_0 (by decide) md_X9_runsLike ml_X9_290 im_X9_runsLike se_X9_runsLike (tX9_runsLike (by omega)  hc27) (by omega) rfl rfl (Nat.le_of_ble_eq_true rfl) ⟨[], (List.append_nil _).symm⟩ ?_
      refine EV.eqS (st2 := [.inl (r29)]) rfl ?_
      refine FV.stiw (L2 := [some (.inr (.inr (0))), some (.inl (a1)), some (.inl (a2)), some (.inl (a3)), some (.inl (a4)), some (.inl (v5)), some (.inl (v6)), some (.inl (v7)), some (.inl (v8)), some (.inl (r29))]) dX9_read_94 (Nat.le_of_ble_eq_true rfl) rfl rfl ?_
      refine EV.iload dX9_read_96 rfl ?_
      refine EV.iload dX9_read_98 rfl ?_
      refine EV.iadd dX9_read_100 ?_
      obtain ⟨x30, ex30, hf⟩ := pv_bo hf
      refine FV.stiw (L2 := [some (.inr (.inr (0))), some (.inl (a1)), some (.inl (a2)), some (.inl (a3)), some (.inl (a4)), some (.inl (x30)), some (.inl (v6)), some (.inl (v7)), some (.inl (v8)), some (.inl (r29))]) dX9_read_101 (Nat.le_of_ble_eq_true rfl) ex30 rfl ?_
      refine EV.iload dX9_read_103 rfl ?_
      refine EV.iload dX9_read_105 rfl ?_
      refine EV.icmp_le (tgt := 118) dX9_read_107 (by decide) (fun q31 => ?_) (fun q31 => ?_)
      · have hf := pv_gp hf q31
        refine EV.weak (L2 := [some (.inr (.inr (0))), some (.inl (a1)), some (.inl (a2)), some (.inl (a3)), some (.inl (a4)), some (.inl (x30)), some (.inl (v6)), some (.inl (v7)), some (.inl (v8)), none]) (And.intro rfl (And.intro rfl (And.intro rfl (And.intro rfl (And.intro rfl (And.intro rfl (And.intro rfl (And.intro rfl (And.intro rfl trivial))))))))) ?_
        exact tX9_read_118 hd (ih)   hf
      · have hf := pv_gn hf q31
        refine EV.iload dX9_read_110 rfl ?_
        refine FV.stiw (L2 := [some (.inr (.inr (0))), some (.inl (a1)), some (.inl (a2)), some (.inl (a3)), some (.inl (a4)), some (.inl (x30)), some (.inl (r29)), some (.inl (v7)), some (.inl (v8)), some (.inl (r29))]) dX9_read_112 (Nat.le_of_ble_eq_true rfl) rfl rfl ?_
        refine EV.iload dX9_read_114 rfl ?_
        refine FV.stiw (L2 := [some (.inr (.inr (0))), some (.inl (a1)), some (.inl (a2)), some (.inl (a3)), some (.inl (a4)), some (.inl (x30)), some (.inl (r29)), some (.inl (v8)), some (.inl (v8)), some (.inl (r29))]) dX9_read_116 (Nat.le_of_ble_eq_true rfl) rfl rfl ?_
        refine EV.weak (L2 := [some (.inr (.inr (0))), some (.inl (a1)), some (.inl (a2)), some (.inl (a3)), some (.inl (a4)), some (.inl (x30)), some (.inl (r29)), some (.inl (v8)), some (.inl (v8)), none]) (And.intro rfl (And.intro rfl (And.intro rfl (And.intro rfl (And.intro rfl (And.intro rfl (And.intro rfl (And.intro rfl (And.intro rfl trivial))))))))) ?_
        exact tX9_read_118 hd (ih)   hf

set_option maxHeartbeats 4000000 in
set_option maxRecDepth 20000 in
theorem tX9_read {d N : Nat} {a1 : Int} {a2 : Int} {a3 : Int} {a4 : Int} {h h' : pv_H} {r : Int} (hd : 8 ≤ d)  (hf : fX9_read N a1 a2 a3 a4 h = some (h', r)) : CALL yX9_read cX9_read 10 (some .int) d pv_SC (MC h) [.inr (.inr (0)), .inl (a1), .inl (a2), .inl (a3), .inl (a4)] pv_SC (MC h') (some (.inl r)) := by
  unfold fX9_read at hf
  refine EV.call (own := RX9) (ini := false) rfl rfl (fun q => by cases q) ⟨[], (List.append_nil _).symm⟩ (Nat.le_of_ble_eq_true rfl) ?_
  refine EV.eqL (L2 := [some (.inr (.inr (0))), some (.inl (a1)), some (.inl (a2)), some (.inl (a3)), some (.inl (a4)), none, none, none, none, none]) rfl ?_
  refine EV.aload_n dX9_read_0 rfl rfl ?_
  refine EV.iload_n dX9_read_1 rfl rfl ?_
  obtain ⟨r2, hc1, hf⟩ := pv_c1o hf
  refine EV.invV (As := [.inl (a1)]) (st := []) (d1 := d - 1) (sh1 := pv_SC) (h1 := MC h) (r1 := (some (.inl r2))) dX9_read_2 sc_0 (by decide) md_X9_hasRod ml_X9_140 im_X9_hasRod se_X9_hasRod (tX9_hasRod (by omega)  hc1) (by omega) rfl rfl (Nat.le_of_ble_eq_true rfl) ⟨[], (List.append_nil _).symm⟩ ?_
  refine EV.eqS (st2 := [.inl (r2)]) rfl ?_
  refine EV.if_eq (tgt := 26) dX9_read_5 (by decide) (fun q3 => ?_) (fun q3 => ?_)
  · have hf := pv_gp hf q3
    refine EV.weak (L2 := [some (.inr (.inr (0))), none, none, none, none, none, none, none, none, none]) (And.intro rfl trivial) ?_
    exact tX9_read_26 hd    hf
  · have hf := pv_gn hf q3
    refine EV.iload_n dX9_read_8 rfl rfl ?_
    obtain ⟨r5, hc4, hf⟩ := pv_c1o hf
    refine EV.invS (As := [.inl (a2)]) (st := []) (d1 := d - 1) (sh1 := pv_SC) (h1 := MC h) (r1 := (some (.inl r5))) dX9_read_9 md_X9_isRow ml_X9_220 st_X9_isRow (tX9_isRow (by omega)  hc4) (by omega) rfl rfl (Nat.le_of_ble_eq_true rfl) ⟨[], (List.append_nil _).symm⟩ ?_
    refine EV.eqS (st2 := [.inl (r5)]) rfl ?_
    refine EV.if_eq (tgt := 26) dX9_read_12 (by decide) (fun q6 => ?_) (fun q6 => ?_)
    · have hf := pv_gp hf q6
      refine EV.weak (L2 := [some (.inr (.inr (0))), none, none, none, none, none, none, none, none, none]) (And.intro rfl trivial) ?_
      exact tX9_read_26 hd    hf
    · have hf := pv_gn hf q6
      refine EV.iload dX9_read_15 rfl ?_
      refine EV.if_lt (tgt := 26) dX9_read_17 (by decide) (fun q7 => ?_) (fun q7 => ?_)
      · have hf := pv_gp hf q7
        refine EV.weak (L2 := [some (.inr (.inr (0))), none, none, none, none, none, none, none, none, none]) (And.intro rfl trivial) ?_
        exact tX9_read_26 hd    hf
      · have hf := pv_gn hf q7
        refine EV.iload dX9_read_20 rfl ?_
        refine EV.iconst dX9_read_22 (by decide) (by decide) ?_
        refine EV.icmp_le (tgt := 33) dX9_read_23 (by decide) (fun q8 => ?_) (fun q8 => ?_)
        · have hf := pv_gp hf q8
          refine EV.iload_n dX9_read_33 rfl rfl ?_
          obtain ⟨r10, hc9, hf⟩ := pv_c1o hf
          refine EV.invS (As := [.inl (a3)]) (st := []) (d1 := d - 1) (sh1 := pv_SC) (h1 := MC h) (r1 := (some (.inl r10))) dX9_read_34 md_X9_areSeeds ml_X9_251 st_X9_areSeeds (tX9_areSeeds (by omega)  hc9) (by omega) rfl rfl (Nat.le_of_ble_eq_true rfl) ⟨[], (List.append_nil _).symm⟩ ?_
          refine EV.eqS (st2 := [.inl (r10)]) rfl ?_
          refine EV.if_ne (tgt := 47) dX9_read_37 (by decide) (fun q11 => ?_) (fun q11 => ?_)
          · have hf := pv_gn hf q11
            refine EV.aload_n dX9_read_47 rfl rfl ?_
            refine FV.getF (v := 76) dX9_read_48 sc_0 fl_9_29 rfl rfl hvc_0_3 ?_
            refine EV.iload_n dX9_read_51 rfl rfl ?_
            obtain ⟨g12, hf⟩ := pv_gd hf
            obtain ⟨x13, ex13, hf⟩ := pv_bo hf
            have mx13 : x13 ∈ pv_l6 := ex13 ▸ mq_76 _ (by omega)
            refine FV.aald (a := 3) (v := x13) dX9_read_52 sc_76 (by decide) g12.1 g12.2 (j := (Int.toNat (a2))) rfl rfl (by rw [hq_76 _ (by omega), ex13]) ?_
            refine FV.getI dX9_read_53 (sl6_0 _ mx13) fl_9_223 rfl ?_
            refine EV.if_ne (tgt := 66) dX9_read_56 (by decide) (fun q14 => ?_) (fun q14 => ?_)
            · have hf := pv_gn hf q14
              refine EV.iconst dX9_read_66 (by decide) (by decide) ?_
              refine FV.stiw (L2 := [some (.inr (.inr (0))), some (.inl (a1)), some (.inl (a2)), some (.inl (a3)), some (.inl (a4)), some (.inl (0)), none, none, none, none]) dX9_read_67 (Nat.le_of_ble_eq_true rfl) rfl rfl ?_
              refine EV.iconst dX9_read_69 (by decide) (by decide) ?_
              refine FV.stiw (L2 := [some (.inr (.inr (0))), some (.inl (a1)), some (.inl (a2)), some (.inl (a3)), some (.inl (a4)), some (.inl (0)), some (.inl (0)), none, none, none]) dX9_read_70 (Nat.le_of_ble_eq_true rfl) rfl rfl ?_
              refine EV.iconst dX9_read_72 (by decide) (by decide) ?_
              obtain ⟨x15, ex15, hf⟩ := pv_bo hf
              refine FV.stiw (L2 := [some (.inr (.inr (0))), some (.inl (a1)), some (.inl (a2)), some (.inl (a3)), some (.inl (a4)), some (.inl (0)), some (.inl (0)), some (.inl (x15)), none, none]) dX9_read_73 (Nat.le_of_ble_eq_true rfl) ex15 rfl ?_
              refine EV.iconst dX9_read_75 (by decide) (by decide) ?_
              refine FV.stiw (L2 := [some (.inr (.inr (0))), some (.inl (a1)), some (.inl (a2)), some (.inl (a3)), some (.inl (a4)), some (.inl (0)), some (.inl (0)), some (.inl (x15)), some (.inl (0)), none]) dX9_read_76 (Nat.le_of_ble_eq_true rfl) rfl rfl ?_
              refine EV.weak (L2 := [some (.inr (.inr (0))), some (.inl (a1)), some (.inl (a2)), some (.inl (a3)), some (.inl (a4)), some (.inl (0)), some (.inl (0)), some (.inl (x15)), some (.inl (0)), none]) (And.intro rfl (And.intro rfl (And.intro rfl (And.intro rfl (And.intro rfl (And.intro rfl (And.intro rfl (And.intro rfl (And.intro rfl trivial))))))))) ?_
              exact tX9_read_78 hd   _ _ _ _ _  _ hf
            · have hf := pv_gp hf q14
              refine EV.aload_n dX9_read_59 rfl rfl ?_
              refine EV.bipush dX9_read_60 (by decide) (by decide) ?_
              obtain ⟨h17, r18, hc16, hf⟩ := pv_c2o hf
              refine EV.invV (As := [.inl (-6)]) (st := []) (d1 := d - 1) (sh1 := pv_SC) (h1 := MC h17) (r1 := (some (.inl r18))) dX9_read_62 sc_0 (by decide) md_X9_refuse ml_X9_59 im_X9_refuse se_X9_refuse (tX9_refuse (by omega)  hc16) (by omega) rfl rfl (Nat.le_of_ble_eq_true rfl) ⟨[], (List.append_nil _).symm⟩ ?_
              refine EV.eqS (st2 := [.inl (r18)]) rfl ?_
              exact FV.iret dX9_read_65 hf
          · have hf := pv_gp hf q11
            refine EV.aload_n dX9_read_40 rfl rfl ?_
            refine EV.bipush dX9_read_41 (by decide) (by decide) ?_
            obtain ⟨h20, r21, hc19, hf⟩ := pv_c2o hf
            refine EV.invV (As := [.inl (-3)]) (st := []) (d1 := d - 1) (sh1 := pv_SC) (h1 := MC h20) (r1 := (some (.inl r21))) dX9_read_43 sc_0 (by decide) md_X9_refuse ml_X9_59 im_X9_refuse se_X9_refuse (tX9_refuse (by omega)  hc19) (by omega) rfl rfl (Nat.le_of_ble_eq_true rfl) ⟨[], (List.append_nil _).symm⟩ ?_
            refine EV.eqS (st2 := [.inl (r21)]) rfl ?_
            exact FV.iret dX9_read_46 hf
        · have hf := pv_gn hf q8
          refine EV.weak (L2 := [some (.inr (.inr (0))), none, none, none, none, none, none, none, none, none]) (And.intro rfl trivial) ?_
          exact tX9_read_26 hd    hf

noncomputable def fX9_was_17 (N : Nat)  (a1 : Int) (a2 : Int) (a3 : Int) (a4 : Int)  (h : pv_H) : Option (pv_H × Int) :=
  pv_c2b (fX9_refuse N (-2) h) fun h20 r21 => some (h20, r21)

noncomputable def fX9_was_63 (N : Nat)  (a1 : Int) (a2 : Int) (a3 : Int) (a4 : Int) : Nat → Int → Int → pv_H → Option (pv_H × Int)
  | 0, _, _, _ => none
  | n + 1, v5, v6, h => if 4 ≤ v6 then (some (h, v5)) else (pv_c2b (fX9_runsLike N a1 v6 a2 a3 a4 h) fun h24 r25 => pv_b (pv_w (v5 + r25)) fun x26 => pv_b (pv_w (v6 + 1)) fun x27 => fX9_was_63 N  a1 a2 a3 a4 n (x26) (x27) h24)

noncomputable def fX9_was (N : Nat) (a1 : Int) (a2 : Int) (a3 : Int) (a4 : Int) (h : pv_H) : Option (pv_H × Int) :=
  pv_c1 (fX9_hasCell N a1 a4 h) fun r2 => if r2 = 0 then (fX9_was_17 N  a1 a2 a3 a4  h) else (pv_c1 (fX9_isRow N a2 h) fun r5 => if r5 = 0 then (fX9_was_17 N  a1 a2 a3 a4  h) else (pv_c1 (fX9_areSeeds N a3 h) fun r8 => if r8 = 0 then (pv_c2b (fX9_refuse N (-3) h) fun h17 r18 => some (h17, r18)) else (if 0 ≤ a2 ∧ a2 < 4 then (pv_b (216 + 2 * (Int.toNat (a2))) fun x11 => if (h x11 0) = 0 then (pv_c2b (fX9_refuse N (-6) h) fun h14 r15 => some (h14, r15)) else (fX9_was_63 N  a1 a2 a3 a4 N (0) (0) h)) else none)))

set_option maxHeartbeats 4000000 in
set_option maxRecDepth 20000 in
theorem tX9_was_17 {d N : Nat}  {a1 : Int} {a2 : Int} {a3 : Int} {a4 : Int}  {h h' : pv_H} {r : Int} (hd : 8 ≤ d)    (hf : fX9_was_17 N  a1 a2 a3 a4  h = some (h', r)) : EV RX9 cX9_was 7 (some .int) false d pv_SC (MC h') (some (.inl r)) 17 [some (.inr (.inr (0))), none, none, none, none, none, none] [] pv_SC (MC h) := by
  unfold fX9_was_17 at hf
  refine EV.aload_n dX9_was_17 rfl rfl ?_
  refine EV.bipush dX9_was_18 (by decide) (by decide) ?_
  obtain ⟨h20, r21, hc19, hf⟩ := pv_c2o hf
  refine EV.invV (As := [.inl (-2)]) (st := []) (d1 := d - 1) (sh1 := pv_SC) (h1 := MC h20) (r1 := (some (.inl r21))) dX9_was_20 sc_0 (by decide) md_X9_refuse ml_X9_59 im_X9_refuse se_X9_refuse (tX9_refuse (by omega)  hc19) (by omega) rfl rfl (Nat.le_of_ble_eq_true rfl) ⟨[], (List.append_nil _).symm⟩ ?_
  refine EV.eqS (st2 := [.inl (r21)]) rfl ?_
  exact FV.iret dX9_was_23 hf

set_option maxHeartbeats 4000000 in
set_option maxRecDepth 20000 in
theorem tX9_was_63 {d N : Nat}  {a1 : Int} {a2 : Int} {a3 : Int} {a4 : Int} {h' : pv_H} {r : Int} (hd : 8 ≤ d)   : ∀ (n : Nat) (v5 : Int) (v6 : Int)  (h : pv_H), fX9_was_63 N  a1 a2 a3 a4 n v5 v6 h = some (h', r) → EV RX9 cX9_was 7 (some .int) false d pv_SC (MC h') (some (.inl r)) 63 [some (.inr (.inr (0))), some (.inl (a1)), some (.inl (a2)), some (.inl (a3)), some (.inl (a4)), some (.inl (v5)), some (.inl (v6))] [] pv_SC (MC h) := by
  intro n
  induction n with
  | zero =>
    intro v5 v6  h hf
    cases hf
  | succ n ih =>
    intro v5 v6  h hf
    rw [fX9_was_63] at hf
    refine EV.iload dX9_was_63 rfl ?_
    refine EV.iconst dX9_was_65 (by decide) (by decide) ?_
    refine EV.icmp_ge (tgt := 91) dX9_was_66 (by decide) (fun q22 => ?_) (fun q22 => ?_)
    · have hf := pv_gp hf q22
      refine EV.iload dX9_was_91 rfl ?_
      exact FV.iret dX9_was_93 hf
    · have hf := pv_gn hf q22
      refine EV.iload dX9_was_69 rfl ?_
      refine EV.aload_n dX9_was_71 rfl rfl ?_
      refine EV.iload_n dX9_was_72 rfl rfl ?_
      refine EV.iload dX9_was_73 rfl ?_
      refine EV.iload_n dX9_was_75 rfl rfl ?_
      refine EV.iload_n dX9_was_76 rfl rfl ?_
      refine EV.iload dX9_was_77 rfl ?_
      obtain ⟨h24, r25, hc23, hf⟩ := pv_c2o hf
      refine EV.invV (As := [.inl (a1), .inl (v6), .inl (a2), .inl (a3), .inl (a4)]) (st := [.inl (v5)]) (d1 := d - 1) (sh1 := pv_SC) (h1 := MC h24) (r1 := (some (.inl r25))) dX9_was_79 sc_0 (by decide) md_X9_runsLike ml_X9_290 im_X9_runsLike se_X9_runsLike (tX9_runsLike (by omega)  hc23) (by omega) rfl rfl (Nat.le_of_ble_eq_true rfl) ⟨[], (List.append_nil _).symm⟩ ?_
      refine EV.eqS (st2 := [.inl (r25), .inl (v5)]) rfl ?_
      refine EV.iadd dX9_was_82 ?_
      obtain ⟨x26, ex26, hf⟩ := pv_bo hf
      refine FV.stiw (L2 := [some (.inr (.inr (0))), some (.inl (a1)), some (.inl (a2)), some (.inl (a3)), some (.inl (a4)), some (.inl (x26)), some (.inl (v6))]) dX9_was_83 (Nat.le_of_ble_eq_true rfl) ex26 rfl ?_
      obtain ⟨x27, ex27, hf⟩ := pv_bo hf
      refine FV.inc (L2 := [some (.inr (.inr (0))), some (.inl (a1)), some (.inl (a2)), some (.inl (a3)), some (.inl (a4)), some (.inl (x26)), some (.inl (x27))]) dX9_was_85 rfl (Nat.le_of_ble_eq_true rfl) ex27 rfl ?_
      refine EV.goto (tgt := 63) dX9_was_88 (by decide) ?_
      refine EV.weak (L2 := [some (.inr (.inr (0))), some (.inl (a1)), some (.inl (a2)), some (.inl (a3)), some (.inl (a4)), some (.inl (x26)), some (.inl (x27))]) (And.intro rfl (And.intro rfl (And.intro rfl (And.intro rfl (And.intro rfl (And.intro rfl (And.intro rfl trivial))))))) ?_
      exact ih _ _  _ hf

set_option maxHeartbeats 4000000 in
set_option maxRecDepth 20000 in
theorem tX9_was {d N : Nat} {a1 : Int} {a2 : Int} {a3 : Int} {a4 : Int} {h h' : pv_H} {r : Int} (hd : 8 ≤ d)  (hf : fX9_was N a1 a2 a3 a4 h = some (h', r)) : CALL yX9_was cX9_was 7 (some .int) d pv_SC (MC h) [.inr (.inr (0)), .inl (a1), .inl (a2), .inl (a3), .inl (a4)] pv_SC (MC h') (some (.inl r)) := by
  unfold fX9_was at hf
  refine EV.call (own := RX9) (ini := false) rfl rfl (fun q => by cases q) ⟨[], (List.append_nil _).symm⟩ (Nat.le_of_ble_eq_true rfl) ?_
  refine EV.eqL (L2 := [some (.inr (.inr (0))), some (.inl (a1)), some (.inl (a2)), some (.inl (a3)), some (.inl (a4)), none, none]) rfl ?_
  refine EV.aload_n dX9_was_0 rfl rfl ?_
  refine EV.iload_n dX9_was_1 rfl rfl ?_
  refine EV.iload dX9_was_2 rfl ?_
  obtain ⟨r2, hc1, hf⟩ := pv_c1o hf
  refine EV.invV (As := [.inl (a1), .inl (a4)]) (st := []) (d1 := d - 1) (sh1 := pv_SC) (h1 := MC h) (r1 := (some (.inl r2))) dX9_was_4 sc_0 (by decide) md_X9_hasCell ml_X9_150 im_X9_hasCell se_X9_hasCell (tX9_hasCell (by omega)  hc1) (by omega) rfl rfl (Nat.le_of_ble_eq_true rfl) ⟨[], (List.append_nil _).symm⟩ ?_
  refine EV.eqS (st2 := [.inl (r2)]) rfl ?_
  refine EV.if_eq (tgt := 17) dX9_was_7 (by decide) (fun q3 => ?_) (fun q3 => ?_)
  · have hf := pv_gp hf q3
    refine EV.weak (L2 := [some (.inr (.inr (0))), none, none, none, none, none, none]) (And.intro rfl trivial) ?_
    exact tX9_was_17 hd    hf
  · have hf := pv_gn hf q3
    refine EV.iload_n dX9_was_10 rfl rfl ?_
    obtain ⟨r5, hc4, hf⟩ := pv_c1o hf
    refine EV.invS (As := [.inl (a2)]) (st := []) (d1 := d - 1) (sh1 := pv_SC) (h1 := MC h) (r1 := (some (.inl r5))) dX9_was_11 md_X9_isRow ml_X9_220 st_X9_isRow (tX9_isRow (by omega)  hc4) (by omega) rfl rfl (Nat.le_of_ble_eq_true rfl) ⟨[], (List.append_nil _).symm⟩ ?_
    refine EV.eqS (st2 := [.inl (r5)]) rfl ?_
    refine EV.if_ne (tgt := 24) dX9_was_14 (by decide) (fun q6 => ?_) (fun q6 => ?_)
    · have hf := pv_gn hf q6
      refine EV.iload_n dX9_was_24 rfl rfl ?_
      obtain ⟨r8, hc7, hf⟩ := pv_c1o hf
      refine EV.invS (As := [.inl (a3)]) (st := []) (d1 := d - 1) (sh1 := pv_SC) (h1 := MC h) (r1 := (some (.inl r8))) dX9_was_25 md_X9_areSeeds ml_X9_251 st_X9_areSeeds (tX9_areSeeds (by omega)  hc7) (by omega) rfl rfl (Nat.le_of_ble_eq_true rfl) ⟨[], (List.append_nil _).symm⟩ ?_
      refine EV.eqS (st2 := [.inl (r8)]) rfl ?_
      refine EV.if_ne (tgt := 38) dX9_was_28 (by decide) (fun q9 => ?_) (fun q9 => ?_)
      · have hf := pv_gn hf q9
        refine EV.aload_n dX9_was_38 rfl rfl ?_
        refine FV.getF (v := 76) dX9_was_39 sc_0 fl_9_29 rfl rfl hvc_0_3 ?_
        refine EV.iload_n dX9_was_42 rfl rfl ?_
        obtain ⟨g10, hf⟩ := pv_gd hf
        obtain ⟨x11, ex11, hf⟩ := pv_bo hf
        have mx11 : x11 ∈ pv_l6 := ex11 ▸ mq_76 _ (by omega)
        refine FV.aald (a := 3) (v := x11) dX9_was_43 sc_76 (by decide) g10.1 g10.2 (j := (Int.toNat (a2))) rfl rfl (by rw [hq_76 _ (by omega), ex11]) ?_
        refine FV.getI dX9_was_44 (sl6_0 _ mx11) fl_9_223 rfl ?_
        refine EV.if_ne (tgt := 57) dX9_was_47 (by decide) (fun q12 => ?_) (fun q12 => ?_)
        · have hf := pv_gn hf q12
          refine EV.iconst dX9_was_57 (by decide) (by decide) ?_
          refine FV.stiw (L2 := [some (.inr (.inr (0))), some (.inl (a1)), some (.inl (a2)), some (.inl (a3)), some (.inl (a4)), some (.inl (0)), none]) dX9_was_58 (Nat.le_of_ble_eq_true rfl) rfl rfl ?_
          refine EV.iconst dX9_was_60 (by decide) (by decide) ?_
          refine FV.stiw (L2 := [some (.inr (.inr (0))), some (.inl (a1)), some (.inl (a2)), some (.inl (a3)), some (.inl (a4)), some (.inl (0)), some (.inl (0))]) dX9_was_61 (Nat.le_of_ble_eq_true rfl) rfl rfl ?_
          refine EV.weak (L2 := [some (.inr (.inr (0))), some (.inl (a1)), some (.inl (a2)), some (.inl (a3)), some (.inl (a4)), some (.inl (0)), some (.inl (0))]) (And.intro rfl (And.intro rfl (And.intro rfl (And.intro rfl (And.intro rfl (And.intro rfl (And.intro rfl trivial))))))) ?_
          exact tX9_was_63 hd   _ _ _  _ hf
        · have hf := pv_gp hf q12
          refine EV.aload_n dX9_was_50 rfl rfl ?_
          refine EV.bipush dX9_was_51 (by decide) (by decide) ?_
          obtain ⟨h14, r15, hc13, hf⟩ := pv_c2o hf
          refine EV.invV (As := [.inl (-6)]) (st := []) (d1 := d - 1) (sh1 := pv_SC) (h1 := MC h14) (r1 := (some (.inl r15))) dX9_was_53 sc_0 (by decide) md_X9_refuse ml_X9_59 im_X9_refuse se_X9_refuse (tX9_refuse (by omega)  hc13) (by omega) rfl rfl (Nat.le_of_ble_eq_true rfl) ⟨[], (List.append_nil _).symm⟩ ?_
          refine EV.eqS (st2 := [.inl (r15)]) rfl ?_
          exact FV.iret dX9_was_56 hf
      · have hf := pv_gp hf q9
        refine EV.aload_n dX9_was_31 rfl rfl ?_
        refine EV.bipush dX9_was_32 (by decide) (by decide) ?_
        obtain ⟨h17, r18, hc16, hf⟩ := pv_c2o hf
        refine EV.invV (As := [.inl (-3)]) (st := []) (d1 := d - 1) (sh1 := pv_SC) (h1 := MC h17) (r1 := (some (.inl r18))) dX9_was_34 sc_0 (by decide) md_X9_refuse ml_X9_59 im_X9_refuse se_X9_refuse (tX9_refuse (by omega)  hc16) (by omega) rfl rfl (Nat.le_of_ble_eq_true rfl) ⟨[], (List.append_nil _).symm⟩ ?_
        refine EV.eqS (st2 := [.inl (r18)]) rfl ?_
        exact FV.iret dX9_was_37 hf
    · have hf := pv_gp hf q6
      refine EV.weak (L2 := [some (.inr (.inr (0))), none, none, none, none, none, none]) (And.intro rfl trivial) ?_
      exact tX9_was_17 hd    hf

noncomputable def fX9_found_44 (N : Nat)  (a1 : Int) (a2 : Int) (a3 : Int) (a4 : Int) (a5 : Int)  (h : pv_H) : Option (pv_H × Int) :=
  pv_c2b (fX9_refuse N (-2) h) fun h19 r20 => some (h19, r20)

noncomputable def fX9_found_163 (N : Nat)  (a1 : Int) (a2 : Int) (a3 : Int) (a4 : Int) (a5 : Int) (s0 : Int) (h : pv_H) : Option (pv_H × Int) :=
  some (h, s0)

noncomputable def fX9_found_145 (N : Nat) (k76 : Int → Int → Int → pv_H → Option (pv_H × Int)) (a1 : Int) (a2 : Int) (a3 : Int) (a4 : Int) (a5 : Int) (v6 : Int) (v7 : Int) (v8 : Int) (h : pv_H) : Option (pv_H × Int) :=
  pv_b (pv_w (v8 + (-1))) fun x35 => k76 (v6) (v7) (x35) h

noncomputable def fX9_found_76 (N : Nat)  (a1 : Int) (a2 : Int) (a3 : Int) (a4 : Int) (a5 : Int) : Nat → Int → Int → Int → pv_H → Option (pv_H × Int)
  | 0, _, _, _, _ => none
  | n + 1, v6, v7, v8, h => if v8 < 1 then (if a5 = 0 then (fX9_found_163 N  a1 a2 a3 a4 a5 (v6) h) else (fX9_found_163 N  a1 a2 a3 a4 a5 (v7) h)) else (if 0 ≤ a2 ∧ a2 < 4 then (pv_b (35 + 6 * (Int.toNat (a2))) fun x24 => if 0 ≤ a3 ∧ a3 < 4 then (pv_b (59 + 4 * (Int.toNat (a3))) fun x26 => pv_c2b (fX1_breakRod N x24 x26 23 v8 h) fun h28 r29 => pv_c2b (fX3_isSo N 25 a1 79 h28) fun h31 r32 => if r32 = 0 then (fX9_found_145 N (fun v6_ v7_ v8_ hh => fX9_found_76 N  a1 a2 a3 a4 a5 n v6_ v7_ v8_ hh) a1 a2 a3 a4 a5 (v6) (v7) (v8) h31) else (pv_b (pv_w (v6 + 1)) fun x34 => fX9_found_145 N (fun v6_ v7_ v8_ hh => fX9_found_76 N  a1 a2 a3 a4 a5 n v6_ v7_ v8_ hh) a1 a2 a3 a4 a5 (x34) (v8) (v8) h31)) else none) else none)

noncomputable def fX9_found (N : Nat) (a1 : Int) (a2 : Int) (a3 : Int) (a4 : Int) (a5 : Int) (h : pv_H) : Option (pv_H × Int) :=
  if a1 < 0 then (fX9_found_44 N  a1 a2 a3 a4 a5  h) else (if (h 25 0) ≤ a1 then (fX9_found_44 N  a1 a2 a3 a4 a5  h) else (pv_c1 (fX9_hasRod N a2 h) fun r4 => if r4 = 0 then (fX9_found_44 N  a1 a2 a3 a4 a5  h) else (pv_c1 (fX9_hasDoings N a3 h) fun r7 => if r7 = 0 then (fX9_found_44 N  a1 a2 a3 a4 a5  h) else (if a5 < 0 then (fX9_found_44 N  a1 a2 a3 a4 a5  h) else (if a5 ≤ 1 then (pv_c1 (fX9_areSeeds N a4 h) fun r12 => if r12 = 0 then (pv_c2b (fX9_refuse N (-3) h) fun h16 r17 => some (h16, r17)) else (pv_b (-1) fun x14 => fX9_found_76 N  a1 a2 a3 a4 a5 N (0) (x14) (a4) h)) else (fX9_found_44 N  a1 a2 a3 a4 a5  h))))))

set_option maxHeartbeats 4000000 in
set_option maxRecDepth 20000 in
theorem tX9_found_44 {d N : Nat}  {a1 : Int} {a2 : Int} {a3 : Int} {a4 : Int} {a5 : Int}  {h h' : pv_H} {r : Int} (hd : 7 ≤ d)    (hf : fX9_found_44 N  a1 a2 a3 a4 a5  h = some (h', r)) : EV RX9 cX9_found 9 (some .int) false d pv_SC (MC h') (some (.inl r)) 44 [some (.inr (.inr (0))), none, none, none, none, none, none, none, none] [] pv_SC (MC h) := by
  unfold fX9_found_44 at hf
  refine EV.aload_n dX9_found_44 rfl rfl ?_
  refine EV.bipush dX9_found_45 (by decide) (by decide) ?_
  obtain ⟨h19, r20, hc18, hf⟩ := pv_c2o hf
  refine EV.invV (As := [.inl (-2)]) (st := []) (d1 := d - 1) (sh1 := pv_SC) (h1 := MC h19) (r1 := (some (.inl r20))) dX9_found_47 sc_0 (by decide) md_X9_refuse ml_X9_59 im_X9_refuse se_X9_refuse (tX9_refuse (by omega)  hc18) (by omega) rfl rfl (Nat.le_of_ble_eq_true rfl) ⟨[], (List.append_nil _).symm⟩ ?_
  refine EV.eqS (st2 := [.inl (r20)]) rfl ?_
  exact FV.iret dX9_found_50 hf

set_option maxHeartbeats 4000000 in
set_option maxRecDepth 20000 in
theorem tX9_found_163 {d N : Nat}  {a1 : Int} {a2 : Int} {a3 : Int} {a4 : Int} {a5 : Int} {s0 : Int} {h h' : pv_H} {r : Int} (hd : 7 ≤ d)    (hf : fX9_found_163 N  a1 a2 a3 a4 a5 s0 h = some (h', r)) : EV RX9 cX9_found 9 (some .int) false d pv_SC (MC h') (some (.inl r)) 163 [none, none, none, none, none, none, none, none, none] [.inl (s0)] pv_SC (MC h) := by
  unfold fX9_found_163 at hf
  exact FV.iret dX9_found_163 hf

set_option maxHeartbeats 4000000 in
set_option maxRecDepth 20000 in
theorem tX9_found_145 {d N : Nat} {k76 : Int → Int → Int → pv_H → Option (pv_H × Int)} {a1 : Int} {a2 : Int} {a3 : Int} {a4 : Int} {a5 : Int} {v6 : Int} {v7 : Int} {v8 : Int} {h h' : pv_H} {r : Int} (hd : 7 ≤ d) (hk76 : ∀ (v6 : Int) (v7 : Int) (v8 : Int)  (hh : pv_H), k76 v6 v7 v8 hh = some (h', r) → EV RX9 cX9_found 9 (some .int) false d pv_SC (MC h') (some (.inl r)) 76 [some (.inr (.inr (0))), some (.inl (a1)), some (.inl (a2)), some (.inl (a3)), none, some (.inl (a5)), some (.inl (v6)), some (.inl (v7)), some (.inl (v8))] [] pv_SC (MC hh))   (hf : fX9_found_145 N k76 a1 a2 a3 a4 a5 v6 v7 v8 h = some (h', r)) : EV RX9 cX9_found 9 (some .int) false d pv_SC (MC h') (some (.inl r)) 145 [some (.inr (.inr (0))), some (.inl (a1)), some (.inl (a2)), some (.inl (a3)), none, some (.inl (a5)), some (.inl (v6)), some (.inl (v7)), some (.inl (v8))] [] pv_SC (MC h) := by
  unfold fX9_found_145 at hf
  obtain ⟨x35, ex35, hf⟩ := pv_bo hf
  refine FV.inc (L2 := [some (.inr (.inr (0))), some (.inl (a1)), some (.inl (a2)), some (.inl (a3)), none, some (.inl (a5)), some (.inl (v6)), some (.inl (v7)), some (.inl (x35))]) dX9_found_145 rfl (Nat.le_of_ble_eq_true rfl) ex35 rfl ?_
  refine EV.goto (tgt := 76) dX9_found_148 (by decide) ?_
  refine EV.weak (L2 := [some (.inr (.inr (0))), some (.inl (a1)), some (.inl (a2)), some (.inl (a3)), none, some (.inl (a5)), some (.inl (v6)), some (.inl (v7)), some (.inl (x35))]) (And.intro rfl (And.intro rfl (And.intro rfl (And.intro rfl (And.intro rfl (And.intro rfl (And.intro rfl (And.intro rfl trivial)))))))) ?_
  exact hk76 _ _ _  _ hf

set_option maxHeartbeats 4000000 in
set_option maxRecDepth 20000 in
theorem tX9_found_76 {d N : Nat}  {a1 : Int} {a2 : Int} {a3 : Int} {a4 : Int} {a5 : Int} {h' : pv_H} {r : Int} (hd : 7 ≤ d)   : ∀ (n : Nat) (v6 : Int) (v7 : Int) (v8 : Int)  (h : pv_H), fX9_found_76 N  a1 a2 a3 a4 a5 n v6 v7 v8 h = some (h', r) → EV RX9 cX9_found 9 (some .int) false d pv_SC (MC h') (some (.inl r)) 76 [some (.inr (.inr (0))), some (.inl (a1)), some (.inl (a2)), some (.inl (a3)), none, some (.inl (a5)), some (.inl (v6)), some (.inl (v7)), some (.inl (v8))] [] pv_SC (MC h) := by
  intro n
  induction n with
  | zero =>
    intro v6 v7 v8  h hf
    cases hf
  | succ n ih =>
    intro v6 v7 v8  h hf
    rw [fX9_found_76] at hf
    refine EV.iload dX9_found_76 rfl ?_
    refine EV.iconst dX9_found_78 (by decide) (by decide) ?_
    refine EV.icmp_lt (tgt := 151) dX9_found_79 (by decide) (fun q21 => ?_) (fun q21 => ?_)
    · have hf := pv_gp hf q21
      refine EV.iload dX9_found_151 rfl ?_
      refine EV.if_ne (tgt := 161) dX9_found_153 (by decide) (fun q22 => ?_) (fun q22 => ?_)
      · have hf := pv_gn hf q22
        refine EV.iload dX9_found_161 rfl ?_
        refine EV.weak (L2 := [none, none, none, none, none, none, none, none, none]) trivial ?_
        exact tX9_found_163 hd    hf
      · have hf := pv_gp hf q22
        refine EV.iload dX9_found_156 rfl ?_
        refine EV.goto (tgt := 163) dX9_found_158 (by decide) ?_
        refine EV.weak (L2 := [none, none, none, none, none, none, none, none, none]) trivial ?_
        exact tX9_found_163 hd    hf
    · have hf := pv_gn hf q21
      refine EV.aload_n dX9_found_82 rfl rfl ?_
      refine FV.getF (v := 78) dX9_found_83 sc_0 fl_9_40 rfl rfl hvc_0_5 ?_
      refine EV.aload_n dX9_found_86 rfl rfl ?_
      refine FV.getF (v := 20) dX9_found_87 sc_0 fl_9_19 rfl rfl hvc_0_1 ?_
      refine FV.getF (v := 21) dX9_found_90 sc_20 fl_9_94 rfl rfl hvc_20_2 ?_
      refine EV.iload_n dX9_found_93 rfl rfl ?_
      obtain ⟨g23, hf⟩ := pv_gd hf
      obtain ⟨x24, ex24, hf⟩ := pv_bo hf
      have mx24 : x24 ∈ pv_l5 := ex24 ▸ mq_21 _ (by omega)
      refine FV.aald (a := 0) (v := x24) dX9_found_94 sc_21 (by decide) g23.1 g23.2 (j := (Int.toNat (a2))) rfl rfl (by rw [hq_21 _ (by omega), ex24]) ?_
      refine EV.aload_n dX9_found_95 rfl rfl ?_
      refine FV.getF (v := 20) dX9_found_96 sc_0 fl_9_19 rfl rfl hvc_0_1 ?_
      refine FV.getF (v := 22) dX9_found_99 sc_20 fl_9_105 rfl rfl hvc_20_3 ?_
      refine EV.iload_n dX9_found_102 rfl rfl ?_
      obtain ⟨g25, hf⟩ := pv_gd hf
      obtain ⟨x26, ex26, hf⟩ := pv_bo hf
      have mx26 : x26 ∈ pv_l0 := ex26 ▸ mq_22 _ (by omega)
      refine FV.aald (a := 1) (v := x26) dX9_found_103 sc_22 (by decide) g25.1 g25.2 (j := (Int.toNat (a3))) rfl rfl (by rw [hq_22 _ (by omega), ex26]) ?_
      refine EV.aload_n dX9_found_104 rfl rfl ?_
      refine FV.getF (v := 20) dX9_found_105 sc_0 fl_9_19 rfl rfl hvc_0_1 ?_
      refine FV.getF (v := 23) dX9_found_108 sc_20 fl_9_117 rfl rfl hvc_20_4 ?_
      refine EV.iload dX9_found_111 rfl ?_
      obtain ⟨h28, r29, hc27, hf⟩ := pv_c2o hf
      refine EV.invV (As := [.inr (.inr (x24)), .inr (.inr (x26)), .inr (.inr (23)), .inl (v8)]) (st := []) (d1 := d - 1) (sh1 := pv_SC) (h1 := MC h28) (r1 := (some (.inl r29))) dX9_found_113 sc_78 (by decide) md_X1_breakRod ml_X9_182 im_X1_breakRod se_X1_breakRod (tX1_breakRod (by omega) (mx24) (mx26) ((by decide : 23 ∈ pv_l2)) hc27) (by omega) rfl rfl (Nat.le_of_ble_eq_true rfl) ⟨[], (List.append_nil _).symm⟩ ?_
      refine EV.eqS (st2 := [.inl (r29)]) rfl ?_
      refine EV.pop dX9_found_116 rfl ?_
      refine EV.aload_n dX9_found_117 rfl rfl ?_
      refine FV.getF (v := 20) dX9_found_118 sc_0 fl_9_19 rfl rfl hvc_0_1 ?_
      refine FV.getF (v := 25) dX9_found_121 sc_20 fl_9_127 rfl rfl hvc_20_5 ?_
      refine EV.iload_n dX9_found_124 rfl rfl ?_
      refine EV.aload_n dX9_found_125 rfl rfl ?_
      refine FV.getF (v := 78) dX9_found_126 sc_0 fl_9_40 rfl rfl hvc_0_5 ?_
      refine FV.getF (v := 79) dX9_found_129 sc_78 fl_9_190 rfl rfl hvc_78_0 ?_
      obtain ⟨h31, r32, hc30, hf⟩ := pv_c2o hf
      refine EV.invV (As := [.inl (a1), .inr (.inr (79))]) (st := []) (d1 := d - 1) (sh1 := pv_SC) (h1 := MC h31) (r1 := (some (.inl r32))) dX9_found_132 sc_25 (by decide) md_X3_isSo ml_X9_300 im_X3_isSo se_X3_isSo (tX3_isSo (by omega) ((by decide : 25 ∈ pv_l3)) ((by decide : 79 ∈ pv_l7)) hc30) (by omega) rfl rfl (Nat.le_of_ble_eq_true rfl) ⟨[], (List.append_nil _).symm⟩ ?_
      refine EV.eqS (st2 := [.inl (r32)]) rfl ?_
      refine EV.if_eq (tgt := 145) dX9_found_135 (by decide) (fun q33 => ?_) (fun q33 => ?_)
      · have hf := pv_gp hf q33
        refine EV.weak (L2 := [some (.inr (.inr (0))), some (.inl (a1)), some (.inl (a2)), some (.inl (a3)), none, some (.inl (a5)), some (.inl (v6)), some (.inl (v7)), some (.inl (v8))]) (And.intro rfl (And.intro rfl (And.intro rfl (And.intro rfl (And.intro rfl (And.intro rfl (And.intro rfl (And.intro rfl trivial)))))))) ?_
        exact tX9_found_145 hd (ih)   hf
      · have hf := pv_gn hf q33
        obtain ⟨x34, ex34, hf⟩ := pv_bo hf
        refine FV.inc (L2 := [some (.inr (.inr (0))), some (.inl (a1)), some (.inl (a2)), some (.inl (a3)), none, some (.inl (a5)), some (.inl (x34)), some (.inl (v7)), some (.inl (v8))]) dX9_found_138 rfl (Nat.le_of_ble_eq_true rfl) ex34 rfl ?_
        refine EV.iload dX9_found_141 rfl ?_
        refine FV.stiw (L2 := [some (.inr (.inr (0))), some (.inl (a1)), some (.inl (a2)), some (.inl (a3)), none, some (.inl (a5)), some (.inl (x34)), some (.inl (v8)), some (.inl (v8))]) dX9_found_143 (Nat.le_of_ble_eq_true rfl) rfl rfl ?_
        refine EV.weak (L2 := [some (.inr (.inr (0))), some (.inl (a1)), some (.inl (a2)), some (.inl (a3)), none, some (.inl (a5)), some (.inl (x34)), some (.inl (v8)), some (.inl (v8))]) (And.intro rfl (And.intro rfl (And.intro rfl (And.intro rfl (And.intro rfl (And.intro rfl (And.intro rfl (And.intro rfl trivial)))))))) ?_
        exact tX9_found_145 hd (ih)   hf

set_option maxHeartbeats 4000000 in
set_option maxRecDepth 20000 in
theorem tX9_found {d N : Nat} {a1 : Int} {a2 : Int} {a3 : Int} {a4 : Int} {a5 : Int} {h h' : pv_H} {r : Int} (hd : 7 ≤ d)  (hf : fX9_found N a1 a2 a3 a4 a5 h = some (h', r)) : CALL yX9_found cX9_found 9 (some .int) d pv_SC (MC h) [.inr (.inr (0)), .inl (a1), .inl (a2), .inl (a3), .inl (a4), .inl (a5)] pv_SC (MC h') (some (.inl r)) := by
  unfold fX9_found at hf
  refine EV.call (own := RX9) (ini := false) rfl rfl (fun q => by cases q) ⟨[], (List.append_nil _).symm⟩ (Nat.le_of_ble_eq_true rfl) ?_
  refine EV.eqL (L2 := [some (.inr (.inr (0))), some (.inl (a1)), some (.inl (a2)), some (.inl (a3)), some (.inl (a4)), some (.inl (a5)), none, none, none]) rfl ?_
  refine EV.iload_n dX9_found_0 rfl rfl ?_
  refine EV.if_lt (tgt := 44) dX9_found_1 (by decide) (fun q1 => ?_) (fun q1 => ?_)
  · have hf := pv_gp hf q1
    refine EV.weak (L2 := [some (.inr (.inr (0))), none, none, none, none, none, none, none, none]) (And.intro rfl trivial) ?_
    exact tX9_found_44 hd    hf
  · have hf := pv_gn hf q1
    refine EV.iload_n dX9_found_4 rfl rfl ?_
    refine EV.aload_n dX9_found_5 rfl rfl ?_
    refine FV.getF (v := 20) dX9_found_6 sc_0 fl_9_19 rfl rfl hvc_0_1 ?_
    refine FV.getF (v := 25) dX9_found_9 sc_20 fl_9_127 rfl rfl hvc_20_5 ?_
    refine FV.getI dX9_found_12 sc_25 fl_9_297 rfl ?_
    refine EV.icmp_ge (tgt := 44) dX9_found_15 (by decide) (fun q2 => ?_) (fun q2 => ?_)
    · have hf := pv_gp hf q2
      refine EV.weak (L2 := [some (.inr (.inr (0))), none, none, none, none, none, none, none, none]) (And.intro rfl trivial) ?_
      exact tX9_found_44 hd    hf
    · have hf := pv_gn hf q2
      refine EV.aload_n dX9_found_18 rfl rfl ?_
      refine EV.iload_n dX9_found_19 rfl rfl ?_
      obtain ⟨r4, hc3, hf⟩ := pv_c1o hf
      refine EV.invV (As := [.inl (a2)]) (st := []) (d1 := d - 1) (sh1 := pv_SC) (h1 := MC h) (r1 := (some (.inl r4))) dX9_found_20 sc_0 (by decide) md_X9_hasRod ml_X9_140 im_X9_hasRod se_X9_hasRod (tX9_hasRod (by omega)  hc3) (by omega) rfl rfl (Nat.le_of_ble_eq_true rfl) ⟨[], (List.append_nil _).symm⟩ ?_
      refine EV.eqS (st2 := [.inl (r4)]) rfl ?_
      refine EV.if_eq (tgt := 44) dX9_found_23 (by decide) (fun q5 => ?_) (fun q5 => ?_)
      · have hf := pv_gp hf q5
        refine EV.weak (L2 := [some (.inr (.inr (0))), none, none, none, none, none, none, none, none]) (And.intro rfl trivial) ?_
        exact tX9_found_44 hd    hf
      · have hf := pv_gn hf q5
        refine EV.iload_n dX9_found_26 rfl rfl ?_
        obtain ⟨r7, hc6, hf⟩ := pv_c1o hf
        refine EV.invS (As := [.inl (a3)]) (st := []) (d1 := d - 1) (sh1 := pv_SC) (h1 := MC h) (r1 := (some (.inl r7))) dX9_found_27 md_X9_hasDoings ml_X9_172 st_X9_hasDoings (tX9_hasDoings (by omega)  hc6) (by omega) rfl rfl (Nat.le_of_ble_eq_true rfl) ⟨[], (List.append_nil _).symm⟩ ?_
        refine EV.eqS (st2 := [.inl (r7)]) rfl ?_
        refine EV.if_eq (tgt := 44) dX9_found_30 (by decide) (fun q8 => ?_) (fun q8 => ?_)
        · have hf := pv_gp hf q8
          refine EV.weak (L2 := [some (.inr (.inr (0))), none, none, none, none, none, none, none, none]) (And.intro rfl trivial) ?_
          exact tX9_found_44 hd    hf
        · have hf := pv_gn hf q8
          refine EV.iload dX9_found_33 rfl ?_
          refine EV.if_lt (tgt := 44) dX9_found_35 (by decide) (fun q9 => ?_) (fun q9 => ?_)
          · have hf := pv_gp hf q9
            refine EV.weak (L2 := [some (.inr (.inr (0))), none, none, none, none, none, none, none, none]) (And.intro rfl trivial) ?_
            exact tX9_found_44 hd    hf
          · have hf := pv_gn hf q9
            refine EV.iload dX9_found_38 rfl ?_
            refine EV.iconst dX9_found_40 (by decide) (by decide) ?_
            refine EV.icmp_le (tgt := 51) dX9_found_41 (by decide) (fun q10 => ?_) (fun q10 => ?_)
            · have hf := pv_gp hf q10
              refine EV.iload dX9_found_51 rfl ?_
              obtain ⟨r12, hc11, hf⟩ := pv_c1o hf
              refine EV.invS (As := [.inl (a4)]) (st := []) (d1 := d - 1) (sh1 := pv_SC) (h1 := MC h) (r1 := (some (.inl r12))) dX9_found_53 md_X9_areSeeds ml_X9_251 st_X9_areSeeds (tX9_areSeeds (by omega)  hc11) (by omega) rfl rfl (Nat.le_of_ble_eq_true rfl) ⟨[], (List.append_nil _).symm⟩ ?_
              refine EV.eqS (st2 := [.inl (r12)]) rfl ?_
              refine EV.if_ne (tgt := 66) dX9_found_56 (by decide) (fun q13 => ?_) (fun q13 => ?_)
              · have hf := pv_gn hf q13
                refine EV.iconst dX9_found_66 (by decide) (by decide) ?_
                refine FV.stiw (L2 := [some (.inr (.inr (0))), some (.inl (a1)), some (.inl (a2)), some (.inl (a3)), some (.inl (a4)), some (.inl (a5)), some (.inl (0)), none, none]) dX9_found_67 (Nat.le_of_ble_eq_true rfl) rfl rfl ?_
                refine EV.iconst dX9_found_69 (by decide) (by decide) ?_
                obtain ⟨x14, ex14, hf⟩ := pv_bo hf
                refine FV.stiw (L2 := [some (.inr (.inr (0))), some (.inl (a1)), some (.inl (a2)), some (.inl (a3)), some (.inl (a4)), some (.inl (a5)), some (.inl (0)), some (.inl (x14)), none]) dX9_found_70 (Nat.le_of_ble_eq_true rfl) ex14 rfl ?_
                refine EV.iload dX9_found_72 rfl ?_
                refine FV.stiw (L2 := [some (.inr (.inr (0))), some (.inl (a1)), some (.inl (a2)), some (.inl (a3)), some (.inl (a4)), some (.inl (a5)), some (.inl (0)), some (.inl (x14)), some (.inl (a4))]) dX9_found_74 (Nat.le_of_ble_eq_true rfl) rfl rfl ?_
                refine EV.weak (L2 := [some (.inr (.inr (0))), some (.inl (a1)), some (.inl (a2)), some (.inl (a3)), none, some (.inl (a5)), some (.inl (0)), some (.inl (x14)), some (.inl (a4))]) (And.intro rfl (And.intro rfl (And.intro rfl (And.intro rfl (And.intro rfl (And.intro rfl (And.intro rfl (And.intro rfl trivial)))))))) ?_
                exact tX9_found_76 hd   _ _ _ _  _ hf
              · have hf := pv_gp hf q13
                refine EV.aload_n dX9_found_59 rfl rfl ?_
                refine EV.bipush dX9_found_60 (by decide) (by decide) ?_
                obtain ⟨h16, r17, hc15, hf⟩ := pv_c2o hf
                refine EV.invV (As := [.inl (-3)]) (st := []) (d1 := d - 1) (sh1 := pv_SC) (h1 := MC h16) (r1 := (some (.inl r17))) dX9_found_62 sc_0 (by decide) md_X9_refuse ml_X9_59 im_X9_refuse se_X9_refuse (tX9_refuse (by omega)  hc15) (by omega) rfl rfl (Nat.le_of_ble_eq_true rfl) ⟨[], (List.append_nil _).symm⟩ ?_
                refine EV.eqS (st2 := [.inl (r17)]) rfl ?_
                exact FV.iret dX9_found_65 hf
            · have hf := pv_gn hf q10
              refine EV.weak (L2 := [some (.inr (.inr (0))), none, none, none, none, none, none, none, none]) (And.intro rfl trivial) ?_
              exact tX9_found_44 hd    hf

noncomputable def fX9_middle_26 (N : Nat)  (a1 : Int) (a2 : Int) (a3 : Int) (a4 : Int)  (h : pv_H) : Option (pv_H × Int) :=
  pv_c2b (fX9_refuse N (-2) h) fun h18 r19 => some (h18, r19)

noncomputable def fX9_middle_167 (N : Nat) (k62 : Int → Int → Int → Int → Int → pv_H → Option (pv_H × Int)) (k125 : Int → Int → Int → Int → Int → Int → Int → pv_H → Option (pv_H × Int)) (a1 : Int) (a2 : Int) (a3 : Int) (a4 : Int) (v5 : Int) (v6 : Int) (v8 : Int) (v9 : Int) (v10 : Int) (v11 : Int) (v12 : Int) (s0 : Int) (h : pv_H) : Option (pv_H × Int) :=
  pv_b (max v8 v12) fun x36 => pv_b (pv_w (v11 + 1)) fun x37 => k125 (v5) (v6) (s0) (x36) (v9) (v10) (x37) h

noncomputable def fX9_middle_125 (N : Nat) (k62 : Int → Int → Int → Int → Int → pv_H → Option (pv_H × Int)) (a1 : Int) (a2 : Int) (a3 : Int) (a4 : Int) : Nat → Int → Int → Int → Int → Int → Int → Int → pv_H → Option (pv_H × Int)
  | 0, _, _, _, _, _, _, _, _ => none
  | n + 1, v5, v6, v7, v8, v9, v10, v11, h => if (pv_w (v10 - 1)) ≤ v11 then (pv_b (pv_w (v9 + 1)) fun x32 => k62 (v5) (v6) (v7) (v8) (x32) h) else (if 0 ≤ v11 ∧ v11 < 60 then (pv_b (h 83 (Int.toNat (v11))) fun x34 => if v7 = (-1) then (fX9_middle_167 N (k62) (fun v5_ v6_ v7_ v8_ v9_ v10_ v11_ hh => fX9_middle_125 N k62 a1 a2 a3 a4 n v5_ v6_ v7_ v8_ v9_ v10_ v11_ hh) a1 a2 a3 a4 (v5) (v6) (v8) (v9) (v10) (v11) (x34) (x34) h) else (fX9_middle_167 N (k62) (fun v5_ v6_ v7_ v8_ v9_ v10_ v11_ hh => fX9_middle_125 N k62 a1 a2 a3 a4 n v5_ v6_ v7_ v8_ v9_ v10_ v11_ hh) a1 a2 a3 a4 (v5) (v6) (v8) (v9) (v10) (v11) (x34) (min v7 x34) h)) else none)

noncomputable def fX9_middle_122 (N : Nat) (k62 : Int → Int → Int → Int → Int → pv_H → Option (pv_H × Int)) (a1 : Int) (a2 : Int) (a3 : Int) (a4 : Int) (v5 : Int) (v6 : Int) (v7 : Int) (v8 : Int) (v9 : Int) (v10 : Int) (h : pv_H) : Option (pv_H × Int) :=
  fX9_middle_125 N (k62) a1 a2 a3 a4 N (v5) (v6) (v7) (v8) (v9) (v10) (1) h

noncomputable def fX9_middle_62 (N : Nat)  (a1 : Int) (a2 : Int) (a3 : Int) (a4 : Int) : Nat → Int → Int → Int → Int → Int → pv_H → Option (pv_H × Int)
  | 0, _, _, _, _, _, _ => none
  | n + 1, v5, v6, v7, v8, v9, h => if a3 < v9 then (if a4 = 0 then (some (h, v5)) else (if a4 = 1 then (some (h, v6)) else (if a4 = 2 then (some (h, v7)) else (some (h, v8))))) else (if 0 ≤ a1 ∧ a1 < 4 then (pv_b (35 + 6 * (Int.toNat (a1))) fun x22 => if 0 ≤ a2 ∧ a2 < 4 then (pv_b (59 + 4 * (Int.toNat (a2))) fun x24 => pv_c2b (fX1_breakRod N x22 x24 23 v9 h) fun h26 r27 => if r27 < 3 then (fX9_middle_122 N (fun v5_ v6_ v7_ v8_ v9_ hh => fX9_middle_62 N  a1 a2 a3 a4 n v5_ v6_ v7_ v8_ v9_ hh) a1 a2 a3 a4 (v5) (v6) (v7) (v8) (v9) (r27) h26) else (pv_b (pv_w (v5 + 1)) fun x29 => pv_b (pv_w (v6 + (pv_w (r27 - 2)))) fun x30 => fX9_middle_122 N (fun v5_ v6_ v7_ v8_ v9_ hh => fX9_middle_62 N  a1 a2 a3 a4 n v5_ v6_ v7_ v8_ v9_ hh) a1 a2 a3 a4 (x29) (x30) (v7) (v8) (v9) (r27) h26)) else none) else none)

noncomputable def fX9_middle (N : Nat) (a1 : Int) (a2 : Int) (a3 : Int) (a4 : Int) (h : pv_H) : Option (pv_H × Int) :=
  pv_c1 (fX9_hasRod N a1 h) fun r2 => if r2 = 0 then (fX9_middle_26 N  a1 a2 a3 a4  h) else (pv_c1 (fX9_hasDoings N a2 h) fun r5 => if r5 = 0 then (fX9_middle_26 N  a1 a2 a3 a4  h) else (if a4 < 0 then (fX9_middle_26 N  a1 a2 a3 a4  h) else (if a4 ≤ 3 then (pv_c1 (fX9_areSeeds N a3 h) fun r10 => if r10 = 0 then (pv_c2b (fX9_refuse N (-3) h) fun h15 r16 => some (h15, r16)) else (pv_b (-1) fun x12 => pv_b (-1) fun x13 => fX9_middle_62 N  a1 a2 a3 a4 N (0) (0) (x12) (x13) (1) h)) else (fX9_middle_26 N  a1 a2 a3 a4  h))))

set_option maxHeartbeats 4000000 in
set_option maxRecDepth 20000 in
theorem tX9_middle_26 {d N : Nat}  {a1 : Int} {a2 : Int} {a3 : Int} {a4 : Int}  {h h' : pv_H} {r : Int} (hd : 7 ≤ d)    (hf : fX9_middle_26 N  a1 a2 a3 a4  h = some (h', r)) : EV RX9 cX9_middle 13 (some .int) false d pv_SC (MC h') (some (.inl r)) 26 [some (.inr (.inr (0))), none, none, none, none, none, none, none, none, none, none, none, none] [] pv_SC (MC h) := by
  unfold fX9_middle_26 at hf
  refine EV.aload_n dX9_middle_26 rfl rfl ?_
  refine EV.bipush dX9_middle_27 (by decide) (by decide) ?_
  obtain ⟨h18, r19, hc17, hf⟩ := pv_c2o hf
  refine EV.invV (As := [.inl (-2)]) (st := []) (d1 := d - 1) (sh1 := pv_SC) (h1 := MC h18) (r1 := (some (.inl r19))) dX9_middle_29 sc_0 (by decide) md_X9_refuse ml_X9_59 im_X9_refuse se_X9_refuse (tX9_refuse (by omega)  hc17) (by omega) rfl rfl (Nat.le_of_ble_eq_true rfl) ⟨[], (List.append_nil _).symm⟩ ?_
  refine EV.eqS (st2 := [.inl (r19)]) rfl ?_
  exact FV.iret dX9_middle_32 hf

set_option maxHeartbeats 4000000 in
set_option maxRecDepth 20000 in
theorem tX9_middle_167 {d N : Nat} {k62 : Int → Int → Int → Int → Int → pv_H → Option (pv_H × Int)} {k125 : Int → Int → Int → Int → Int → Int → Int → pv_H → Option (pv_H × Int)} {a1 : Int} {a2 : Int} {a3 : Int} {a4 : Int} {v5 : Int} {v6 : Int} {v8 : Int} {v9 : Int} {v10 : Int} {v11 : Int} {v12 : Int} {s0 : Int} {h h' : pv_H} {r : Int} (hd : 7 ≤ d) (hk62 : ∀ (v5 : Int) (v6 : Int) (v7 : Int) (v8 : Int) (v9 : Int)  (hh : pv_H), k62 v5 v6 v7 v8 v9 hh = some (h', r) → EV RX9 cX9_middle 13 (some .int) false d pv_SC (MC h') (some (.inl r)) 62 [some (.inr (.inr (0))), some (.inl (a1)), some (.inl (a2)), some (.inl (a3)), some (.inl (a4)), some (.inl (v5)), some (.inl (v6)), some (.inl (v7)), some (.inl (v8)), some (.inl (v9)), none, none, none] [] pv_SC (MC hh)) (hk125 : ∀ (v5 : Int) (v6 : Int) (v7 : Int) (v8 : Int) (v9 : Int) (v10 : Int) (v11 : Int)  (hh : pv_H), k125 v5 v6 v7 v8 v9 v10 v11 hh = some (h', r) → EV RX9 cX9_middle 13 (some .int) false d pv_SC (MC h') (some (.inl r)) 125 [some (.inr (.inr (0))), some (.inl (a1)), some (.inl (a2)), some (.inl (a3)), some (.inl (a4)), some (.inl (v5)), some (.inl (v6)), some (.inl (v7)), some (.inl (v8)), some (.inl (v9)), some (.inl (v10)), some (.inl (v11)), none] [] pv_SC (MC hh))   (hf : fX9_middle_167 N k62 k125 a1 a2 a3 a4 v5 v6 v8 v9 v10 v11 v12 s0 h = some (h', r)) : EV RX9 cX9_middle 13 (some .int) false d pv_SC (MC h') (some (.inl r)) 167 [some (.inr (.inr (0))), some (.inl (a1)), some (.inl (a2)), some (.inl (a3)), some (.inl (a4)), some (.inl (v5)), some (.inl (v6)), none, some (.inl (v8)), some (.inl (v9)), some (.inl (v10)), some (.inl (v11)), some (.inl (v12))] [.inl (s0)] pv_SC (MC h) := by
  unfold fX9_middle_167 at hf
  refine FV.stiw (L2 := [some (.inr (.inr (0))), some (.inl (a1)), some (.inl (a2)), some (.inl (a3)), some (.inl (a4)), some (.inl (v5)), some (.inl (v6)), some (.inl (s0)), some (.inl (v8)), some (.inl (v9)), some (.inl (v10)), some (.inl (v11)), some (.inl (v12))]) dX9_middle_167 (Nat.le_of_ble_eq_true rfl) rfl rfl ?_
  refine EV.iload dX9_middle_169 rfl ?_
  refine EV.iload dX9_middle_171 rfl ?_
  refine EV.mmax dX9_middle_173 ml_X9_280 w_maxs w_mai w_maxc (by omega) (Nat.le_of_ble_eq_true rfl) ?_
  obtain ⟨x36, ex36, hf⟩ := pv_bo hf
  refine FV.stiw (L2 := [some (.inr (.inr (0))), some (.inl (a1)), some (.inl (a2)), some (.inl (a3)), some (.inl (a4)), some (.inl (v5)), some (.inl (v6)), some (.inl (s0)), some (.inl (x36)), some (.inl (v9)), some (.inl (v10)), some (.inl (v11)), some (.inl (v12))]) dX9_middle_176 (Nat.le_of_ble_eq_true rfl) ex36 rfl ?_
  obtain ⟨x37, ex37, hf⟩ := pv_bo hf
  refine FV.inc (L2 := [some (.inr (.inr (0))), some (.inl (a1)), some (.inl (a2)), some (.inl (a3)), some (.inl (a4)), some (.inl (v5)), some (.inl (v6)), some (.inl (s0)), some (.inl (x36)), some (.inl (v9)), some (.inl (v10)), some (.inl (x37)), some (.inl (v12))]) dX9_middle_178 rfl (Nat.le_of_ble_eq_true rfl) ex37 rfl ?_
  refine EV.goto (tgt := 125) dX9_middle_181 (by decide) ?_
  refine EV.weak (L2 := [some (.inr (.inr (0))), some (.inl (a1)), some (.inl (a2)), some (.inl (a3)), some (.inl (a4)), some (.inl (v5)), some (.inl (v6)), some (.inl (s0)), some (.inl (x36)), some (.inl (v9)), some (.inl (v10)), some (.inl (x37)), none]) (And.intro rfl (And.intro rfl (And.intro rfl (And.intro rfl (And.intro rfl (And.intro rfl (And.intro rfl (And.intro rfl (And.intro rfl (And.intro rfl (And.intro rfl (And.intro rfl trivial)))))))))))) ?_
  exact hk125 _ _ _ _ _ _ _  _ hf

set_option maxHeartbeats 4000000 in
set_option maxRecDepth 20000 in
theorem tX9_middle_125 {d N : Nat} {k62 : Int → Int → Int → Int → Int → pv_H → Option (pv_H × Int)} {a1 : Int} {a2 : Int} {a3 : Int} {a4 : Int} {h' : pv_H} {r : Int} (hd : 7 ≤ d) (hk62 : ∀ (v5 : Int) (v6 : Int) (v7 : Int) (v8 : Int) (v9 : Int)  (hh : pv_H), k62 v5 v6 v7 v8 v9 hh = some (h', r) → EV RX9 cX9_middle 13 (some .int) false d pv_SC (MC h') (some (.inl r)) 62 [some (.inr (.inr (0))), some (.inl (a1)), some (.inl (a2)), some (.inl (a3)), some (.inl (a4)), some (.inl (v5)), some (.inl (v6)), some (.inl (v7)), some (.inl (v8)), some (.inl (v9)), none, none, none] [] pv_SC (MC hh))  : ∀ (n : Nat) (v5 : Int) (v6 : Int) (v7 : Int) (v8 : Int) (v9 : Int) (v10 : Int) (v11 : Int)  (h : pv_H), fX9_middle_125 N k62 a1 a2 a3 a4 n v5 v6 v7 v8 v9 v10 v11 h = some (h', r) → EV RX9 cX9_middle 13 (some .int) false d pv_SC (MC h') (some (.inl r)) 125 [some (.inr (.inr (0))), some (.inl (a1)), some (.inl (a2)), some (.inl (a3)), some (.inl (a4)), some (.inl (v5)), some (.inl (v6)), some (.inl (v7)), some (.inl (v8)), some (.inl (v9)), some (.inl (v10)), some (.inl (v11)), none] [] pv_SC (MC h) := by
  intro n
  induction n with
  | zero =>
    intro v5 v6 v7 v8 v9 v10 v11  h hf
    cases hf
  | succ n ih =>
    intro v5 v6 v7 v8 v9 v10 v11  h hf
    rw [fX9_middle_125] at hf
    refine EV.iload dX9_middle_125 rfl ?_
    refine EV.iload dX9_middle_127 rfl ?_
    refine EV.iconst dX9_middle_129 (by decide) (by decide) ?_
    refine EV.isub dX9_middle_130 ?_
    refine EV.icmp_ge (tgt := 184) dX9_middle_131 (by decide) (fun q31 => ?_) (fun q31 => ?_)
    · have hf := pv_gp hf q31
      obtain ⟨x32, ex32, hf⟩ := pv_bo hf
      refine FV.inc (L2 := [some (.inr (.inr (0))), some (.inl (a1)), some (.inl (a2)), some (.inl (a3)), some (.inl (a4)), some (.inl (v5)), some (.inl (v6)), some (.inl (v7)), some (.inl (v8)), some (.inl (x32)), some (.inl (v10)), some (.inl (v11)), none]) dX9_middle_184 rfl (Nat.le_of_ble_eq_true rfl) ex32 rfl ?_
      refine EV.goto (tgt := 62) dX9_middle_187 (by decide) ?_
      refine EV.weak (L2 := [some (.inr (.inr (0))), some (.inl (a1)), some (.inl (a2)), some (.inl (a3)), some (.inl (a4)), some (.inl (v5)), some (.inl (v6)), some (.inl (v7)), some (.inl (v8)), some (.inl (x32)), none, none, none]) (And.intro rfl (And.intro rfl (And.intro rfl (And.intro rfl (And.intro rfl (And.intro rfl (And.intro rfl (And.intro rfl (And.intro rfl (And.intro rfl trivial)))))))))) ?_
      exact hk62 _ _ _ _ _  _ hf
    · have hf := pv_gn hf q31
      refine EV.aload_n dX9_middle_134 rfl rfl ?_
      refine FV.getF (v := 78) dX9_middle_135 sc_0 fl_9_40 rfl rfl hvc_0_5 ?_
      refine FV.getF (v := 79) dX9_middle_138 sc_78 fl_9_190 rfl rfl hvc_78_0 ?_
      refine FV.getF (v := 83) dX9_middle_141 sc_79 fl_9_211 rfl rfl hvc_79_4 ?_
      refine EV.iload dX9_middle_144 rfl ?_
      obtain ⟨g33, hf⟩ := pv_gd hf
      refine FV.iald dX9_middle_146 sc_83 g33.1 g33.2 (j := (Int.toNat (v11))) rfl ?_
      obtain ⟨x34, ex34, hf⟩ := pv_bo hf
      refine FV.stiw (L2 := [some (.inr (.inr (0))), some (.inl (a1)), some (.inl (a2)), some (.inl (a3)), some (.inl (a4)), some (.inl (v5)), some (.inl (v6)), some (.inl (v7)), some (.inl (v8)), some (.inl (v9)), some (.inl (v10)), some (.inl (v11)), some (.inl (x34))]) dX9_middle_147 (Nat.le_of_ble_eq_true rfl) ex34 rfl ?_
      refine EV.iload dX9_middle_149 rfl ?_
      refine EV.iconst dX9_middle_151 (by decide) (by decide) ?_
      refine EV.icmp_ne (tgt := 160) dX9_middle_152 (by decide) (fun q35 => ?_) (fun q35 => ?_)
      · have hf := pv_gn hf q35
        refine EV.iload dX9_middle_160 rfl ?_
        refine EV.iload dX9_middle_162 rfl ?_
        refine EV.mmin dX9_middle_164 ml_X9_254 w_mins w_mai w_minc (by omega) (Nat.le_of_ble_eq_true rfl) ?_
        refine EV.weak (L2 := [some (.inr (.inr (0))), some (.inl (a1)), some (.inl (a2)), some (.inl (a3)), some (.inl (a4)), some (.inl (v5)), some (.inl (v6)), none, some (.inl (v8)), some (.inl (v9)), some (.inl (v10)), some (.inl (v11)), some (.inl (x34))]) (And.intro rfl (And.intro rfl (And.intro rfl (And.intro rfl (And.intro rfl (And.intro rfl (And.intro rfl (And.intro rfl (And.intro rfl (And.intro rfl (And.intro rfl (And.intro rfl trivial)))))))))))) ?_
        exact tX9_middle_167 hd (hk62) (ih)   hf
      · have hf := pv_gp hf q35
        refine EV.iload dX9_middle_155 rfl ?_
        refine EV.goto (tgt := 167) dX9_middle_157 (by decide) ?_
        refine EV.weak (L2 := [some (.inr (.inr (0))), some (.inl (a1)), some (.inl (a2)), some (.inl (a3)), some (.inl (a4)), some (.inl (v5)), some (.inl (v6)), none, some (.inl (v8)), some (.inl (v9)), some (.inl (v10)), some (.inl (v11)), some (.inl (x34))]) (And.intro rfl (And.intro rfl (And.intro rfl (And.intro rfl (And.intro rfl (And.intro rfl (And.intro rfl (And.intro rfl (And.intro rfl (And.intro rfl (And.intro rfl (And.intro rfl trivial)))))))))))) ?_
        exact tX9_middle_167 hd (hk62) (ih)   hf

set_option maxHeartbeats 4000000 in
set_option maxRecDepth 20000 in
theorem tX9_middle_122 {d N : Nat} {k62 : Int → Int → Int → Int → Int → pv_H → Option (pv_H × Int)} {a1 : Int} {a2 : Int} {a3 : Int} {a4 : Int} {v5 : Int} {v6 : Int} {v7 : Int} {v8 : Int} {v9 : Int} {v10 : Int} {h h' : pv_H} {r : Int} (hd : 7 ≤ d) (hk62 : ∀ (v5 : Int) (v6 : Int) (v7 : Int) (v8 : Int) (v9 : Int)  (hh : pv_H), k62 v5 v6 v7 v8 v9 hh = some (h', r) → EV RX9 cX9_middle 13 (some .int) false d pv_SC (MC h') (some (.inl r)) 62 [some (.inr (.inr (0))), some (.inl (a1)), some (.inl (a2)), some (.inl (a3)), some (.inl (a4)), some (.inl (v5)), some (.inl (v6)), some (.inl (v7)), some (.inl (v8)), some (.inl (v9)), none, none, none] [] pv_SC (MC hh))   (hf : fX9_middle_122 N k62 a1 a2 a3 a4 v5 v6 v7 v8 v9 v10 h = some (h', r)) : EV RX9 cX9_middle 13 (some .int) false d pv_SC (MC h') (some (.inl r)) 122 [some (.inr (.inr (0))), some (.inl (a1)), some (.inl (a2)), some (.inl (a3)), some (.inl (a4)), some (.inl (v5)), some (.inl (v6)), some (.inl (v7)), some (.inl (v8)), some (.inl (v9)), some (.inl (v10)), none, none] [] pv_SC (MC h) := by
  unfold fX9_middle_122 at hf
  refine EV.iconst dX9_middle_122 (by decide) (by decide) ?_
  refine FV.stiw (L2 := [some (.inr (.inr (0))), some (.inl (a1)), some (.inl (a2)), some (.inl (a3)), some (.inl (a4)), some (.inl (v5)), some (.inl (v6)), some (.inl (v7)), some (.inl (v8)), some (.inl (v9)), some (.inl (v10)), some (.inl (1)), none]) dX9_middle_123 (Nat.le_of_ble_eq_true rfl) rfl rfl ?_
  refine EV.weak (L2 := [some (.inr (.inr (0))), some (.inl (a1)), some (.inl (a2)), some (.inl (a3)), some (.inl (a4)), some (.inl (v5)), some (.inl (v6)), some (.inl (v7)), some (.inl (v8)), some (.inl (v9)), some (.inl (v10)), some (.inl (1)), none]) (And.intro rfl (And.intro rfl (And.intro rfl (And.intro rfl (And.intro rfl (And.intro rfl (And.intro rfl (And.intro rfl (And.intro rfl (And.intro rfl (And.intro rfl (And.intro rfl trivial)))))))))))) ?_
  exact tX9_middle_125 hd (hk62)  _ _ _ _ _ _ _ _  _ hf

set_option maxHeartbeats 4000000 in
set_option maxRecDepth 20000 in
theorem tX9_middle_62 {d N : Nat}  {a1 : Int} {a2 : Int} {a3 : Int} {a4 : Int} {h' : pv_H} {r : Int} (hd : 7 ≤ d)   : ∀ (n : Nat) (v5 : Int) (v6 : Int) (v7 : Int) (v8 : Int) (v9 : Int)  (h : pv_H), fX9_middle_62 N  a1 a2 a3 a4 n v5 v6 v7 v8 v9 h = some (h', r) → EV RX9 cX9_middle 13 (some .int) false d pv_SC (MC h') (some (.inl r)) 62 [some (.inr (.inr (0))), some (.inl (a1)), some (.inl (a2)), some (.inl (a3)), some (.inl (a4)), some (.inl (v5)), some (.inl (v6)), some (.inl (v7)), some (.inl (v8)), some (.inl (v9)), none, none, none] [] pv_SC (MC h) := by
  intro n
  induction n with
  | zero =>
    intro v5 v6 v7 v8 v9  h hf
    cases hf
  | succ n ih =>
    intro v5 v6 v7 v8 v9  h hf
    rw [fX9_middle_62] at hf
    refine EV.iload dX9_middle_62 rfl ?_
    refine EV.iload_n dX9_middle_64 rfl rfl ?_
    refine EV.icmp_gt (tgt := 190) dX9_middle_65 (by decide) (fun q20 => ?_) (fun q20 => ?_)
    · have hf := pv_gp hf q20
      refine EV.iload dX9_middle_190 rfl ?_
      by_cases q0 : a4 = 0
      · have hf := pv_gp hf q0
        refine EV.tabIn (tgt := 220) dX9_middle_192 (by omega) (by omega) (by rw [q0]; rfl) (by decide) ?_
        refine EV.iload dX9_middle_220 rfl ?_
        exact FV.iret dX9_middle_222 hf
      · have hf := pv_gn hf q0
        by_cases q1 : a4 = 1
        · have hf := pv_gp hf q1
          refine EV.tabIn (tgt := 223) dX9_middle_192 (by omega) (by omega) (by rw [q1]; rfl) (by decide) ?_
          refine EV.iload dX9_middle_223 rfl ?_
          exact FV.iret dX9_middle_225 hf
        · have hf := pv_gn hf q1
          by_cases q2 : a4 = 2
          · have hf := pv_gp hf q2
            refine EV.tabIn (tgt := 226) dX9_middle_192 (by omega) (by omega) (by rw [q2]; rfl) (by decide) ?_
            refine EV.iload dX9_middle_226 rfl ?_
            exact FV.iret dX9_middle_228 hf
          · have hf := pv_gn hf q2
            refine EV.tabOut (tgt := 229) dX9_middle_192 (by omega) (by decide) ?_
            refine EV.iload dX9_middle_229 rfl ?_
            exact FV.iret dX9_middle_231 hf
    · have hf := pv_gn hf q20
      refine EV.aload_n dX9_middle_68 rfl rfl ?_
      refine FV.getF (v := 78) dX9_middle_69 sc_0 fl_9_40 rfl rfl hvc_0_5 ?_
      refine EV.aload_n dX9_middle_72 rfl rfl ?_
      refine FV.getF (v := 20) dX9_middle_73 sc_0 fl_9_19 rfl rfl hvc_0_1 ?_
      refine FV.getF (v := 21) dX9_middle_76 sc_20 fl_9_94 rfl rfl hvc_20_2 ?_
      refine EV.iload_n dX9_middle_79 rfl rfl ?_
      obtain ⟨g21, hf⟩ := pv_gd hf
      obtain ⟨x22, ex22, hf⟩ := pv_bo hf
      have mx22 : x22 ∈ pv_l5 := ex22 ▸ mq_21 _ (by omega)
      refine FV.aald (a := 0) (v := x22) dX9_middle_80 sc_21 (by decide) g21.1 g21.2 (j := (Int.toNat (a1))) rfl rfl (by rw [hq_21 _ (by omega), ex22]) ?_
      refine EV.aload_n dX9_middle_81 rfl rfl ?_
      refine FV.getF (v := 20) dX9_middle_82 sc_0 fl_9_19 rfl rfl hvc_0_1 ?_
      refine FV.getF (v := 22) dX9_middle_85 sc_20 fl_9_105 rfl rfl hvc_20_3 ?_
      refine EV.iload_n dX9_middle_88 rfl rfl ?_
      obtain ⟨g23, hf⟩ := pv_gd hf
      obtain ⟨x24, ex24, hf⟩ := pv_bo hf
      have mx24 : x24 ∈ pv_l0 := ex24 ▸ mq_22 _ (by omega)
      refine FV.aald (a := 1) (v := x24) dX9_middle_89 sc_22 (by decide) g23.1 g23.2 (j := (Int.toNat (a2))) rfl rfl (by rw [hq_22 _ (by omega), ex24]) ?_
      refine EV.aload_n dX9_middle_90 rfl rfl ?_
      refine FV.getF (v := 20) dX9_middle_91 sc_0 fl_9_19 rfl rfl hvc_0_1 ?_
      refine FV.getF (v := 23) dX9_middle_94 sc_20 fl_9_117 rfl rfl hvc_20_4 ?_
      refine EV.iload dX9_middle_97 rfl ?_
      obtain ⟨h26, r27, hc25, hf⟩ := pv_c2o hf
      refine EV.invV (As := [.inr (.inr (x22)), .inr (.inr (x24)), .inr (.inr (23)), .inl (v9)]) (st := []) (d1 := d - 1) (sh1 := pv_SC) (h1 := MC h26) (r1 := (some (.inl r27))) dX9_middle_99 sc_78 (by decide) md_X1_breakRod ml_X9_182 im_X1_breakRod se_X1_breakRod (tX1_breakRod (by omega) (mx22) (mx24) ((by decide : 23 ∈ pv_l2)) hc25) (by omega) rfl rfl (Nat.le_of_ble_eq_true rfl) ⟨[], (List.append_nil _).symm⟩ ?_
      refine EV.eqS (st2 := [.inl (r27)]) rfl ?_
      refine FV.stiw (L2 := [some (.inr (.inr (0))), some (.inl (a1)), some (.inl (a2)), some (.inl (a3)), some (.inl (a4)), some (.inl (v5)), some (.inl (v6)), some (.inl (v7)), some (.inl (v8)), some (.inl (v9)), some (.inl (r27)), none, none]) dX9_middle_102 (Nat.le_of_ble_eq_true rfl) rfl rfl ?_
      refine EV.iload dX9_middle_104 rfl ?_
      refine EV.iconst dX9_middle_106 (by decide) (by decide) ?_
      refine EV.icmp_lt (tgt := 122) dX9_middle_107 (by decide) (fun q28 => ?_) (fun q28 => ?_)
      · have hf := pv_gp hf q28
        refine EV.weak (L2 := [some (.inr (.inr (0))), some (.inl (a1)), some (.inl (a2)), some (.inl (a3)), some (.inl (a4)), some (.inl (v5)), some (.inl (v6)), some (.inl (v7)), some (.inl (v8)), some (.inl (v9)), some (.inl (r27)), none, none]) (And.intro rfl (And.intro rfl (And.intro rfl (And.intro rfl (And.intro rfl (And.intro rfl (And.intro rfl (And.intro rfl (And.intro rfl (And.intro rfl (And.intro rfl trivial))))))))))) ?_
        exact tX9_middle_122 hd (ih)   hf
      · have hf := pv_gn hf q28
        obtain ⟨x29, ex29, hf⟩ := pv_bo hf
        refine FV.inc (L2 := [some (.inr (.inr (0))), some (.inl (a1)), some (.inl (a2)), some (.inl (a3)), some (.inl (a4)), some (.inl (x29)), some (.inl (v6)), some (.inl (v7)), some (.inl (v8)), some (.inl (v9)), some (.inl (r27)), none, none]) dX9_middle_110 rfl (Nat.le_of_ble_eq_true rfl) ex29 rfl ?_
        refine EV.iload dX9_middle_113 rfl ?_
        refine EV.iload dX9_middle_115 rfl ?_
        refine EV.iconst dX9_middle_117 (by decide) (by decide) ?_
        refine EV.isub dX9_middle_118 ?_
        refine EV.iadd dX9_middle_119 ?_
        obtain ⟨x30, ex30, hf⟩ := pv_bo hf
        refine FV.stiw (L2 := [some (.inr (.inr (0))), some (.inl (a1)), some (.inl (a2)), some (.inl (a3)), some (.inl (a4)), some (.inl (x29)), some (.inl (x30)), some (.inl (v7)), some (.inl (v8)), some (.inl (v9)), some (.inl (r27)), none, none]) dX9_middle_120 (Nat.le_of_ble_eq_true rfl) ex30 rfl ?_
        refine EV.weak (L2 := [some (.inr (.inr (0))), some (.inl (a1)), some (.inl (a2)), some (.inl (a3)), some (.inl (a4)), some (.inl (x29)), some (.inl (x30)), some (.inl (v7)), some (.inl (v8)), some (.inl (v9)), some (.inl (r27)), none, none]) (And.intro rfl (And.intro rfl (And.intro rfl (And.intro rfl (And.intro rfl (And.intro rfl (And.intro rfl (And.intro rfl (And.intro rfl (And.intro rfl (And.intro rfl trivial))))))))))) ?_
        exact tX9_middle_122 hd (ih)   hf

set_option maxHeartbeats 4000000 in
set_option maxRecDepth 20000 in
theorem tX9_middle {d N : Nat} {a1 : Int} {a2 : Int} {a3 : Int} {a4 : Int} {h h' : pv_H} {r : Int} (hd : 7 ≤ d)  (hf : fX9_middle N a1 a2 a3 a4 h = some (h', r)) : CALL yX9_middle cX9_middle 13 (some .int) d pv_SC (MC h) [.inr (.inr (0)), .inl (a1), .inl (a2), .inl (a3), .inl (a4)] pv_SC (MC h') (some (.inl r)) := by
  unfold fX9_middle at hf
  refine EV.call (own := RX9) (ini := false) rfl rfl (fun q => by cases q) ⟨[], (List.append_nil _).symm⟩ (Nat.le_of_ble_eq_true rfl) ?_
  refine EV.eqL (L2 := [some (.inr (.inr (0))), some (.inl (a1)), some (.inl (a2)), some (.inl (a3)), some (.inl (a4)), none, none, none, none, none, none, none, none]) rfl ?_
  refine EV.aload_n dX9_middle_0 rfl rfl ?_
  refine EV.iload_n dX9_middle_1 rfl rfl ?_
  obtain ⟨r2, hc1, hf⟩ := pv_c1o hf
  refine EV.invV (As := [.inl (a1)]) (st := []) (d1 := d - 1) (sh1 := pv_SC) (h1 := MC h) (r1 := (some (.inl r2))) dX9_middle_2 sc_0 (by decide) md_X9_hasRod ml_X9_140 im_X9_hasRod se_X9_hasRod (tX9_hasRod (by omega)  hc1) (by omega) rfl rfl (Nat.le_of_ble_eq_true rfl) ⟨[], (List.append_nil _).symm⟩ ?_
  refine EV.eqS (st2 := [.inl (r2)]) rfl ?_
  refine EV.if_eq (tgt := 26) dX9_middle_5 (by decide) (fun q3 => ?_) (fun q3 => ?_)
  · have hf := pv_gp hf q3
    refine EV.weak (L2 := [some (.inr (.inr (0))), none, none, none, none, none, none, none, none, none, none, none, none]) (And.intro rfl trivial) ?_
    exact tX9_middle_26 hd    hf
  · have hf := pv_gn hf q3
    refine EV.iload_n dX9_middle_8 rfl rfl ?_
    obtain ⟨r5, hc4, hf⟩ := pv_c1o hf
    refine EV.invS (As := [.inl (a2)]) (st := []) (d1 := d - 1) (sh1 := pv_SC) (h1 := MC h) (r1 := (some (.inl r5))) dX9_middle_9 md_X9_hasDoings ml_X9_172 st_X9_hasDoings (tX9_hasDoings (by omega)  hc4) (by omega) rfl rfl (Nat.le_of_ble_eq_true rfl) ⟨[], (List.append_nil _).symm⟩ ?_
    refine EV.eqS (st2 := [.inl (r5)]) rfl ?_
    refine EV.if_eq (tgt := 26) dX9_middle_12 (by decide) (fun q6 => ?_) (fun q6 => ?_)
    · have hf := pv_gp hf q6
      refine EV.weak (L2 := [some (.inr (.inr (0))), none, none, none, none, none, none, none, none, none, none, none, none]) (And.intro rfl trivial) ?_
      exact tX9_middle_26 hd    hf
    · have hf := pv_gn hf q6
      refine EV.iload dX9_middle_15 rfl ?_
      refine EV.if_lt (tgt := 26) dX9_middle_17 (by decide) (fun q7 => ?_) (fun q7 => ?_)
      · have hf := pv_gp hf q7
        refine EV.weak (L2 := [some (.inr (.inr (0))), none, none, none, none, none, none, none, none, none, none, none, none]) (And.intro rfl trivial) ?_
        exact tX9_middle_26 hd    hf
      · have hf := pv_gn hf q7
        refine EV.iload dX9_middle_20 rfl ?_
        refine EV.iconst dX9_middle_22 (by decide) (by decide) ?_
        refine EV.icmp_le (tgt := 33) dX9_middle_23 (by decide) (fun q8 => ?_) (fun q8 => ?_)
        · have hf := pv_gp hf q8
          refine EV.iload_n dX9_middle_33 rfl rfl ?_
          obtain ⟨r10, hc9, hf⟩ := pv_c1o hf
          refine EV.invS (As := [.inl (a3)]) (st := []) (d1 := d - 1) (sh1 := pv_SC) (h1 := MC h) (r1 := (some (.inl r10))) dX9_middle_34 md_X9_areSeeds ml_X9_251 st_X9_areSeeds (tX9_areSeeds (by omega)  hc9) (by omega) rfl rfl (Nat.le_of_ble_eq_true rfl) ⟨[], (List.append_nil _).symm⟩ ?_
          refine EV.eqS (st2 := [.inl (r10)]) rfl ?_
          refine EV.if_ne (tgt := 47) dX9_middle_37 (by decide) (fun q11 => ?_) (fun q11 => ?_)
          · have hf := pv_gn hf q11
            refine EV.iconst dX9_middle_47 (by decide) (by decide) ?_
            refine FV.stiw (L2 := [some (.inr (.inr (0))), some (.inl (a1)), some (.inl (a2)), some (.inl (a3)), some (.inl (a4)), some (.inl (0)), none, none, none, none, none, none, none]) dX9_middle_48 (Nat.le_of_ble_eq_true rfl) rfl rfl ?_
            refine EV.iconst dX9_middle_50 (by decide) (by decide) ?_
            refine FV.stiw (L2 := [some (.inr (.inr (0))), some (.inl (a1)), some (.inl (a2)), some (.inl (a3)), some (.inl (a4)), some (.inl (0)), some (.inl (0)), none, none, none, none, none, none]) dX9_middle_51 (Nat.le_of_ble_eq_true rfl) rfl rfl ?_
            refine EV.iconst dX9_middle_53 (by decide) (by decide) ?_
            obtain ⟨x12, ex12, hf⟩ := pv_bo hf
            refine FV.stiw (L2 := [some (.inr (.inr (0))), some (.inl (a1)), some (.inl (a2)), some (.inl (a3)), some (.inl (a4)), some (.inl (0)), some (.inl (0)), some (.inl (x12)), none, none, none, none, none]) dX9_middle_54 (Nat.le_of_ble_eq_true rfl) ex12 rfl ?_
            refine EV.iconst dX9_middle_56 (by decide) (by decide) ?_
            obtain ⟨x13, ex13, hf⟩ := pv_bo hf
            refine FV.stiw (L2 := [some (.inr (.inr (0))), some (.inl (a1)), some (.inl (a2)), some (.inl (a3)), some (.inl (a4)), some (.inl (0)), some (.inl (0)), some (.inl (x12)), some (.inl (x13)), none, none, none, none]) dX9_middle_57 (Nat.le_of_ble_eq_true rfl) ex13 rfl ?_
            refine EV.iconst dX9_middle_59 (by decide) (by decide) ?_
            refine FV.stiw (L2 := [some (.inr (.inr (0))), some (.inl (a1)), some (.inl (a2)), some (.inl (a3)), some (.inl (a4)), some (.inl (0)), some (.inl (0)), some (.inl (x12)), some (.inl (x13)), some (.inl (1)), none, none, none]) dX9_middle_60 (Nat.le_of_ble_eq_true rfl) rfl rfl ?_
            refine EV.weak (L2 := [some (.inr (.inr (0))), some (.inl (a1)), some (.inl (a2)), some (.inl (a3)), some (.inl (a4)), some (.inl (0)), some (.inl (0)), some (.inl (x12)), some (.inl (x13)), some (.inl (1)), none, none, none]) (And.intro rfl (And.intro rfl (And.intro rfl (And.intro rfl (And.intro rfl (And.intro rfl (And.intro rfl (And.intro rfl (And.intro rfl (And.intro rfl trivial)))))))))) ?_
            exact tX9_middle_62 hd   _ _ _ _ _ _  _ hf
          · have hf := pv_gp hf q11
            refine EV.aload_n dX9_middle_40 rfl rfl ?_
            refine EV.bipush dX9_middle_41 (by decide) (by decide) ?_
            obtain ⟨h15, r16, hc14, hf⟩ := pv_c2o hf
            refine EV.invV (As := [.inl (-3)]) (st := []) (d1 := d - 1) (sh1 := pv_SC) (h1 := MC h15) (r1 := (some (.inl r16))) dX9_middle_43 sc_0 (by decide) md_X9_refuse ml_X9_59 im_X9_refuse se_X9_refuse (tX9_refuse (by omega)  hc14) (by omega) rfl rfl (Nat.le_of_ble_eq_true rfl) ⟨[], (List.append_nil _).symm⟩ ?_
            refine EV.eqS (st2 := [.inl (r16)]) rfl ?_
            exact FV.iret dX9_middle_46 hf
        · have hf := pv_gn hf q8
          refine EV.weak (L2 := [some (.inr (.inr (0))), none, none, none, none, none, none, none, none, none, none, none, none]) (And.intro rfl trivial) ?_
          exact tX9_middle_26 hd    hf

noncomputable def fX9_filmed_33 (N : Nat)  (a1 : Int) (a2 : Int) (a3 : Int) (a4 : Int) (a5 : Int)  (h : pv_H) : Option (pv_H × Int) :=
  pv_c2b (fX9_refuse N (-2) h) fun h26 r27 => some (h26, r27)

noncomputable def fX9_filmed_169 (N : Nat)  (a1 : Int) (a2 : Int) (a3 : Int) (a4 : Int) (a5 : Int) (s0 : Int) (h : pv_H) : Option (pv_H × Int) :=
  some (h, s0)

noncomputable def fX9_filmed_151 (N : Nat) (k84 : Int → Int → Int → pv_H → Option (pv_H × Int)) (a1 : Int) (a2 : Int) (a3 : Int) (a4 : Int) (a5 : Int) (v6 : Int) (v7 : Int) (v8 : Int) (h : pv_H) : Option (pv_H × Int) :=
  pv_b (pv_w (v8 + (-1))) fun x43 => k84 (v6) (v7) (x43) h

noncomputable def fX9_filmed_84 (N : Nat)  (a1 : Int) (a2 : Int) (a3 : Int) (a4 : Int) (a5 : Int) : Nat → Int → Int → Int → pv_H → Option (pv_H × Int)
  | 0, _, _, _, _ => none
  | n + 1, v6, v7, v8, h => if v8 < 1 then (if a5 = 0 then (fX9_filmed_169 N  a1 a2 a3 a4 a5 (v6) h) else (fX9_filmed_169 N  a1 a2 a3 a4 a5 (v7) h)) else (if 0 ≤ a1 ∧ a1 < 4 then (pv_b (35 + 6 * (Int.toNat (a1))) fun x31 => if 0 ≤ a2 ∧ a2 < 4 then (pv_b (59 + 4 * (Int.toNat (a2))) fun x33 => pv_c2b (fX1_breakRod N x31 x33 23 v8 h) fun h35 r36 => if 0 ≤ a3 ∧ a3 < 4 then (pv_b (216 + 2 * (Int.toNat (a3))) fun x38 => pv_c1 (fX7_holdsTicks N 79 x38 h35) fun r40 => if r40 = 0 then (fX9_filmed_151 N (fun v6_ v7_ v8_ hh => fX9_filmed_84 N  a1 a2 a3 a4 a5 n v6_ v7_ v8_ hh) a1 a2 a3 a4 a5 (v6) (v7) (v8) h35) else (pv_b (pv_w (v6 + 1)) fun x42 => fX9_filmed_151 N (fun v6_ v7_ v8_ hh => fX9_filmed_84 N  a1 a2 a3 a4 a5 n v6_ v7_ v8_ hh) a1 a2 a3 a4 a5 (x42) (v8) (v8) h35)) else none) else none) else none)

noncomputable def fX9_filmed (N : Nat) (a1 : Int) (a2 : Int) (a3 : Int) (a4 : Int) (a5 : Int) (h : pv_H) : Option (pv_H × Int) :=
  pv_c1 (fX9_hasRod N a1 h) fun r2 => if r2 = 0 then (fX9_filmed_33 N  a1 a2 a3 a4 a5  h) else (pv_c1 (fX9_hasDoings N a2 h) fun r5 => if r5 = 0 then (fX9_filmed_33 N  a1 a2 a3 a4 a5  h) else (pv_c1 (fX9_isRow N a3 h) fun r8 => if r8 = 0 then (fX9_filmed_33 N  a1 a2 a3 a4 a5  h) else (if a5 < 0 then (fX9_filmed_33 N  a1 a2 a3 a4 a5  h) else (if a5 ≤ 1 then (pv_c1 (fX9_areSeeds N a4 h) fun r13 => if r13 = 0 then (pv_c2b (fX9_refuse N (-3) h) fun h23 r24 => some (h23, r24)) else (if 0 ≤ a3 ∧ a3 < 4 then (pv_b (216 + 2 * (Int.toNat (a3))) fun x16 => if (h x16 0) = 0 then (pv_c2b (fX9_refuse N (-6) h) fun h20 r21 => some (h20, r21)) else (pv_b (-1) fun x18 => fX9_filmed_84 N  a1 a2 a3 a4 a5 N (0) (x18) (a4) h)) else none)) else (fX9_filmed_33 N  a1 a2 a3 a4 a5  h)))))

set_option maxHeartbeats 4000000 in
set_option maxRecDepth 20000 in
theorem tX9_filmed_33 {d N : Nat}  {a1 : Int} {a2 : Int} {a3 : Int} {a4 : Int} {a5 : Int}  {h h' : pv_H} {r : Int} (hd : 7 ≤ d)    (hf : fX9_filmed_33 N  a1 a2 a3 a4 a5  h = some (h', r)) : EV RX9 cX9_filmed 9 (some .int) false d pv_SC (MC h') (some (.inl r)) 33 [some (.inr (.inr (0))), none, none, none, none, none, none, none, none] [] pv_SC (MC h) := by
  unfold fX9_filmed_33 at hf
  refine EV.aload_n dX9_filmed_33 rfl rfl ?_
  refine EV.bipush dX9_filmed_34 (by decide) (by decide) ?_
  obtain ⟨h26, r27, hc25, hf⟩ := pv_c2o hf
  refine EV.invV (As := [.inl (-2)]) (st := []) (d1 := d - 1) (sh1 := pv_SC) (h1 := MC h26) (r1 := (some (.inl r27))) dX9_filmed_36 sc_0 (by decide) md_X9_refuse ml_X9_59 im_X9_refuse se_X9_refuse (tX9_refuse (by omega)  hc25) (by omega) rfl rfl (Nat.le_of_ble_eq_true rfl) ⟨[], (List.append_nil _).symm⟩ ?_
  refine EV.eqS (st2 := [.inl (r27)]) rfl ?_
  exact FV.iret dX9_filmed_39 hf

set_option maxHeartbeats 4000000 in
set_option maxRecDepth 20000 in
theorem tX9_filmed_169 {d N : Nat}  {a1 : Int} {a2 : Int} {a3 : Int} {a4 : Int} {a5 : Int} {s0 : Int} {h h' : pv_H} {r : Int} (hd : 7 ≤ d)    (hf : fX9_filmed_169 N  a1 a2 a3 a4 a5 s0 h = some (h', r)) : EV RX9 cX9_filmed 9 (some .int) false d pv_SC (MC h') (some (.inl r)) 169 [none, none, none, none, none, none, none, none, none] [.inl (s0)] pv_SC (MC h) := by
  unfold fX9_filmed_169 at hf
  exact FV.iret dX9_filmed_169 hf

set_option maxHeartbeats 4000000 in
set_option maxRecDepth 20000 in
theorem tX9_filmed_151 {d N : Nat} {k84 : Int → Int → Int → pv_H → Option (pv_H × Int)} {a1 : Int} {a2 : Int} {a3 : Int} {a4 : Int} {a5 : Int} {v6 : Int} {v7 : Int} {v8 : Int} {h h' : pv_H} {r : Int} (hd : 7 ≤ d) (hk84 : ∀ (v6 : Int) (v7 : Int) (v8 : Int)  (hh : pv_H), k84 v6 v7 v8 hh = some (h', r) → EV RX9 cX9_filmed 9 (some .int) false d pv_SC (MC h') (some (.inl r)) 84 [some (.inr (.inr (0))), some (.inl (a1)), some (.inl (a2)), some (.inl (a3)), none, some (.inl (a5)), some (.inl (v6)), some (.inl (v7)), some (.inl (v8))] [] pv_SC (MC hh))   (hf : fX9_filmed_151 N k84 a1 a2 a3 a4 a5 v6 v7 v8 h = some (h', r)) : EV RX9 cX9_filmed 9 (some .int) false d pv_SC (MC h') (some (.inl r)) 151 [some (.inr (.inr (0))), some (.inl (a1)), some (.inl (a2)), some (.inl (a3)), none, some (.inl (a5)), some (.inl (v6)), some (.inl (v7)), some (.inl (v8))] [] pv_SC (MC h) := by
  unfold fX9_filmed_151 at hf
  obtain ⟨x43, ex43, hf⟩ := pv_bo hf
  refine FV.inc (L2 := [some (.inr (.inr (0))), some (.inl (a1)), some (.inl (a2)), some (.inl (a3)), none, some (.inl (a5)), some (.inl (v6)), some (.inl (v7)), some (.inl (x43))]) dX9_filmed_151 rfl (Nat.le_of_ble_eq_true rfl) ex43 rfl ?_
  refine EV.goto (tgt := 84) dX9_filmed_154 (by decide) ?_
  refine EV.weak (L2 := [some (.inr (.inr (0))), some (.inl (a1)), some (.inl (a2)), some (.inl (a3)), none, some (.inl (a5)), some (.inl (v6)), some (.inl (v7)), some (.inl (x43))]) (And.intro rfl (And.intro rfl (And.intro rfl (And.intro rfl (And.intro rfl (And.intro rfl (And.intro rfl (And.intro rfl trivial)))))))) ?_
  exact hk84 _ _ _  _ hf

set_option maxHeartbeats 4000000 in
set_option maxRecDepth 20000 in
theorem tX9_filmed_84 {d N : Nat}  {a1 : Int} {a2 : Int} {a3 : Int} {a4 : Int} {a5 : Int} {h' : pv_H} {r : Int} (hd : 7 ≤ d)   : ∀ (n : Nat) (v6 : Int) (v7 : Int) (v8 : Int)  (h : pv_H), fX9_filmed_84 N  a1 a2 a3 a4 a5 n v6 v7 v8 h = some (h', r) → EV RX9 cX9_filmed 9 (some .int) false d pv_SC (MC h') (some (.inl r)) 84 [some (.inr (.inr (0))), some (.inl (a1)), some (.inl (a2)), some (.inl (a3)), none, some (.inl (a5)), some (.inl (v6)), some (.inl (v7)), some (.inl (v8))] [] pv_SC (MC h) := by
  intro n
  induction n with
  | zero =>
    intro v6 v7 v8  h hf
    cases hf
  | succ n ih =>
    intro v6 v7 v8  h hf
    rw [fX9_filmed_84] at hf
    refine EV.iload dX9_filmed_84 rfl ?_
    refine EV.iconst dX9_filmed_86 (by decide) (by decide) ?_
    refine EV.icmp_lt (tgt := 157) dX9_filmed_87 (by decide) (fun q28 => ?_) (fun q28 => ?_)
    · have hf := pv_gp hf q28
      refine EV.iload dX9_filmed_157 rfl ?_
      refine EV.if_ne (tgt := 167) dX9_filmed_159 (by decide) (fun q29 => ?_) (fun q29 => ?_)
      · have hf := pv_gn hf q29
        refine EV.iload dX9_filmed_167 rfl ?_
        refine EV.weak (L2 := [none, none, none, none, none, none, none, none, none]) trivial ?_
        exact tX9_filmed_169 hd    hf
      · have hf := pv_gp hf q29
        refine EV.iload dX9_filmed_162 rfl ?_
        refine EV.goto (tgt := 169) dX9_filmed_164 (by decide) ?_
        refine EV.weak (L2 := [none, none, none, none, none, none, none, none, none]) trivial ?_
        exact tX9_filmed_169 hd    hf
    · have hf := pv_gn hf q28
      refine EV.aload_n dX9_filmed_90 rfl rfl ?_
      refine FV.getF (v := 78) dX9_filmed_91 sc_0 fl_9_40 rfl rfl hvc_0_5 ?_
      refine EV.aload_n dX9_filmed_94 rfl rfl ?_
      refine FV.getF (v := 20) dX9_filmed_95 sc_0 fl_9_19 rfl rfl hvc_0_1 ?_
      refine FV.getF (v := 21) dX9_filmed_98 sc_20 fl_9_94 rfl rfl hvc_20_2 ?_
      refine EV.iload_n dX9_filmed_101 rfl rfl ?_
      obtain ⟨g30, hf⟩ := pv_gd hf
      obtain ⟨x31, ex31, hf⟩ := pv_bo hf
      have mx31 : x31 ∈ pv_l5 := ex31 ▸ mq_21 _ (by omega)
      refine FV.aald (a := 0) (v := x31) dX9_filmed_102 sc_21 (by decide) g30.1 g30.2 (j := (Int.toNat (a1))) rfl rfl (by rw [hq_21 _ (by omega), ex31]) ?_
      refine EV.aload_n dX9_filmed_103 rfl rfl ?_
      refine FV.getF (v := 20) dX9_filmed_104 sc_0 fl_9_19 rfl rfl hvc_0_1 ?_
      refine FV.getF (v := 22) dX9_filmed_107 sc_20 fl_9_105 rfl rfl hvc_20_3 ?_
      refine EV.iload_n dX9_filmed_110 rfl rfl ?_
      obtain ⟨g32, hf⟩ := pv_gd hf
      obtain ⟨x33, ex33, hf⟩ := pv_bo hf
      have mx33 : x33 ∈ pv_l0 := ex33 ▸ mq_22 _ (by omega)
      refine FV.aald (a := 1) (v := x33) dX9_filmed_111 sc_22 (by decide) g32.1 g32.2 (j := (Int.toNat (a2))) rfl rfl (by rw [hq_22 _ (by omega), ex33]) ?_
      refine EV.aload_n dX9_filmed_112 rfl rfl ?_
      refine FV.getF (v := 20) dX9_filmed_113 sc_0 fl_9_19 rfl rfl hvc_0_1 ?_
      refine FV.getF (v := 23) dX9_filmed_116 sc_20 fl_9_117 rfl rfl hvc_20_4 ?_
      refine EV.iload dX9_filmed_119 rfl ?_
      obtain ⟨h35, r36, hc34, hf⟩ := pv_c2o hf
      refine EV.invV (As := [.inr (.inr (x31)), .inr (.inr (x33)), .inr (.inr (23)), .inl (v8)]) (st := []) (d1 := d - 1) (sh1 := pv_SC) (h1 := MC h35) (r1 := (some (.inl r36))) dX9_filmed_121 sc_78 (by decide) md_X1_breakRod ml_X9_182 im_X1_breakRod se_X1_breakRod (tX1_breakRod (by omega) (mx31) (mx33) ((by decide : 23 ∈ pv_l2)) hc34) (by omega) rfl rfl (Nat.le_of_ble_eq_true rfl) ⟨[], (List.append_nil _).symm⟩ ?_
      refine EV.eqS (st2 := [.inl (r36)]) rfl ?_
      refine EV.pop dX9_filmed_124 rfl ?_
      refine EV.aload_n dX9_filmed_125 rfl rfl ?_
      refine FV.getF (v := 78) dX9_filmed_126 sc_0 fl_9_40 rfl rfl hvc_0_5 ?_
      refine FV.getF (v := 79) dX9_filmed_129 sc_78 fl_9_190 rfl rfl hvc_78_0 ?_
      refine EV.aload_n dX9_filmed_132 rfl rfl ?_
      refine FV.getF (v := 76) dX9_filmed_133 sc_0 fl_9_29 rfl rfl hvc_0_3 ?_
      refine EV.iload_n dX9_filmed_136 rfl rfl ?_
      obtain ⟨g37, hf⟩ := pv_gd hf
      obtain ⟨x38, ex38, hf⟩ := pv_bo hf
      have mx38 : x38 ∈ pv_l6 := ex38 ▸ mq_76 _ (by omega)
      refine FV.aald (a := 3) (v := x38) dX9_filmed_137 sc_76 (by decide) g37.1 g37.2 (j := (Int.toNat (a3))) rfl rfl (by rw [hq_76 _ (by omega), ex38]) ?_
      obtain ⟨r40, hc39, hf⟩ := pv_c1o hf
      refine EV.invV (As := [.inr (.inr (x38))]) (st := []) (d1 := d - 1) (sh1 := pv_SC) (h1 := MC h35) (r1 := (some (.inl r40))) dX9_filmed_138 sc_79 (by decide) md_X7_holdsTicks ml_X9_226 im_X7_holdsTicks se_X7_holdsTicks (tX7_holdsTicks (by omega) ((by decide : 79 ∈ pv_l7)) (mx38) hc39) (by omega) rfl rfl (Nat.le_of_ble_eq_true rfl) ⟨[], (List.append_nil _).symm⟩ ?_
      refine EV.eqS (st2 := [.inl (r40)]) rfl ?_
      refine EV.if_eq (tgt := 151) dX9_filmed_141 (by decide) (fun q41 => ?_) (fun q41 => ?_)
      · have hf := pv_gp hf q41
        refine EV.weak (L2 := [some (.inr (.inr (0))), some (.inl (a1)), some (.inl (a2)), some (.inl (a3)), none, some (.inl (a5)), some (.inl (v6)), some (.inl (v7)), some (.inl (v8))]) (And.intro rfl (And.intro rfl (And.intro rfl (And.intro rfl (And.intro rfl (And.intro rfl (And.intro rfl (And.intro rfl trivial)))))))) ?_
        exact tX9_filmed_151 hd (ih)   hf
      · have hf := pv_gn hf q41
        obtain ⟨x42, ex42, hf⟩ := pv_bo hf
        refine FV.inc (L2 := [some (.inr (.inr (0))), some (.inl (a1)), some (.inl (a2)), some (.inl (a3)), none, some (.inl (a5)), some (.inl (x42)), some (.inl (v7)), some (.inl (v8))]) dX9_filmed_144 rfl (Nat.le_of_ble_eq_true rfl) ex42 rfl ?_
        refine EV.iload dX9_filmed_147 rfl ?_
        refine FV.stiw (L2 := [some (.inr (.inr (0))), some (.inl (a1)), some (.inl (a2)), some (.inl (a3)), none, some (.inl (a5)), some (.inl (x42)), some (.inl (v8)), some (.inl (v8))]) dX9_filmed_149 (Nat.le_of_ble_eq_true rfl) rfl rfl ?_
        refine EV.weak (L2 := [some (.inr (.inr (0))), some (.inl (a1)), some (.inl (a2)), some (.inl (a3)), none, some (.inl (a5)), some (.inl (x42)), some (.inl (v8)), some (.inl (v8))]) (And.intro rfl (And.intro rfl (And.intro rfl (And.intro rfl (And.intro rfl (And.intro rfl (And.intro rfl (And.intro rfl trivial)))))))) ?_
        exact tX9_filmed_151 hd (ih)   hf

set_option maxHeartbeats 4000000 in
set_option maxRecDepth 20000 in
theorem tX9_filmed {d N : Nat} {a1 : Int} {a2 : Int} {a3 : Int} {a4 : Int} {a5 : Int} {h h' : pv_H} {r : Int} (hd : 7 ≤ d)  (hf : fX9_filmed N a1 a2 a3 a4 a5 h = some (h', r)) : CALL yX9_filmed cX9_filmed 9 (some .int) d pv_SC (MC h) [.inr (.inr (0)), .inl (a1), .inl (a2), .inl (a3), .inl (a4), .inl (a5)] pv_SC (MC h') (some (.inl r)) := by
  unfold fX9_filmed at hf
  refine EV.call (own := RX9) (ini := false) rfl rfl (fun q => by cases q) ⟨[], (List.append_nil _).symm⟩ (Nat.le_of_ble_eq_true rfl) ?_
  refine EV.eqL (L2 := [some (.inr (.inr (0))), some (.inl (a1)), some (.inl (a2)), some (.inl (a3)), some (.inl (a4)), some (.inl (a5)), none, none, none]) rfl ?_
  refine EV.aload_n dX9_filmed_0 rfl rfl ?_
  refine EV.iload_n dX9_filmed_1 rfl rfl ?_
  obtain ⟨r2, hc1, hf⟩ := pv_c1o hf
  refine EV.invV (As := [.inl (a1)]) (st := []) (d1 := d - 1) (sh1 := pv_SC) (h1 := MC h) (r1 := (some (.inl r2))) dX9_filmed_2 sc_0 (by decide) md_X9_hasRod ml_X9_140 im_X9_hasRod se_X9_hasRod (tX9_hasRod (by omega)  hc1) (by omega) rfl rfl (Nat.le_of_ble_eq_true rfl) ⟨[], (List.append_nil _).symm⟩ ?_
  refine EV.eqS (st2 := [.inl (r2)]) rfl ?_
  refine EV.if_eq (tgt := 33) dX9_filmed_5 (by decide) (fun q3 => ?_) (fun q3 => ?_)
  · have hf := pv_gp hf q3
    refine EV.weak (L2 := [some (.inr (.inr (0))), none, none, none, none, none, none, none, none]) (And.intro rfl trivial) ?_
    exact tX9_filmed_33 hd    hf
  · have hf := pv_gn hf q3
    refine EV.iload_n dX9_filmed_8 rfl rfl ?_
    obtain ⟨r5, hc4, hf⟩ := pv_c1o hf
    refine EV.invS (As := [.inl (a2)]) (st := []) (d1 := d - 1) (sh1 := pv_SC) (h1 := MC h) (r1 := (some (.inl r5))) dX9_filmed_9 md_X9_hasDoings ml_X9_172 st_X9_hasDoings (tX9_hasDoings (by omega)  hc4) (by omega) rfl rfl (Nat.le_of_ble_eq_true rfl) ⟨[], (List.append_nil _).symm⟩ ?_
    refine EV.eqS (st2 := [.inl (r5)]) rfl ?_
    refine EV.if_eq (tgt := 33) dX9_filmed_12 (by decide) (fun q6 => ?_) (fun q6 => ?_)
    · have hf := pv_gp hf q6
      refine EV.weak (L2 := [some (.inr (.inr (0))), none, none, none, none, none, none, none, none]) (And.intro rfl trivial) ?_
      exact tX9_filmed_33 hd    hf
    · have hf := pv_gn hf q6
      refine EV.iload_n dX9_filmed_15 rfl rfl ?_
      obtain ⟨r8, hc7, hf⟩ := pv_c1o hf
      refine EV.invS (As := [.inl (a3)]) (st := []) (d1 := d - 1) (sh1 := pv_SC) (h1 := MC h) (r1 := (some (.inl r8))) dX9_filmed_16 md_X9_isRow ml_X9_220 st_X9_isRow (tX9_isRow (by omega)  hc7) (by omega) rfl rfl (Nat.le_of_ble_eq_true rfl) ⟨[], (List.append_nil _).symm⟩ ?_
      refine EV.eqS (st2 := [.inl (r8)]) rfl ?_
      refine EV.if_eq (tgt := 33) dX9_filmed_19 (by decide) (fun q9 => ?_) (fun q9 => ?_)
      · have hf := pv_gp hf q9
        refine EV.weak (L2 := [some (.inr (.inr (0))), none, none, none, none, none, none, none, none]) (And.intro rfl trivial) ?_
        exact tX9_filmed_33 hd    hf
      · have hf := pv_gn hf q9
        refine EV.iload dX9_filmed_22 rfl ?_
        refine EV.if_lt (tgt := 33) dX9_filmed_24 (by decide) (fun q10 => ?_) (fun q10 => ?_)
        · have hf := pv_gp hf q10
          refine EV.weak (L2 := [some (.inr (.inr (0))), none, none, none, none, none, none, none, none]) (And.intro rfl trivial) ?_
          exact tX9_filmed_33 hd    hf
        · have hf := pv_gn hf q10
          refine EV.iload dX9_filmed_27 rfl ?_
          refine EV.iconst dX9_filmed_29 (by decide) (by decide) ?_
          refine EV.icmp_le (tgt := 40) dX9_filmed_30 (by decide) (fun q11 => ?_) (fun q11 => ?_)
          · have hf := pv_gp hf q11
            refine EV.iload dX9_filmed_40 rfl ?_
            obtain ⟨r13, hc12, hf⟩ := pv_c1o hf
            refine EV.invS (As := [.inl (a4)]) (st := []) (d1 := d - 1) (sh1 := pv_SC) (h1 := MC h) (r1 := (some (.inl r13))) dX9_filmed_42 md_X9_areSeeds ml_X9_251 st_X9_areSeeds (tX9_areSeeds (by omega)  hc12) (by omega) rfl rfl (Nat.le_of_ble_eq_true rfl) ⟨[], (List.append_nil _).symm⟩ ?_
            refine EV.eqS (st2 := [.inl (r13)]) rfl ?_
            refine EV.if_ne (tgt := 55) dX9_filmed_45 (by decide) (fun q14 => ?_) (fun q14 => ?_)
            · have hf := pv_gn hf q14
              refine EV.aload_n dX9_filmed_55 rfl rfl ?_
              refine FV.getF (v := 76) dX9_filmed_56 sc_0 fl_9_29 rfl rfl hvc_0_3 ?_
              refine EV.iload_n dX9_filmed_59 rfl rfl ?_
              obtain ⟨g15, hf⟩ := pv_gd hf
              obtain ⟨x16, ex16, hf⟩ := pv_bo hf
              have mx16 : x16 ∈ pv_l6 := ex16 ▸ mq_76 _ (by omega)
              refine FV.aald (a := 3) (v := x16) dX9_filmed_60 sc_76 (by decide) g15.1 g15.2 (j := (Int.toNat (a3))) rfl rfl (by rw [hq_76 _ (by omega), ex16]) ?_
              refine FV.getI dX9_filmed_61 (sl6_0 _ mx16) fl_9_223 rfl ?_
              refine EV.if_ne (tgt := 74) dX9_filmed_64 (by decide) (fun q17 => ?_) (fun q17 => ?_)
              · have hf := pv_gn hf q17
                refine EV.iconst dX9_filmed_74 (by decide) (by decide) ?_
                refine FV.stiw (L2 := [some (.inr (.inr (0))), some (.inl (a1)), some (.inl (a2)), some (.inl (a3)), some (.inl (a4)), some (.inl (a5)), some (.inl (0)), none, none]) dX9_filmed_75 (Nat.le_of_ble_eq_true rfl) rfl rfl ?_
                refine EV.iconst dX9_filmed_77 (by decide) (by decide) ?_
                obtain ⟨x18, ex18, hf⟩ := pv_bo hf
                refine FV.stiw (L2 := [some (.inr (.inr (0))), some (.inl (a1)), some (.inl (a2)), some (.inl (a3)), some (.inl (a4)), some (.inl (a5)), some (.inl (0)), some (.inl (x18)), none]) dX9_filmed_78 (Nat.le_of_ble_eq_true rfl) ex18 rfl ?_
                refine EV.iload dX9_filmed_80 rfl ?_
                refine FV.stiw (L2 := [some (.inr (.inr (0))), some (.inl (a1)), some (.inl (a2)), some (.inl (a3)), some (.inl (a4)), some (.inl (a5)), some (.inl (0)), some (.inl (x18)), some (.inl (a4))]) dX9_filmed_82 (Nat.le_of_ble_eq_true rfl) rfl rfl ?_
                refine EV.weak (L2 := [some (.inr (.inr (0))), some (.inl (a1)), some (.inl (a2)), some (.inl (a3)), none, some (.inl (a5)), some (.inl (0)), some (.inl (x18)), some (.inl (a4))]) (And.intro rfl (And.intro rfl (And.intro rfl (And.intro rfl (And.intro rfl (And.intro rfl (And.intro rfl (And.intro rfl trivial)))))))) ?_
                exact tX9_filmed_84 hd   _ _ _ _  _ hf
              · have hf := pv_gp hf q17
                refine EV.aload_n dX9_filmed_67 rfl rfl ?_
                refine EV.bipush dX9_filmed_68 (by decide) (by decide) ?_
                obtain ⟨h20, r21, hc19, hf⟩ := pv_c2o hf
                refine EV.invV (As := [.inl (-6)]) (st := []) (d1 := d - 1) (sh1 := pv_SC) (h1 := MC h20) (r1 := (some (.inl r21))) dX9_filmed_70 sc_0 (by decide) md_X9_refuse ml_X9_59 im_X9_refuse se_X9_refuse (tX9_refuse (by omega)  hc19) (by omega) rfl rfl (Nat.le_of_ble_eq_true rfl) ⟨[], (List.append_nil _).symm⟩ ?_
                refine EV.eqS (st2 := [.inl (r21)]) rfl ?_
                exact FV.iret dX9_filmed_73 hf
            · have hf := pv_gp hf q14
              refine EV.aload_n dX9_filmed_48 rfl rfl ?_
              refine EV.bipush dX9_filmed_49 (by decide) (by decide) ?_
              obtain ⟨h23, r24, hc22, hf⟩ := pv_c2o hf
              refine EV.invV (As := [.inl (-3)]) (st := []) (d1 := d - 1) (sh1 := pv_SC) (h1 := MC h23) (r1 := (some (.inl r24))) dX9_filmed_51 sc_0 (by decide) md_X9_refuse ml_X9_59 im_X9_refuse se_X9_refuse (tX9_refuse (by omega)  hc22) (by omega) rfl rfl (Nat.le_of_ble_eq_true rfl) ⟨[], (List.append_nil _).symm⟩ ?_
              refine EV.eqS (st2 := [.inl (r24)]) rfl ?_
              exact FV.iret dX9_filmed_54 hf
          · have hf := pv_gn hf q11
            refine EV.weak (L2 := [some (.inr (.inr (0))), none, none, none, none, none, none, none, none]) (And.intro rfl trivial) ?_
            exact tX9_filmed_33 hd    hf

noncomputable def fX9_swapped_15 (N : Nat)  (a1 : Int) (a2 : Int) (a3 : Int)  (h : pv_H) : Option (pv_H × Int) :=
  pv_c2b (fX9_refuse N (-2) h) fun h13 r14 => some (h13, r14)

noncomputable def fX9_swapped_60 (N : Nat)  (a1 : Int) (a2 : Int) (a3 : Int) : Nat → Nat → Int → pv_H → Option (pv_H × Int)
  | 0, _, _, _ => none
  | n + 1, v4, v5, h => if (h v4 0) ≤ v5 then (if 0 ≤ a2 ∧ a2 < 4 then (pv_b (59 + 4 * (Int.toNat (a2))) fun x17 => pv_c2b (fX1_breakRod N 99 x17 23 a3 h) fun h19 r20 => some (h19, r20)) else none) else (pv_c1 (fX5_takeCell N 99 v5 v4 (pv_w ((pv_w ((h v4 0) - 1)) - v5)) h) fun h22 => pv_b (pv_w (v5 + 1)) fun x23 => fX9_swapped_60 N  a1 a2 a3 n (v4) (x23) h22)

noncomputable def fX9_swapped (N : Nat) (a1 : Int) (a2 : Int) (a3 : Int) (h : pv_H) : Option (pv_H × Int) :=
  pv_c1 (fX9_hasRod N a1 h) fun r2 => if r2 = 0 then (fX9_swapped_15 N  a1 a2 a3  h) else (pv_c1 (fX9_hasDoings N a2 h) fun r5 => if r5 = 0 then (fX9_swapped_15 N  a1 a2 a3  h) else (if 0 ≤ a1 ∧ a1 < 4 then (pv_b (35 + 6 * (Int.toNat (a1))) fun x8 => pv_c1 (fX5_begin N 99 (h x8 0) h) fun h10 => pv_b (pv_up h10 99 1 (h10 x8 1)) fun h11 => fX9_swapped_60 N  a1 a2 a3 N (x8) (0) h11) else none))

set_option maxHeartbeats 4000000 in
set_option maxRecDepth 20000 in
theorem tX9_swapped_15 {d N : Nat}  {a1 : Int} {a2 : Int} {a3 : Int}  {h h' : pv_H} {r : Int} (hd : 7 ≤ d)    (hf : fX9_swapped_15 N  a1 a2 a3  h = some (h', r)) : EV RX9 cX9_swapped 6 (some .int) false d pv_SC (MC h') (some (.inl r)) 15 [some (.inr (.inr (0))), none, none, none, none, none] [] pv_SC (MC h) := by
  unfold fX9_swapped_15 at hf
  refine EV.aload_n dX9_swapped_15 rfl rfl ?_
  refine EV.bipush dX9_swapped_16 (by decide) (by decide) ?_
  obtain ⟨h13, r14, hc12, hf⟩ := pv_c2o hf
  refine EV.invV (As := [.inl (-2)]) (st := []) (d1 := d - 1) (sh1 := pv_SC) (h1 := MC h13) (r1 := (some (.inl r14))) dX9_swapped_18 sc_0 (by decide) md_X9_refuse ml_X9_59 im_X9_refuse se_X9_refuse (tX9_refuse (by omega)  hc12) (by omega) rfl rfl (Nat.le_of_ble_eq_true rfl) ⟨[], (List.append_nil _).symm⟩ ?_
  refine EV.eqS (st2 := [.inl (r14)]) rfl ?_
  exact FV.iret dX9_swapped_21 hf

set_option maxHeartbeats 4000000 in
set_option maxRecDepth 20000 in
theorem tX9_swapped_60 {d N : Nat}  {a1 : Int} {a2 : Int} {a3 : Int} {h' : pv_H} {r : Int} (hd : 7 ≤ d)   : ∀ (n : Nat) (v4 : Nat) (v5 : Int) (mv4 : v4 ∈ pv_l5) (h : pv_H), fX9_swapped_60 N  a1 a2 a3 n v4 v5 h = some (h', r) → EV RX9 cX9_swapped 6 (some .int) false d pv_SC (MC h') (some (.inl r)) 60 [some (.inr (.inr (0))), none, some (.inl (a2)), some (.inl (a3)), some (.inr (.inr (v4))), some (.inl (v5))] [] pv_SC (MC h) := by
  intro n
  induction n with
  | zero =>
    intro v4 v5 mv4 h hf
    cases hf
  | succ n ih =>
    intro v4 v5 mv4 h hf
    rw [fX9_swapped_60] at hf
    refine EV.iload dX9_swapped_60 rfl ?_
    refine EV.aload dX9_swapped_62 rfl ?_
    refine FV.getI dX9_swapped_64 (sl5_0 _ mv4) fl_9_144 rfl ?_
    refine EV.icmp_ge (tgt := 97) dX9_swapped_67 (by decide) (fun q15 => ?_) (fun q15 => ?_)
    · have hf := pv_gp hf q15
      refine EV.aload_n dX9_swapped_97 rfl rfl ?_
      refine FV.getF (v := 78) dX9_swapped_98 sc_0 fl_9_40 rfl rfl hvc_0_5 ?_
      refine EV.aload_n dX9_swapped_101 rfl rfl ?_
      refine FV.getF (v := 99) dX9_swapped_102 sc_0 fl_9_47 rfl rfl hvc_0_6 ?_
      refine EV.aload_n dX9_swapped_105 rfl rfl ?_
      refine FV.getF (v := 20) dX9_swapped_106 sc_0 fl_9_19 rfl rfl hvc_0_1 ?_
      refine FV.getF (v := 22) dX9_swapped_109 sc_20 fl_9_105 rfl rfl hvc_20_3 ?_
      refine EV.iload_n dX9_swapped_112 rfl rfl ?_
      obtain ⟨g16, hf⟩ := pv_gd hf
      obtain ⟨x17, ex17, hf⟩ := pv_bo hf
      have mx17 : x17 ∈ pv_l0 := ex17 ▸ mq_22 _ (by omega)
      refine FV.aald (a := 1) (v := x17) dX9_swapped_113 sc_22 (by decide) g16.1 g16.2 (j := (Int.toNat (a2))) rfl rfl (by rw [hq_22 _ (by omega), ex17]) ?_
      refine EV.aload_n dX9_swapped_114 rfl rfl ?_
      refine FV.getF (v := 20) dX9_swapped_115 sc_0 fl_9_19 rfl rfl hvc_0_1 ?_
      refine FV.getF (v := 23) dX9_swapped_118 sc_20 fl_9_117 rfl rfl hvc_20_4 ?_
      refine EV.iload_n dX9_swapped_121 rfl rfl ?_
      obtain ⟨h19, r20, hc18, hf⟩ := pv_c2o hf
      refine EV.invV (As := [.inr (.inr (99)), .inr (.inr (x17)), .inr (.inr (23)), .inl (a3)]) (st := []) (d1 := d - 1) (sh1 := pv_SC) (h1 := MC h19) (r1 := (some (.inl r20))) dX9_swapped_122 sc_78 (by decide) md_X1_breakRod ml_X9_182 im_X1_breakRod se_X1_breakRod (tX1_breakRod (by omega) ((by decide : 99 ∈ pv_l5)) (mx17) ((by decide : 23 ∈ pv_l2)) hc18) (by omega) rfl rfl (Nat.le_of_ble_eq_true rfl) ⟨[], (List.append_nil _).symm⟩ ?_
      refine EV.eqS (st2 := [.inl (r20)]) rfl ?_
      exact FV.iret dX9_swapped_125 hf
    · have hf := pv_gn hf q15
      refine EV.aload_n dX9_swapped_70 rfl rfl ?_
      refine FV.getF (v := 99) dX9_swapped_71 sc_0 fl_9_47 rfl rfl hvc_0_6 ?_
      refine EV.iload dX9_swapped_74 rfl ?_
      refine EV.aload dX9_swapped_76 rfl ?_
      refine EV.aload dX9_swapped_78 rfl ?_
      refine FV.getI dX9_swapped_80 (sl5_0 _ mv4) fl_9_144 rfl ?_
      refine EV.iconst dX9_swapped_83 (by decide) (by decide) ?_
      refine EV.isub dX9_swapped_84 ?_
      refine EV.iload dX9_swapped_85 rfl ?_
      refine EV.isub dX9_swapped_87 ?_
      obtain ⟨h22, hc21, hf⟩ := pv_c1o hf
      refine EV.invV (As := [.inl (v5), .inr (.inr (v4)), .inl (pv_w ((pv_w ((h v4 0) - 1)) - v5))]) (st := []) (d1 := d - 1) (sh1 := pv_SC) (h1 := MC h22) (r1 := none) dX9_swapped_88 sc_99 (by decide) md_X5_takeCell ml_X9_276 im_X5_takeCell se_X5_takeCell (tX5_takeCell (by omega) ((by decide : 99 ∈ pv_l5)) (mv4) hc21) (by omega) rfl rfl (Nat.le_of_ble_eq_true rfl) ⟨[], (List.append_nil _).symm⟩ ?_
      obtain ⟨x23, ex23, hf⟩ := pv_bo hf
      refine FV.inc (L2 := [some (.inr (.inr (0))), none, some (.inl (a2)), some (.inl (a3)), some (.inr (.inr (v4))), some (.inl (x23))]) dX9_swapped_91 rfl (Nat.le_of_ble_eq_true rfl) ex23 rfl ?_
      refine EV.goto (tgt := 60) dX9_swapped_94 (by decide) ?_
      refine EV.weak (L2 := [some (.inr (.inr (0))), none, some (.inl (a2)), some (.inl (a3)), some (.inr (.inr (v4))), some (.inl (x23))]) (And.intro rfl (And.intro rfl (And.intro rfl (And.intro rfl (And.intro rfl trivial))))) ?_
      exact ih _ _ (mv4) _ hf

set_option maxHeartbeats 4000000 in
set_option maxRecDepth 20000 in
theorem tX9_swapped {d N : Nat} {a1 : Int} {a2 : Int} {a3 : Int} {h h' : pv_H} {r : Int} (hd : 7 ≤ d)  (hf : fX9_swapped N a1 a2 a3 h = some (h', r)) : CALL yX9_swapped cX9_swapped 6 (some .int) d pv_SC (MC h) [.inr (.inr (0)), .inl (a1), .inl (a2), .inl (a3)] pv_SC (MC h') (some (.inl r)) := by
  unfold fX9_swapped at hf
  refine EV.call (own := RX9) (ini := false) rfl rfl (fun q => by cases q) ⟨[], (List.append_nil _).symm⟩ (Nat.le_of_ble_eq_true rfl) ?_
  refine EV.eqL (L2 := [some (.inr (.inr (0))), some (.inl (a1)), some (.inl (a2)), some (.inl (a3)), none, none]) rfl ?_
  refine EV.aload_n dX9_swapped_0 rfl rfl ?_
  refine EV.iload_n dX9_swapped_1 rfl rfl ?_
  obtain ⟨r2, hc1, hf⟩ := pv_c1o hf
  refine EV.invV (As := [.inl (a1)]) (st := []) (d1 := d - 1) (sh1 := pv_SC) (h1 := MC h) (r1 := (some (.inl r2))) dX9_swapped_2 sc_0 (by decide) md_X9_hasRod ml_X9_140 im_X9_hasRod se_X9_hasRod (tX9_hasRod (by omega)  hc1) (by omega) rfl rfl (Nat.le_of_ble_eq_true rfl) ⟨[], (List.append_nil _).symm⟩ ?_
  refine EV.eqS (st2 := [.inl (r2)]) rfl ?_
  refine EV.if_eq (tgt := 15) dX9_swapped_5 (by decide) (fun q3 => ?_) (fun q3 => ?_)
  · have hf := pv_gp hf q3
    refine EV.weak (L2 := [some (.inr (.inr (0))), none, none, none, none, none]) (And.intro rfl trivial) ?_
    exact tX9_swapped_15 hd    hf
  · have hf := pv_gn hf q3
    refine EV.iload_n dX9_swapped_8 rfl rfl ?_
    obtain ⟨r5, hc4, hf⟩ := pv_c1o hf
    refine EV.invS (As := [.inl (a2)]) (st := []) (d1 := d - 1) (sh1 := pv_SC) (h1 := MC h) (r1 := (some (.inl r5))) dX9_swapped_9 md_X9_hasDoings ml_X9_172 st_X9_hasDoings (tX9_hasDoings (by omega)  hc4) (by omega) rfl rfl (Nat.le_of_ble_eq_true rfl) ⟨[], (List.append_nil _).symm⟩ ?_
    refine EV.eqS (st2 := [.inl (r5)]) rfl ?_
    refine EV.if_ne (tgt := 22) dX9_swapped_12 (by decide) (fun q6 => ?_) (fun q6 => ?_)
    · have hf := pv_gn hf q6
      refine EV.aload_n dX9_swapped_22 rfl rfl ?_
      refine FV.getF (v := 20) dX9_swapped_23 sc_0 fl_9_19 rfl rfl hvc_0_1 ?_
      refine FV.getF (v := 21) dX9_swapped_26 sc_20 fl_9_94 rfl rfl hvc_20_2 ?_
      refine EV.iload_n dX9_swapped_29 rfl rfl ?_
      obtain ⟨g7, hf⟩ := pv_gd hf
      obtain ⟨x8, ex8, hf⟩ := pv_bo hf
      have mx8 : x8 ∈ pv_l5 := ex8 ▸ mq_21 _ (by omega)
      refine FV.aald (a := 0) (v := x8) dX9_swapped_30 sc_21 (by decide) g7.1 g7.2 (j := (Int.toNat (a1))) rfl rfl (by rw [hq_21 _ (by omega), ex8]) ?_
      refine FV.staw (L2 := [some (.inr (.inr (0))), some (.inl (a1)), some (.inl (a2)), some (.inl (a3)), some (.inr (.inr (x8))), none]) dX9_swapped_31 (Nat.le_of_ble_eq_true rfl) rfl rfl ?_
      refine EV.aload_n dX9_swapped_33 rfl rfl ?_
      refine FV.getF (v := 99) dX9_swapped_34 sc_0 fl_9_47 rfl rfl hvc_0_6 ?_
      refine EV.aload dX9_swapped_37 rfl ?_
      refine FV.getI dX9_swapped_39 (sl5_0 _ mx8) fl_9_144 rfl ?_
      obtain ⟨h10, hc9, hf⟩ := pv_c1o hf
      refine EV.invV (As := [.inl (h x8 0)]) (st := []) (d1 := d - 1) (sh1 := pv_SC) (h1 := MC h10) (r1 := none) dX9_swapped_42 sc_99 (by decide) md_X5_begin ml_X9_275 im_X5_begin se_X5_begin (tX5_begin (by omega) ((by decide : 99 ∈ pv_l5)) hc9) (by omega) rfl rfl (Nat.le_of_ble_eq_true rfl) ⟨[], (List.append_nil _).symm⟩ ?_
      refine EV.aload_n dX9_swapped_45 rfl rfl ?_
      refine FV.getF (v := 99) dX9_swapped_46 sc_0 fl_9_47 rfl rfl hvc_0_6 ?_
      refine EV.aload dX9_swapped_49 rfl ?_
      refine FV.getI dX9_swapped_51 (sl5_0 _ mx8) fl_9_147 rfl ?_
      obtain ⟨h11, eh11, hf⟩ := pv_bo hf
      refine FV.putI dX9_swapped_54 sc_99 fl_9_147 rfl rfl eh11 ?_
      refine EV.iconst dX9_swapped_57 (by decide) (by decide) ?_
      refine FV.stiw (L2 := [some (.inr (.inr (0))), some (.inl (a1)), some (.inl (a2)), some (.inl (a3)), some (.inr (.inr (x8))), some (.inl (0))]) dX9_swapped_58 (Nat.le_of_ble_eq_true rfl) rfl rfl ?_
      refine EV.weak (L2 := [some (.inr (.inr (0))), none, some (.inl (a2)), some (.inl (a3)), some (.inr (.inr (x8))), some (.inl (0))]) (And.intro rfl (And.intro rfl (And.intro rfl (And.intro rfl (And.intro rfl trivial))))) ?_
      exact tX9_swapped_60 hd   _ _ _ (mx8) _ hf
    · have hf := pv_gp hf q6
      refine EV.weak (L2 := [some (.inr (.inr (0))), none, none, none, none, none]) (And.intro rfl trivial) ?_
      exact tX9_swapped_15 hd    hf

noncomputable def fX9_grid_15 (N : Nat)  (a1 : Int) (a2 : Int) (a3 : Int)  (h : pv_H) : Option (pv_H × Int) :=
  pv_c2b (fX9_refuse N (-2) h) fun h12 r13 => some (h12, r13)

noncomputable def fX9_grid_107 (N : Nat) (k52 : Int → Int → pv_H → Option (pv_H × Int)) (k80 : Int → Int → Int → pv_H → Option (pv_H × Int)) (a1 : Int) (a2 : Int) (a3 : Int) (v4 : Int) (v5 : Int) (v6 : Int) (h : pv_H) : Option (pv_H × Int) :=
  pv_b (pv_w (v6 + 1)) fun x26 => k80 (v4) (v5) (x26) h

noncomputable def fX9_grid_80 (N : Nat) (k52 : Int → Int → pv_H → Option (pv_H × Int)) (a1 : Int) (a2 : Int) (a3 : Int) : Nat → Int → Int → Int → pv_H → Option (pv_H × Int)
  | 0, _, _, _, _ => none
  | n + 1, v4, v5, v6, h => if 20 ≤ v6 then (pv_b (pv_w (v5 + 1)) fun x20 => k52 (v4) (x20) h) else (pv_c2b (fX1_sendWaves N (pv_w (v6 * 50)) 0 h) fun h22 r23 => if r23 = 2 then (pv_b (pv_w (v4 + 1)) fun x25 => fX9_grid_107 N (k52) (fun v4_ v5_ v6_ hh => fX9_grid_80 N k52 a1 a2 a3 n v4_ v5_ v6_ hh) a1 a2 a3 (x25) (v5) (v6) h22) else (fX9_grid_107 N (k52) (fun v4_ v5_ v6_ hh => fX9_grid_80 N k52 a1 a2 a3 n v4_ v5_ v6_ hh) a1 a2 a3 (v4) (v5) (v6) h22))

noncomputable def fX9_grid_52 (N : Nat)  (a1 : Int) (a2 : Int) (a3 : Int) : Nat → Int → Int → pv_H → Option (pv_H × Int)
  | 0, _, _, _ => none
  | n + 1, v4, v5, h => if 9 < v5 then (some (h, v4)) else (if 0 ≤ a2 ∧ a2 < 4 then (pv_b (59 + 4 * (Int.toNat (a2))) fun x16 => pv_c1 (fX1_bendBy N x16 v5 h) fun h18 => fX9_grid_80 N (fun v4_ v5_ hh => fX9_grid_52 N  a1 a2 a3 n v4_ v5_ hh) a1 a2 a3 N (v4) (v5) (0) h18) else none)

noncomputable def fX9_grid (N : Nat) (a1 : Int) (a2 : Int) (a3 : Int) (h : pv_H) : Option (pv_H × Int) :=
  pv_c1 (fX9_hasRod N a1 h) fun r2 => if r2 = 0 then (fX9_grid_15 N  a1 a2 a3  h) else (pv_c1 (fX9_hasDoings N a2 h) fun r5 => if r5 = 0 then (fX9_grid_15 N  a1 a2 a3  h) else (if 0 ≤ a1 ∧ a1 < 4 then (pv_b (35 + 6 * (Int.toNat (a1))) fun x8 => pv_c1 (fX1_take N x8 23 a3 h) fun h10 => fX9_grid_52 N  a1 a2 a3 N (0) (1) h10) else none))

set_option maxHeartbeats 4000000 in
set_option maxRecDepth 20000 in
theorem tX9_grid_15 {d N : Nat}  {a1 : Int} {a2 : Int} {a3 : Int}  {h h' : pv_H} {r : Int} (hd : 6 ≤ d)    (hf : fX9_grid_15 N  a1 a2 a3  h = some (h', r)) : EV RX9 cX9_grid 7 (some .int) false d pv_SC (MC h') (some (.inl r)) 15 [some (.inr (.inr (0))), none, none, none, none, none, none] [] pv_SC (MC h) := by
  unfold fX9_grid_15 at hf
  refine EV.aload_n dX9_grid_15 rfl rfl ?_
  refine EV.bipush dX9_grid_16 (by decide) (by decide) ?_
  obtain ⟨h12, r13, hc11, hf⟩ := pv_c2o hf
  refine EV.invV (As := [.inl (-2)]) (st := []) (d1 := d - 1) (sh1 := pv_SC) (h1 := MC h12) (r1 := (some (.inl r13))) dX9_grid_18 sc_0 (by decide) md_X9_refuse ml_X9_59 im_X9_refuse se_X9_refuse (tX9_refuse (by omega)  hc11) (by omega) rfl rfl (Nat.le_of_ble_eq_true rfl) ⟨[], (List.append_nil _).symm⟩ ?_
  refine EV.eqS (st2 := [.inl (r13)]) rfl ?_
  exact FV.iret dX9_grid_21 hf

set_option maxHeartbeats 4000000 in
set_option maxRecDepth 20000 in
theorem tX9_grid_107 {d N : Nat} {k52 : Int → Int → pv_H → Option (pv_H × Int)} {k80 : Int → Int → Int → pv_H → Option (pv_H × Int)} {a1 : Int} {a2 : Int} {a3 : Int} {v4 : Int} {v5 : Int} {v6 : Int} {h h' : pv_H} {r : Int} (hd : 6 ≤ d) (hk52 : ∀ (v4 : Int) (v5 : Int)  (hh : pv_H), k52 v4 v5 hh = some (h', r) → EV RX9 cX9_grid 7 (some .int) false d pv_SC (MC h') (some (.inl r)) 52 [some (.inr (.inr (0))), none, some (.inl (a2)), none, some (.inl (v4)), some (.inl (v5)), none] [] pv_SC (MC hh)) (hk80 : ∀ (v4 : Int) (v5 : Int) (v6 : Int)  (hh : pv_H), k80 v4 v5 v6 hh = some (h', r) → EV RX9 cX9_grid 7 (some .int) false d pv_SC (MC h') (some (.inl r)) 80 [some (.inr (.inr (0))), none, some (.inl (a2)), none, some (.inl (v4)), some (.inl (v5)), some (.inl (v6))] [] pv_SC (MC hh))   (hf : fX9_grid_107 N k52 k80 a1 a2 a3 v4 v5 v6 h = some (h', r)) : EV RX9 cX9_grid 7 (some .int) false d pv_SC (MC h') (some (.inl r)) 107 [some (.inr (.inr (0))), none, some (.inl (a2)), none, some (.inl (v4)), some (.inl (v5)), some (.inl (v6))] [] pv_SC (MC h) := by
  unfold fX9_grid_107 at hf
  obtain ⟨x26, ex26, hf⟩ := pv_bo hf
  refine FV.inc (L2 := [some (.inr (.inr (0))), none, some (.inl (a2)), none, some (.inl (v4)), some (.inl (v5)), some (.inl (x26))]) dX9_grid_107 rfl (Nat.le_of_ble_eq_true rfl) ex26 rfl ?_
  refine EV.goto (tgt := 80) dX9_grid_110 (by decide) ?_
  refine EV.weak (L2 := [some (.inr (.inr (0))), none, some (.inl (a2)), none, some (.inl (v4)), some (.inl (v5)), some (.inl (x26))]) (And.intro rfl (And.intro rfl (And.intro rfl (And.intro rfl (And.intro rfl trivial))))) ?_
  exact hk80 _ _ _  _ hf

set_option maxHeartbeats 4000000 in
set_option maxRecDepth 20000 in
theorem tX9_grid_80 {d N : Nat} {k52 : Int → Int → pv_H → Option (pv_H × Int)} {a1 : Int} {a2 : Int} {a3 : Int} {h' : pv_H} {r : Int} (hd : 6 ≤ d) (hk52 : ∀ (v4 : Int) (v5 : Int)  (hh : pv_H), k52 v4 v5 hh = some (h', r) → EV RX9 cX9_grid 7 (some .int) false d pv_SC (MC h') (some (.inl r)) 52 [some (.inr (.inr (0))), none, some (.inl (a2)), none, some (.inl (v4)), some (.inl (v5)), none] [] pv_SC (MC hh))  : ∀ (n : Nat) (v4 : Int) (v5 : Int) (v6 : Int)  (h : pv_H), fX9_grid_80 N k52 a1 a2 a3 n v4 v5 v6 h = some (h', r) → EV RX9 cX9_grid 7 (some .int) false d pv_SC (MC h') (some (.inl r)) 80 [some (.inr (.inr (0))), none, some (.inl (a2)), none, some (.inl (v4)), some (.inl (v5)), some (.inl (v6))] [] pv_SC (MC h) := by
  intro n
  induction n with
  | zero =>
    intro v4 v5 v6  h hf
    cases hf
  | succ n ih =>
    intro v4 v5 v6  h hf
    rw [fX9_grid_80] at hf
    refine EV.iload dX9_grid_80 rfl ?_
    refine EV.bipush dX9_grid_82 (by decide) (by decide) ?_
    refine EV.icmp_ge (tgt := 113) dX9_grid_84 (by decide) (fun q19 => ?_) (fun q19 => ?_)
    · have hf := pv_gp hf q19
      obtain ⟨x20, ex20, hf⟩ := pv_bo hf
      refine FV.inc (L2 := [some (.inr (.inr (0))), none, some (.inl (a2)), none, some (.inl (v4)), some (.inl (x20)), some (.inl (v6))]) dX9_grid_113 rfl (Nat.le_of_ble_eq_true rfl) ex20 rfl ?_
      refine EV.goto (tgt := 52) dX9_grid_116 (by decide) ?_
      refine EV.weak (L2 := [some (.inr (.inr (0))), none, some (.inl (a2)), none, some (.inl (v4)), some (.inl (x20)), none]) (And.intro rfl (And.intro rfl (And.intro rfl (And.intro rfl trivial)))) ?_
      exact hk52 _ _  _ hf
    · have hf := pv_gn hf q19
      refine EV.aload_n dX9_grid_87 rfl rfl ?_
      refine FV.getF (v := 78) dX9_grid_88 sc_0 fl_9_40 rfl rfl hvc_0_5 ?_
      refine EV.iload dX9_grid_91 rfl ?_
      refine EV.bipush dX9_grid_93 (by decide) (by decide) ?_
      refine EV.imul dX9_grid_95 ?_
      refine EV.iconst dX9_grid_96 (by decide) (by decide) ?_
      obtain ⟨h22, r23, hc21, hf⟩ := pv_c2o hf
      refine EV.invV (As := [.inl (pv_w (v6 * 50)), .inl (0)]) (st := []) (d1 := d - 1) (sh1 := pv_SC) (h1 := MC h22) (r1 := (some (.inl r23))) dX9_grid_97 sc_78 (by decide) md_X1_sendWaves ml_X9_238 im_X1_sendWaves se_X1_sendWaves (tX1_sendWaves (by omega)  hc21) (by omega) rfl rfl (Nat.le_of_ble_eq_true rfl) ⟨[], (List.append_nil _).symm⟩ ?_
      refine EV.eqS (st2 := [.inl (r23)]) rfl ?_
      refine EV.iconst dX9_grid_100 (by decide) (by decide) ?_
      refine EV.icmp_ne (tgt := 107) dX9_grid_101 (by decide) (fun q24 => ?_) (fun q24 => ?_)
      · have hf := pv_gn hf q24
        refine EV.weak (L2 := [some (.inr (.inr (0))), none, some (.inl (a2)), none, some (.inl (v4)), some (.inl (v5)), some (.inl (v6))]) (And.intro rfl (And.intro rfl (And.intro rfl (And.intro rfl (And.intro rfl trivial))))) ?_
        exact tX9_grid_107 hd (hk52) (ih)   hf
      · have hf := pv_gp hf q24
        obtain ⟨x25, ex25, hf⟩ := pv_bo hf
        refine FV.inc (L2 := [some (.inr (.inr (0))), none, some (.inl (a2)), none, some (.inl (x25)), some (.inl (v5)), some (.inl (v6))]) dX9_grid_104 rfl (Nat.le_of_ble_eq_true rfl) ex25 rfl ?_
        refine EV.weak (L2 := [some (.inr (.inr (0))), none, some (.inl (a2)), none, some (.inl (x25)), some (.inl (v5)), some (.inl (v6))]) (And.intro rfl (And.intro rfl (And.intro rfl (And.intro rfl (And.intro rfl trivial))))) ?_
        exact tX9_grid_107 hd (hk52) (ih)   hf

set_option maxHeartbeats 4000000 in
set_option maxRecDepth 20000 in
theorem tX9_grid_52 {d N : Nat}  {a1 : Int} {a2 : Int} {a3 : Int} {h' : pv_H} {r : Int} (hd : 6 ≤ d)   : ∀ (n : Nat) (v4 : Int) (v5 : Int)  (h : pv_H), fX9_grid_52 N  a1 a2 a3 n v4 v5 h = some (h', r) → EV RX9 cX9_grid 7 (some .int) false d pv_SC (MC h') (some (.inl r)) 52 [some (.inr (.inr (0))), none, some (.inl (a2)), none, some (.inl (v4)), some (.inl (v5)), none] [] pv_SC (MC h) := by
  intro n
  induction n with
  | zero =>
    intro v4 v5  h hf
    cases hf
  | succ n ih =>
    intro v4 v5  h hf
    rw [fX9_grid_52] at hf
    refine EV.iload dX9_grid_52 rfl ?_
    refine EV.bipush dX9_grid_54 (by decide) (by decide) ?_
    refine EV.icmp_gt (tgt := 119) dX9_grid_56 (by decide) (fun q14 => ?_) (fun q14 => ?_)
    · have hf := pv_gp hf q14
      refine EV.iload dX9_grid_119 rfl ?_
      exact FV.iret dX9_grid_121 hf
    · have hf := pv_gn hf q14
      refine EV.aload_n dX9_grid_59 rfl rfl ?_
      refine FV.getF (v := 78) dX9_grid_60 sc_0 fl_9_40 rfl rfl hvc_0_5 ?_
      refine EV.aload_n dX9_grid_63 rfl rfl ?_
      refine FV.getF (v := 20) dX9_grid_64 sc_0 fl_9_19 rfl rfl hvc_0_1 ?_
      refine FV.getF (v := 22) dX9_grid_67 sc_20 fl_9_105 rfl rfl hvc_20_3 ?_
      refine EV.iload_n dX9_grid_70 rfl rfl ?_
      obtain ⟨g15, hf⟩ := pv_gd hf
      obtain ⟨x16, ex16, hf⟩ := pv_bo hf
      have mx16 : x16 ∈ pv_l0 := ex16 ▸ mq_22 _ (by omega)
      refine FV.aald (a := 1) (v := x16) dX9_grid_71 sc_22 (by decide) g15.1 g15.2 (j := (Int.toNat (a2))) rfl rfl (by rw [hq_22 _ (by omega), ex16]) ?_
      refine EV.iload dX9_grid_72 rfl ?_
      obtain ⟨h18, hc17, hf⟩ := pv_c1o hf
      refine EV.invV (As := [.inr (.inr (x16)), .inl (v5)]) (st := []) (d1 := d - 1) (sh1 := pv_SC) (h1 := MC h18) (r1 := none) dX9_grid_74 sc_78 (by decide) md_X1_bendBy ml_X9_234 im_X1_bendBy se_X1_bendBy (tX1_bendBy (by omega) (mx16) hc17) (by omega) rfl rfl (Nat.le_of_ble_eq_true rfl) ⟨[], (List.append_nil _).symm⟩ ?_
      refine EV.iconst dX9_grid_77 (by decide) (by decide) ?_
      refine FV.stiw (L2 := [some (.inr (.inr (0))), none, some (.inl (a2)), none, some (.inl (v4)), some (.inl (v5)), some (.inl (0))]) dX9_grid_78 (Nat.le_of_ble_eq_true rfl) rfl rfl ?_
      refine EV.weak (L2 := [some (.inr (.inr (0))), none, some (.inl (a2)), none, some (.inl (v4)), some (.inl (v5)), some (.inl (0))]) (And.intro rfl (And.intro rfl (And.intro rfl (And.intro rfl (And.intro rfl trivial))))) ?_
      exact tX9_grid_80 hd (ih)  _ _ _ _  _ hf

set_option maxHeartbeats 4000000 in
set_option maxRecDepth 20000 in
theorem tX9_grid {d N : Nat} {a1 : Int} {a2 : Int} {a3 : Int} {h h' : pv_H} {r : Int} (hd : 6 ≤ d)  (hf : fX9_grid N a1 a2 a3 h = some (h', r)) : CALL yX9_grid cX9_grid 7 (some .int) d pv_SC (MC h) [.inr (.inr (0)), .inl (a1), .inl (a2), .inl (a3)] pv_SC (MC h') (some (.inl r)) := by
  unfold fX9_grid at hf
  refine EV.call (own := RX9) (ini := false) rfl rfl (fun q => by cases q) ⟨[], (List.append_nil _).symm⟩ (Nat.le_of_ble_eq_true rfl) ?_
  refine EV.eqL (L2 := [some (.inr (.inr (0))), some (.inl (a1)), some (.inl (a2)), some (.inl (a3)), none, none, none]) rfl ?_
  refine EV.aload_n dX9_grid_0 rfl rfl ?_
  refine EV.iload_n dX9_grid_1 rfl rfl ?_
  obtain ⟨r2, hc1, hf⟩ := pv_c1o hf
  refine EV.invV (As := [.inl (a1)]) (st := []) (d1 := d - 1) (sh1 := pv_SC) (h1 := MC h) (r1 := (some (.inl r2))) dX9_grid_2 sc_0 (by decide) md_X9_hasRod ml_X9_140 im_X9_hasRod se_X9_hasRod (tX9_hasRod (by omega)  hc1) (by omega) rfl rfl (Nat.le_of_ble_eq_true rfl) ⟨[], (List.append_nil _).symm⟩ ?_
  refine EV.eqS (st2 := [.inl (r2)]) rfl ?_
  refine EV.if_eq (tgt := 15) dX9_grid_5 (by decide) (fun q3 => ?_) (fun q3 => ?_)
  · have hf := pv_gp hf q3
    refine EV.weak (L2 := [some (.inr (.inr (0))), none, none, none, none, none, none]) (And.intro rfl trivial) ?_
    exact tX9_grid_15 hd    hf
  · have hf := pv_gn hf q3
    refine EV.iload_n dX9_grid_8 rfl rfl ?_
    obtain ⟨r5, hc4, hf⟩ := pv_c1o hf
    refine EV.invS (As := [.inl (a2)]) (st := []) (d1 := d - 1) (sh1 := pv_SC) (h1 := MC h) (r1 := (some (.inl r5))) dX9_grid_9 md_X9_hasDoings ml_X9_172 st_X9_hasDoings (tX9_hasDoings (by omega)  hc4) (by omega) rfl rfl (Nat.le_of_ble_eq_true rfl) ⟨[], (List.append_nil _).symm⟩ ?_
    refine EV.eqS (st2 := [.inl (r5)]) rfl ?_
    refine EV.if_ne (tgt := 22) dX9_grid_12 (by decide) (fun q6 => ?_) (fun q6 => ?_)
    · have hf := pv_gn hf q6
      refine EV.aload_n dX9_grid_22 rfl rfl ?_
      refine FV.getF (v := 78) dX9_grid_23 sc_0 fl_9_40 rfl rfl hvc_0_5 ?_
      refine EV.aload_n dX9_grid_26 rfl rfl ?_
      refine FV.getF (v := 20) dX9_grid_27 sc_0 fl_9_19 rfl rfl hvc_0_1 ?_
      refine FV.getF (v := 21) dX9_grid_30 sc_20 fl_9_94 rfl rfl hvc_20_2 ?_
      refine EV.iload_n dX9_grid_33 rfl rfl ?_
      obtain ⟨g7, hf⟩ := pv_gd hf
      obtain ⟨x8, ex8, hf⟩ := pv_bo hf
      have mx8 : x8 ∈ pv_l5 := ex8 ▸ mq_21 _ (by omega)
      refine FV.aald (a := 0) (v := x8) dX9_grid_34 sc_21 (by decide) g7.1 g7.2 (j := (Int.toNat (a1))) rfl rfl (by rw [hq_21 _ (by omega), ex8]) ?_
      refine EV.aload_n dX9_grid_35 rfl rfl ?_
      refine FV.getF (v := 20) dX9_grid_36 sc_0 fl_9_19 rfl rfl hvc_0_1 ?_
      refine FV.getF (v := 23) dX9_grid_39 sc_20 fl_9_117 rfl rfl hvc_20_4 ?_
      refine EV.iload_n dX9_grid_42 rfl rfl ?_
      obtain ⟨h10, hc9, hf⟩ := pv_c1o hf
      refine EV.invV (As := [.inr (.inr (x8)), .inr (.inr (23)), .inl (a3)]) (st := []) (d1 := d - 1) (sh1 := pv_SC) (h1 := MC h10) (r1 := none) dX9_grid_43 sc_78 (by decide) md_X1_take ml_X9_230 im_X1_take se_X1_take (tX1_take (by omega) (mx8) ((by decide : 23 ∈ pv_l2)) hc9) (by omega) rfl rfl (Nat.le_of_ble_eq_true rfl) ⟨[], (List.append_nil _).symm⟩ ?_
      refine EV.iconst dX9_grid_46 (by decide) (by decide) ?_
      refine FV.stiw (L2 := [some (.inr (.inr (0))), some (.inl (a1)), some (.inl (a2)), some (.inl (a3)), some (.inl (0)), none, none]) dX9_grid_47 (Nat.le_of_ble_eq_true rfl) rfl rfl ?_
      refine EV.iconst dX9_grid_49 (by decide) (by decide) ?_
      refine FV.stiw (L2 := [some (.inr (.inr (0))), some (.inl (a1)), some (.inl (a2)), some (.inl (a3)), some (.inl (0)), some (.inl (1)), none]) dX9_grid_50 (Nat.le_of_ble_eq_true rfl) rfl rfl ?_
      refine EV.weak (L2 := [some (.inr (.inr (0))), none, some (.inl (a2)), none, some (.inl (0)), some (.inl (1)), none]) (And.intro rfl (And.intro rfl (And.intro rfl (And.intro rfl trivial)))) ?_
      exact tX9_grid_52 hd   _ _ _  _ hf
    · have hf := pv_gp hf q6
      refine EV.weak (L2 := [some (.inr (.inr (0))), none, none, none, none, none, none]) (And.intro rfl trivial) ?_
      exact tX9_grid_15 hd    hf

noncomputable def fX9_flies_29 (N : Nat)  (a1 : Int) (s0 : Int) (h : pv_H) : Option (pv_H × Int) :=
  some (h, s0)

noncomputable def fX9_flies (N : Nat) (a1 : Int) (h : pv_H) : Option (pv_H × Int) :=
  pv_c1 (fX9_codeForPiece N a1 h) fun r2 => if r2 = 0 then (pv_c1 (fX7_flightOf N 30 a1 h) fun r5 => fX9_flies_29 N  a1 (r5) h) else (pv_c2b (fX9_refuse N r2 h) fun h7 r8 => fX9_flies_29 N  a1 (r8) h7)

set_option maxHeartbeats 4000000 in
set_option maxRecDepth 20000 in
theorem tX9_flies_29 {d N : Nat}  {a1 : Int} {s0 : Int} {h h' : pv_H} {r : Int} (hd : 5 ≤ d)    (hf : fX9_flies_29 N  a1 s0 h = some (h', r)) : EV RX9 cX9_flies 3 (some .int) false d pv_SC (MC h') (some (.inl r)) 29 [none, none, none] [.inl (s0)] pv_SC (MC h) := by
  unfold fX9_flies_29 at hf
  exact FV.iret dX9_flies_29 hf

set_option maxHeartbeats 4000000 in
set_option maxRecDepth 20000 in
theorem tX9_flies {d N : Nat} {a1 : Int} {h h' : pv_H} {r : Int} (hd : 5 ≤ d)  (hf : fX9_flies N a1 h = some (h', r)) : CALL yX9_flies cX9_flies 3 (some .int) d pv_SC (MC h) [.inr (.inr (0)), .inl (a1)] pv_SC (MC h') (some (.inl r)) := by
  unfold fX9_flies at hf
  refine EV.call (own := RX9) (ini := false) rfl rfl (fun q => by cases q) ⟨[], (List.append_nil _).symm⟩ (Nat.le_of_ble_eq_true rfl) ?_
  refine EV.eqL (L2 := [some (.inr (.inr (0))), some (.inl (a1)), none]) rfl ?_
  refine EV.aload_n dX9_flies_0 rfl rfl ?_
  refine EV.iload_n dX9_flies_1 rfl rfl ?_
  obtain ⟨r2, hc1, hf⟩ := pv_c1o hf
  refine EV.invV (As := [.inl (a1)]) (st := []) (d1 := d - 1) (sh1 := pv_SC) (h1 := MC h) (r1 := (some (.inl r2))) dX9_flies_2 sc_0 (by decide) md_X9_codeForPiece ml_X9_208 im_X9_codeForPiece se_X9_codeForPiece (tX9_codeForPiece (by omega)  hc1) (by omega) rfl rfl (Nat.le_of_ble_eq_true rfl) ⟨[], (List.append_nil _).symm⟩ ?_
  refine EV.eqS (st2 := [.inl (r2)]) rfl ?_
  refine FV.sti (L2 := [some (.inr (.inr (0))), some (.inl (a1)), some (.inl (r2))]) dX9_flies_5 rfl (Nat.le_of_ble_eq_true rfl) rfl rfl ?_
  refine EV.iload_n dX9_flies_6 rfl rfl ?_
  refine EV.if_eq (tgt := 18) dX9_flies_7 (by decide) (fun q3 => ?_) (fun q3 => ?_)
  · have hf := pv_gp hf q3
    refine EV.aload_n dX9_flies_18 rfl rfl ?_
    refine FV.getF (v := 20) dX9_flies_19 sc_0 fl_9_19 rfl rfl hvc_0_1 ?_
    refine FV.getF (v := 30) dX9_flies_22 sc_20 fl_9_186 rfl rfl hvc_20_6 ?_
    refine EV.iload_n dX9_flies_25 rfl rfl ?_
    obtain ⟨r5, hc4, hf⟩ := pv_c1o hf
    refine EV.invV (As := [.inl (a1)]) (st := []) (d1 := d - 1) (sh1 := pv_SC) (h1 := MC h) (r1 := (some (.inl r5))) dX9_flies_26 sc_30 (by decide) md_X7_flightOf ml_X9_304 im_X7_flightOf se_X7_flightOf (tX7_flightOf (by omega) ((by decide : 30 ∈ pv_l7)) hc4) (by omega) rfl rfl (Nat.le_of_ble_eq_true rfl) ⟨[], (List.append_nil _).symm⟩ ?_
    refine EV.eqS (st2 := [.inl (r5)]) rfl ?_
    refine EV.weak (L2 := [none, none, none]) trivial ?_
    exact tX9_flies_29 hd    hf
  · have hf := pv_gn hf q3
    refine EV.aload_n dX9_flies_10 rfl rfl ?_
    refine EV.iload_n dX9_flies_11 rfl rfl ?_
    obtain ⟨h7, r8, hc6, hf⟩ := pv_c2o hf
    refine EV.invV (As := [.inl (r2)]) (st := []) (d1 := d - 1) (sh1 := pv_SC) (h1 := MC h7) (r1 := (some (.inl r8))) dX9_flies_12 sc_0 (by decide) md_X9_refuse ml_X9_59 im_X9_refuse se_X9_refuse (tX9_refuse (by omega)  hc6) (by omega) rfl rfl (Nat.le_of_ble_eq_true rfl) ⟨[], (List.append_nil _).symm⟩ ?_
    refine EV.eqS (st2 := [.inl (r8)]) rfl ?_
    refine EV.goto (tgt := 29) dX9_flies_15 (by decide) ?_
    refine EV.weak (L2 := [none, none, none]) trivial ?_
    exact tX9_flies_29 hd    hf

noncomputable def fX9_row_16 (N : Nat)  (a1 : Int) (a2 : Int) (a3 : Int)  (h : pv_H) : Option (pv_H × Int) :=
  pv_c2b (fX9_refuse N (-2) h) fun h13 r14 => some (h13, r14)

noncomputable def fX9_row_33 (N : Nat)  (a1 : Int) (a2 : Int) (a3 : Int)  (h : pv_H) : Option (pv_H × Int) :=
  pv_c2b (fX9_refuse N (-3) h) fun h16 r17 => some (h16, r17)

noncomputable def fX9_row (N : Nat) (a1 : Int) (a2 : Int) (a3 : Int) (h : pv_H) : Option (pv_H × Int) :=
  pv_c1 (fX9_isRow N a1 h) fun r2 => if r2 = 0 then (fX9_row_16 N  a1 a2 a3  h) else (if a2 < 0 then (fX9_row_16 N  a1 a2 a3  h) else (if a2 ≤ 3 then (if a3 < 0 then (fX9_row_33 N  a1 a2 a3  h) else (if a3 ≤ 60 then (if 0 ≤ a1 ∧ a1 < 4 then (pv_b (216 + 2 * (Int.toNat (a1))) fun x9 => pv_c1 (fX6_begin N x9 a2 a3 h) fun h11 => some (h11, 0)) else none) else (fX9_row_33 N  a1 a2 a3  h))) else (fX9_row_16 N  a1 a2 a3  h)))

set_option maxHeartbeats 4000000 in
set_option maxRecDepth 20000 in
theorem tX9_row_16 {d N : Nat}  {a1 : Int} {a2 : Int} {a3 : Int}  {h h' : pv_H} {r : Int} (hd : 3 ≤ d)    (hf : fX9_row_16 N  a1 a2 a3  h = some (h', r)) : EV RX9 cX9_row 4 (some .int) false d pv_SC (MC h') (some (.inl r)) 16 [some (.inr (.inr (0))), none, none, none] [] pv_SC (MC h) := by
  unfold fX9_row_16 at hf
  refine EV.aload_n dX9_row_16 rfl rfl ?_
  refine EV.bipush dX9_row_17 (by decide) (by decide) ?_
  obtain ⟨h13, r14, hc12, hf⟩ := pv_c2o hf
  refine EV.invV (As := [.inl (-2)]) (st := []) (d1 := d - 1) (sh1 := pv_SC) (h1 := MC h13) (r1 := (some (.inl r14))) dX9_row_19 sc_0 (by decide) md_X9_refuse ml_X9_59 im_X9_refuse se_X9_refuse (tX9_refuse (by omega)  hc12) (by omega) rfl rfl (Nat.le_of_ble_eq_true rfl) ⟨[], (List.append_nil _).symm⟩ ?_
  refine EV.eqS (st2 := [.inl (r14)]) rfl ?_
  exact FV.iret dX9_row_22 hf

set_option maxHeartbeats 4000000 in
set_option maxRecDepth 20000 in
theorem tX9_row_33 {d N : Nat}  {a1 : Int} {a2 : Int} {a3 : Int}  {h h' : pv_H} {r : Int} (hd : 3 ≤ d)    (hf : fX9_row_33 N  a1 a2 a3  h = some (h', r)) : EV RX9 cX9_row 4 (some .int) false d pv_SC (MC h') (some (.inl r)) 33 [some (.inr (.inr (0))), none, none, none] [] pv_SC (MC h) := by
  unfold fX9_row_33 at hf
  refine EV.aload_n dX9_row_33 rfl rfl ?_
  refine EV.bipush dX9_row_34 (by decide) (by decide) ?_
  obtain ⟨h16, r17, hc15, hf⟩ := pv_c2o hf
  refine EV.invV (As := [.inl (-3)]) (st := []) (d1 := d - 1) (sh1 := pv_SC) (h1 := MC h16) (r1 := (some (.inl r17))) dX9_row_36 sc_0 (by decide) md_X9_refuse ml_X9_59 im_X9_refuse se_X9_refuse (tX9_refuse (by omega)  hc15) (by omega) rfl rfl (Nat.le_of_ble_eq_true rfl) ⟨[], (List.append_nil _).symm⟩ ?_
  refine EV.eqS (st2 := [.inl (r17)]) rfl ?_
  exact FV.iret dX9_row_39 hf

set_option maxHeartbeats 4000000 in
set_option maxRecDepth 20000 in
theorem tX9_row {d N : Nat} {a1 : Int} {a2 : Int} {a3 : Int} {h h' : pv_H} {r : Int} (hd : 3 ≤ d)  (hf : fX9_row N a1 a2 a3 h = some (h', r)) : CALL yX9_row cX9_row 4 (some .int) d pv_SC (MC h) [.inr (.inr (0)), .inl (a1), .inl (a2), .inl (a3)] pv_SC (MC h') (some (.inl r)) := by
  unfold fX9_row at hf
  refine EV.call (own := RX9) (ini := false) rfl rfl (fun q => by cases q) ⟨[], (List.append_nil _).symm⟩ (Nat.le_of_ble_eq_true rfl) ?_
  refine EV.eqL (L2 := [some (.inr (.inr (0))), some (.inl (a1)), some (.inl (a2)), some (.inl (a3))]) rfl ?_
  refine EV.iload_n dX9_row_0 rfl rfl ?_
  obtain ⟨r2, hc1, hf⟩ := pv_c1o hf
  refine EV.invS (As := [.inl (a1)]) (st := []) (d1 := d - 1) (sh1 := pv_SC) (h1 := MC h) (r1 := (some (.inl r2))) dX9_row_1 md_X9_isRow ml_X9_220 st_X9_isRow (tX9_isRow (by omega)  hc1) (by omega) rfl rfl (Nat.le_of_ble_eq_true rfl) ⟨[], (List.append_nil _).symm⟩ ?_
  refine EV.eqS (st2 := [.inl (r2)]) rfl ?_
  refine EV.if_eq (tgt := 16) dX9_row_4 (by decide) (fun q3 => ?_) (fun q3 => ?_)
  · have hf := pv_gp hf q3
    refine EV.weak (L2 := [some (.inr (.inr (0))), none, none, none]) (And.intro rfl trivial) ?_
    exact tX9_row_16 hd    hf
  · have hf := pv_gn hf q3
    refine EV.iload_n dX9_row_7 rfl rfl ?_
    refine EV.if_lt (tgt := 16) dX9_row_8 (by decide) (fun q4 => ?_) (fun q4 => ?_)
    · have hf := pv_gp hf q4
      refine EV.weak (L2 := [some (.inr (.inr (0))), none, none, none]) (And.intro rfl trivial) ?_
      exact tX9_row_16 hd    hf
    · have hf := pv_gn hf q4
      refine EV.iload_n dX9_row_11 rfl rfl ?_
      refine EV.iconst dX9_row_12 (by decide) (by decide) ?_
      refine EV.icmp_le (tgt := 23) dX9_row_13 (by decide) (fun q5 => ?_) (fun q5 => ?_)
      · have hf := pv_gp hf q5
        refine EV.iload_n dX9_row_23 rfl rfl ?_
        refine EV.if_lt (tgt := 33) dX9_row_24 (by decide) (fun q6 => ?_) (fun q6 => ?_)
        · have hf := pv_gp hf q6
          refine EV.weak (L2 := [some (.inr (.inr (0))), none, none, none]) (And.intro rfl trivial) ?_
          exact tX9_row_33 hd    hf
        · have hf := pv_gn hf q6
          refine EV.iload_n dX9_row_27 rfl rfl ?_
          refine EV.bipush dX9_row_28 (by decide) (by decide) ?_
          refine EV.icmp_le (tgt := 40) dX9_row_30 (by decide) (fun q7 => ?_) (fun q7 => ?_)
          · have hf := pv_gp hf q7
            refine EV.aload_n dX9_row_40 rfl rfl ?_
            refine FV.getF (v := 76) dX9_row_41 sc_0 fl_9_29 rfl rfl hvc_0_3 ?_
            refine EV.iload_n dX9_row_44 rfl rfl ?_
            obtain ⟨g8, hf⟩ := pv_gd hf
            obtain ⟨x9, ex9, hf⟩ := pv_bo hf
            have mx9 : x9 ∈ pv_l6 := ex9 ▸ mq_76 _ (by omega)
            refine FV.aald (a := 3) (v := x9) dX9_row_45 sc_76 (by decide) g8.1 g8.2 (j := (Int.toNat (a1))) rfl rfl (by rw [hq_76 _ (by omega), ex9]) ?_
            refine EV.iload_n dX9_row_46 rfl rfl ?_
            refine EV.iload_n dX9_row_47 rfl rfl ?_
            obtain ⟨h11, hc10, hf⟩ := pv_c1o hf
            refine EV.invV (As := [.inl (a2), .inl (a3)]) (st := []) (d1 := d - 1) (sh1 := pv_SC) (h1 := MC h11) (r1 := none) dX9_row_48 (sl6_0 _ mx9) (by decide) md_X6_begin ml_X9_307 im_X6_begin se_X6_begin (tX6_begin (by omega) (mx9) hc10) (by omega) rfl rfl (Nat.le_of_ble_eq_true rfl) ⟨[], (List.append_nil _).symm⟩ ?_
            refine EV.iconst dX9_row_51 (by decide) (by decide) ?_
            exact FV.iret dX9_row_52 hf
          · have hf := pv_gn hf q7
            refine EV.weak (L2 := [some (.inr (.inr (0))), none, none, none]) (And.intro rfl trivial) ?_
            exact tX9_row_33 hd    hf
      · have hf := pv_gn hf q5
        refine EV.weak (L2 := [some (.inr (.inr (0))), none, none, none]) (And.intro rfl trivial) ?_
        exact tX9_row_16 hd    hf

noncomputable def fX9_write_52 (N : Nat)  (a1 : Int) (a2 : Int) (a3 : Int)  (h : pv_H) : Option (pv_H × Int) :=
  pv_c2b (fX9_refuse N (-7) h) fun h23 r24 => some (h23, r24)

noncomputable def fX9_write (N : Nat) (a1 : Int) (a2 : Int) (a3 : Int) (h : pv_H) : Option (pv_H × Int) :=
  pv_c1 (fX9_isRow N a1 h) fun r2 => if r2 = 0 then (pv_c2b (fX9_refuse N (-2) h) fun h20 r21 => some (h20, r21)) else (if 0 ≤ a1 ∧ a1 < 4 then (pv_b (216 + 2 * (Int.toNat (a1))) fun x5 => if (h x5 0) = 0 then (pv_c2b (fX9_refuse N (-6) h) fun h17 r18 => some (h17, r18)) else (if a2 < 0 then (fX9_write_52 N  a1 a2 a3  h) else (if 0 ≤ a1 ∧ a1 < 4 then (pv_b (216 + 2 * (Int.toNat (a1))) fun x9 => if a2 < (h x9 1) then (if 0 ≤ a1 ∧ a1 < 4 then (pv_b (216 + 2 * (Int.toNat (a1))) fun x12 => pv_c2b (fX6_put N x12 a2 a3 h) fun h14 r15 => some (h14, r15)) else none) else (fX9_write_52 N  a1 a2 a3  h)) else none))) else none)

set_option maxHeartbeats 4000000 in
set_option maxRecDepth 20000 in
theorem tX9_write_52 {d N : Nat}  {a1 : Int} {a2 : Int} {a3 : Int}  {h h' : pv_H} {r : Int} (hd : 2 ≤ d)    (hf : fX9_write_52 N  a1 a2 a3  h = some (h', r)) : EV RX9 cX9_write 5 (some .long) false d pv_SC (MC h') (some (.inr (.inl r))) 52 [some (.inr (.inr (0))), none, none, none, none] [] pv_SC (MC h) := by
  unfold fX9_write_52 at hf
  refine EV.aload_n dX9_write_52 rfl rfl ?_
  refine EV.bipush dX9_write_53 (by decide) (by decide) ?_
  obtain ⟨h23, r24, hc22, hf⟩ := pv_c2o hf
  refine EV.invV (As := [.inl (-7)]) (st := []) (d1 := d - 1) (sh1 := pv_SC) (h1 := MC h23) (r1 := (some (.inl r24))) dX9_write_55 sc_0 (by decide) md_X9_refuse ml_X9_59 im_X9_refuse se_X9_refuse (tX9_refuse (by omega)  hc22) (by omega) rfl rfl (Nat.le_of_ble_eq_true rfl) ⟨[], (List.append_nil _).symm⟩ ?_
  refine EV.eqS (st2 := [.inl (r24)]) rfl ?_
  refine EV.i2l dX9_write_58 ?_
  exact FV.lret dX9_write_59 hf

set_option maxHeartbeats 4000000 in
set_option maxRecDepth 20000 in
theorem tX9_write {d N : Nat} {a1 : Int} {a2 : Int} {a3 : Int} {h h' : pv_H} {r : Int} (hd : 2 ≤ d)  (hf : fX9_write N a1 a2 a3 h = some (h', r)) : CALL yX9_write cX9_write 5 (some .long) d pv_SC (MC h) [.inr (.inr (0)), .inl (a1), .inl (a2), .inr (.inl (a3))] pv_SC (MC h') (some (.inr (.inl r))) := by
  unfold fX9_write at hf
  refine EV.call (own := RX9) (ini := false) rfl rfl (fun q => by cases q) ⟨[], (List.append_nil _).symm⟩ (Nat.le_of_ble_eq_true rfl) ?_
  refine EV.eqL (L2 := [some (.inr (.inr (0))), some (.inl (a1)), some (.inl (a2)), some (.inr (.inl (a3))), none]) rfl ?_
  refine EV.iload_n dX9_write_0 rfl rfl ?_
  obtain ⟨r2, hc1, hf⟩ := pv_c1o hf
  refine EV.invS (As := [.inl (a1)]) (st := []) (d1 := d - 1) (sh1 := pv_SC) (h1 := MC h) (r1 := (some (.inl r2))) dX9_write_1 md_X9_isRow ml_X9_220 st_X9_isRow (tX9_isRow (by omega)  hc1) (by omega) rfl rfl (Nat.le_of_ble_eq_true rfl) ⟨[], (List.append_nil _).symm⟩ ?_
  refine EV.eqS (st2 := [.inl (r2)]) rfl ?_
  refine EV.if_ne (tgt := 15) dX9_write_4 (by decide) (fun q3 => ?_) (fun q3 => ?_)
  · have hf := pv_gn hf q3
    refine EV.aload_n dX9_write_15 rfl rfl ?_
    refine FV.getF (v := 76) dX9_write_16 sc_0 fl_9_29 rfl rfl hvc_0_3 ?_
    refine EV.iload_n dX9_write_19 rfl rfl ?_
    obtain ⟨g4, hf⟩ := pv_gd hf
    obtain ⟨x5, ex5, hf⟩ := pv_bo hf
    have mx5 : x5 ∈ pv_l6 := ex5 ▸ mq_76 _ (by omega)
    refine FV.aald (a := 3) (v := x5) dX9_write_20 sc_76 (by decide) g4.1 g4.2 (j := (Int.toNat (a1))) rfl rfl (by rw [hq_76 _ (by omega), ex5]) ?_
    refine FV.getI dX9_write_21 (sl6_0 _ mx5) fl_9_223 rfl ?_
    refine EV.if_ne (tgt := 35) dX9_write_24 (by decide) (fun q6 => ?_) (fun q6 => ?_)
    · have hf := pv_gn hf q6
      refine EV.iload_n dX9_write_35 rfl rfl ?_
      refine EV.if_lt (tgt := 52) dX9_write_36 (by decide) (fun q7 => ?_) (fun q7 => ?_)
      · have hf := pv_gp hf q7
        refine EV.weak (L2 := [some (.inr (.inr (0))), none, none, none, none]) (And.intro rfl trivial) ?_
        exact tX9_write_52 hd    hf
      · have hf := pv_gn hf q7
        refine EV.iload_n dX9_write_39 rfl rfl ?_
        refine EV.aload_n dX9_write_40 rfl rfl ?_
        refine FV.getF (v := 76) dX9_write_41 sc_0 fl_9_29 rfl rfl hvc_0_3 ?_
        refine EV.iload_n dX9_write_44 rfl rfl ?_
        obtain ⟨g8, hf⟩ := pv_gd hf
        obtain ⟨x9, ex9, hf⟩ := pv_bo hf
        have mx9 : x9 ∈ pv_l6 := ex9 ▸ mq_76 _ (by omega)
        refine FV.aald (a := 3) (v := x9) dX9_write_45 sc_76 (by decide) g8.1 g8.2 (j := (Int.toNat (a1))) rfl rfl (by rw [hq_76 _ (by omega), ex9]) ?_
        refine FV.getI dX9_write_46 (sl6_0 _ mx9) fl_9_309 rfl ?_
        refine EV.icmp_lt (tgt := 60) dX9_write_49 (by decide) (fun q10 => ?_) (fun q10 => ?_)
        · have hf := pv_gp hf q10
          refine EV.aload_n dX9_write_60 rfl rfl ?_
          refine FV.getF (v := 76) dX9_write_61 sc_0 fl_9_29 rfl rfl hvc_0_3 ?_
          refine EV.iload_n dX9_write_64 rfl rfl ?_
          obtain ⟨g11, hf⟩ := pv_gd hf
          obtain ⟨x12, ex12, hf⟩ := pv_bo hf
          have mx12 : x12 ∈ pv_l6 := ex12 ▸ mq_76 _ (by omega)
          refine FV.aald (a := 3) (v := x12) dX9_write_65 sc_76 (by decide) g11.1 g11.2 (j := (Int.toNat (a1))) rfl rfl (by rw [hq_76 _ (by omega), ex12]) ?_
          refine EV.iload_n dX9_write_66 rfl rfl ?_
          refine EV.lload_n dX9_write_67 rfl rfl ?_
          obtain ⟨h14, r15, hc13, hf⟩ := pv_c2o hf
          refine EV.invV (As := [.inl (a2), .inr (.inl (a3))]) (st := []) (d1 := d - 1) (sh1 := pv_SC) (h1 := MC h14) (r1 := (some (.inr (.inl r15)))) dX9_write_68 (sl6_0 _ mx12) (by decide) md_X6_put ml_X9_312 im_X6_put se_X6_put (tX6_put (by omega) (mx12) hc13) (by omega) rfl rfl (Nat.le_of_ble_eq_true rfl) ⟨[], (List.append_nil _).symm⟩ ?_
          refine EV.eqS (st2 := [.inr (.inl (r15))]) rfl ?_
          exact FV.lret dX9_write_71 hf
        · have hf := pv_gn hf q10
          refine EV.weak (L2 := [some (.inr (.inr (0))), none, none, none, none]) (And.intro rfl trivial) ?_
          exact tX9_write_52 hd    hf
    · have hf := pv_gp hf q6
      refine EV.aload_n dX9_write_27 rfl rfl ?_
      refine EV.bipush dX9_write_28 (by decide) (by decide) ?_
      obtain ⟨h17, r18, hc16, hf⟩ := pv_c2o hf
      refine EV.invV (As := [.inl (-6)]) (st := []) (d1 := d - 1) (sh1 := pv_SC) (h1 := MC h17) (r1 := (some (.inl r18))) dX9_write_30 sc_0 (by decide) md_X9_refuse ml_X9_59 im_X9_refuse se_X9_refuse (tX9_refuse (by omega)  hc16) (by omega) rfl rfl (Nat.le_of_ble_eq_true rfl) ⟨[], (List.append_nil _).symm⟩ ?_
      refine EV.eqS (st2 := [.inl (r18)]) rfl ?_
      refine EV.i2l dX9_write_33 ?_
      exact FV.lret dX9_write_34 hf
  · have hf := pv_gp hf q3
    refine EV.aload_n dX9_write_7 rfl rfl ?_
    refine EV.bipush dX9_write_8 (by decide) (by decide) ?_
    obtain ⟨h20, r21, hc19, hf⟩ := pv_c2o hf
    refine EV.invV (As := [.inl (-2)]) (st := []) (d1 := d - 1) (sh1 := pv_SC) (h1 := MC h20) (r1 := (some (.inl r21))) dX9_write_10 sc_0 (by decide) md_X9_refuse ml_X9_59 im_X9_refuse se_X9_refuse (tX9_refuse (by omega)  hc19) (by omega) rfl rfl (Nat.le_of_ble_eq_true rfl) ⟨[], (List.append_nil _).symm⟩ ?_
    refine EV.eqS (st2 := [.inl (r21)]) rfl ?_
    refine EV.i2l dX9_write_13 ?_
    exact FV.lret dX9_write_14 hf

noncomputable def fX9_keep_16 (N : Nat)  (a1 : Int) (a2 : Int)  (h : pv_H) : Option (pv_H × Int) :=
  pv_c2b (fX9_refuse N (-2) h) fun h18 r19 => some (h18, r19)

noncomputable def fX9_keep_158 (N : Nat) (k109 : Int → Int → pv_H → Option (pv_H × Int)) (a1 : Int) (a2 : Int) (v4 : Int) (v5 : Int) (s0 : Int) (s1 : Int) (s2 : Nat) (h : pv_H) : Option (pv_H × Int) :=
  pv_c2b (fX6_put N s2 s1 s0 h) fun h31 r32 => pv_b (pv_w (v5 + 1)) fun x33 => k109 (v4) (x33) h31

noncomputable def fX9_keep_109 (N : Nat)  (a1 : Int) (a2 : Int) : Nat → Int → Int → pv_H → Option (pv_H × Int)
  | 0, _, _, _ => none
  | n + 1, v4, v5, h => if v4 ≤ v5 then (some (h, v4)) else (if 0 ≤ a1 ∧ a1 < 4 then (pv_b (216 + 2 * (Int.toNat (a1))) fun x25 => if a2 = 0 then (if 0 ≤ v5 ∧ v5 < 60 then (fX9_keep_158 N (fun v4_ v5_ hh => fX9_keep_109 N  a1 a2 n v4_ v5_ hh) a1 a2 (v4) (v5) (h 34 (Int.toNat (v5))) (v5) (x25) h) else none) else (pv_c1 (fX7_tickOf N 30 v5 h) fun r28 => fX9_keep_158 N (fun v4_ v5_ hh => fX9_keep_109 N  a1 a2 n v4_ v5_ hh) a1 a2 (v4) (v5) (r28) (v5) (x25) h)) else none)

noncomputable def fX9_keep_90 (N : Nat)  (a1 : Int) (a2 : Int) (s0 : Int) (h : pv_H) : Option (pv_H × Int) :=
  if 0 ≤ a1 ∧ a1 < 4 then (pv_b (216 + 2 * (Int.toNat (a1))) fun x21 => pv_b (min s0 (h x21 1)) fun x22 => fX9_keep_109 N  a1 a2 N (x22) (0) h) else none

noncomputable def fX9_keep (N : Nat) (a1 : Int) (a2 : Int) (h : pv_H) : Option (pv_H × Int) :=
  pv_c1 (fX9_isRow N a1 h) fun r2 => if r2 = 0 then (fX9_keep_16 N  a1 a2  h) else (if a2 < 0 then (fX9_keep_16 N  a1 a2  h) else (if a2 ≤ 1 then (if (h 20 1) = 0 then (pv_c2b (fX9_refuse N (-5) h) fun h15 r16 => some (h15, r16)) else (if 0 ≤ a1 ∧ a1 < 4 then (pv_b (216 + 2 * (Int.toNat (a1))) fun x8 => if (h x8 0) = 0 then (pv_c2b (fX9_refuse N (-6) h) fun h12 r13 => some (h12, r13)) else (if a2 = 0 then (fX9_keep_90 N  a1 a2 (h 31 1) h) else (fX9_keep_90 N  a1 a2 (h 31 0) h))) else none)) else (fX9_keep_16 N  a1 a2  h)))

set_option maxHeartbeats 4000000 in
set_option maxRecDepth 20000 in
theorem tX9_keep_16 {d N : Nat}  {a1 : Int} {a2 : Int}  {h h' : pv_H} {r : Int} (hd : 2 ≤ d)    (hf : fX9_keep_16 N  a1 a2  h = some (h', r)) : EV RX9 cX9_keep 6 (some .int) false d pv_SC (MC h') (some (.inl r)) 16 [some (.inr (.inr (0))), none, none, none, none, none] [] pv_SC (MC h) := by
  unfold fX9_keep_16 at hf
  refine EV.aload_n dX9_keep_16 rfl rfl ?_
  refine EV.bipush dX9_keep_17 (by decide) (by decide) ?_
  obtain ⟨h18, r19, hc17, hf⟩ := pv_c2o hf
  refine EV.invV (As := [.inl (-2)]) (st := []) (d1 := d - 1) (sh1 := pv_SC) (h1 := MC h18) (r1 := (some (.inl r19))) dX9_keep_19 sc_0 (by decide) md_X9_refuse ml_X9_59 im_X9_refuse se_X9_refuse (tX9_refuse (by omega)  hc17) (by omega) rfl rfl (Nat.le_of_ble_eq_true rfl) ⟨[], (List.append_nil _).symm⟩ ?_
  refine EV.eqS (st2 := [.inl (r19)]) rfl ?_
  exact FV.iret dX9_keep_22 hf

set_option maxHeartbeats 4000000 in
set_option maxRecDepth 20000 in
theorem tX9_keep_158 {d N : Nat} {k109 : Int → Int → pv_H → Option (pv_H × Int)} {a1 : Int} {a2 : Int} {v4 : Int} {v5 : Int} {s0 : Int} {s1 : Int} {s2 : Nat} {h h' : pv_H} {r : Int} (hd : 2 ≤ d) (hk109 : ∀ (v4 : Int) (v5 : Int)  (hh : pv_H), k109 v4 v5 hh = some (h', r) → EV RX9 cX9_keep 6 (some .int) false d pv_SC (MC h') (some (.inl r)) 109 [some (.inr (.inr (0))), some (.inl (a1)), some (.inl (a2)), none, some (.inl (v4)), some (.inl (v5))] [] pv_SC (MC hh))  (ms2 : s2 ∈ pv_l6) (hf : fX9_keep_158 N k109 a1 a2 v4 v5 s0 s1 s2 h = some (h', r)) : EV RX9 cX9_keep 6 (some .int) false d pv_SC (MC h') (some (.inl r)) 158 [some (.inr (.inr (0))), some (.inl (a1)), some (.inl (a2)), none, some (.inl (v4)), some (.inl (v5))] [.inr (.inl (s0)), .inl (s1), .inr (.inr (s2))] pv_SC (MC h) := by
  unfold fX9_keep_158 at hf
  obtain ⟨h31, r32, hc30, hf⟩ := pv_c2o hf
  refine EV.invV (As := [.inl (s1), .inr (.inl (s0))]) (st := []) (d1 := d - 1) (sh1 := pv_SC) (h1 := MC h31) (r1 := (some (.inr (.inl r32)))) dX9_keep_158 (sl6_0 _ ms2) (by decide) md_X6_put ml_X9_312 im_X6_put se_X6_put (tX6_put (by omega) (ms2) hc30) (by omega) rfl rfl (Nat.le_of_ble_eq_true rfl) ⟨[], (List.append_nil _).symm⟩ ?_
  refine EV.eqS (st2 := [.inr (.inl (r32))]) rfl ?_
  refine EV.pop2 dX9_keep_161 rfl ?_
  obtain ⟨x33, ex33, hf⟩ := pv_bo hf
  refine FV.inc (L2 := [some (.inr (.inr (0))), some (.inl (a1)), some (.inl (a2)), none, some (.inl (v4)), some (.inl (x33))]) dX9_keep_162 rfl (Nat.le_of_ble_eq_true rfl) ex33 rfl ?_
  refine EV.goto (tgt := 109) dX9_keep_165 (by decide) ?_
  refine EV.weak (L2 := [some (.inr (.inr (0))), some (.inl (a1)), some (.inl (a2)), none, some (.inl (v4)), some (.inl (x33))]) (And.intro rfl (And.intro rfl (And.intro rfl (And.intro rfl (And.intro rfl trivial))))) ?_
  exact hk109 _ _  _ hf

set_option maxHeartbeats 4000000 in
set_option maxRecDepth 20000 in
theorem tX9_keep_109 {d N : Nat}  {a1 : Int} {a2 : Int} {h' : pv_H} {r : Int} (hd : 2 ≤ d)   : ∀ (n : Nat) (v4 : Int) (v5 : Int)  (h : pv_H), fX9_keep_109 N  a1 a2 n v4 v5 h = some (h', r) → EV RX9 cX9_keep 6 (some .int) false d pv_SC (MC h') (some (.inl r)) 109 [some (.inr (.inr (0))), some (.inl (a1)), some (.inl (a2)), none, some (.inl (v4)), some (.inl (v5))] [] pv_SC (MC h) := by
  intro n
  induction n with
  | zero =>
    intro v4 v5  h hf
    cases hf
  | succ n ih =>
    intro v4 v5  h hf
    rw [fX9_keep_109] at hf
    refine EV.iload dX9_keep_109 rfl ?_
    refine EV.iload dX9_keep_111 rfl ?_
    refine EV.icmp_ge (tgt := 168) dX9_keep_113 (by decide) (fun q23 => ?_) (fun q23 => ?_)
    · have hf := pv_gp hf q23
      refine EV.iload dX9_keep_168 rfl ?_
      exact FV.iret dX9_keep_170 hf
    · have hf := pv_gn hf q23
      refine EV.aload_n dX9_keep_116 rfl rfl ?_
      refine FV.getF (v := 76) dX9_keep_117 sc_0 fl_9_29 rfl rfl hvc_0_3 ?_
      refine EV.iload_n dX9_keep_120 rfl rfl ?_
      obtain ⟨g24, hf⟩ := pv_gd hf
      obtain ⟨x25, ex25, hf⟩ := pv_bo hf
      have mx25 : x25 ∈ pv_l6 := ex25 ▸ mq_76 _ (by omega)
      refine FV.aald (a := 3) (v := x25) dX9_keep_121 sc_76 (by decide) g24.1 g24.2 (j := (Int.toNat (a1))) rfl rfl (by rw [hq_76 _ (by omega), ex25]) ?_
      refine EV.iload dX9_keep_122 rfl ?_
      refine EV.iload_n dX9_keep_124 rfl rfl ?_
      refine EV.if_ne (tgt := 145) dX9_keep_125 (by decide) (fun q26 => ?_) (fun q26 => ?_)
      · have hf := pv_gn hf q26
        refine EV.aload_n dX9_keep_145 rfl rfl ?_
        refine FV.getF (v := 20) dX9_keep_146 sc_0 fl_9_19 rfl rfl hvc_0_1 ?_
        refine FV.getF (v := 30) dX9_keep_149 sc_20 fl_9_186 rfl rfl hvc_20_6 ?_
        refine EV.iload dX9_keep_152 rfl ?_
        obtain ⟨r28, hc27, hf⟩ := pv_c1o hf
        refine EV.invV (As := [.inl (v5)]) (st := [.inl (v5), .inr (.inr (x25))]) (d1 := d - 1) (sh1 := pv_SC) (h1 := MC h) (r1 := (some (.inl r28))) dX9_keep_154 sc_30 (by decide) md_X7_tickOf ml_X9_315 im_X7_tickOf se_X7_tickOf (tX7_tickOf (by omega) ((by decide : 30 ∈ pv_l7)) hc27) (by omega) rfl rfl (Nat.le_of_ble_eq_true rfl) ⟨[], (List.append_nil _).symm⟩ ?_
        refine EV.eqS (st2 := [.inl (r28), .inl (v5), .inr (.inr (x25))]) rfl ?_
        refine EV.i2l dX9_keep_157 ?_
        refine EV.weak (L2 := [some (.inr (.inr (0))), some (.inl (a1)), some (.inl (a2)), none, some (.inl (v4)), some (.inl (v5))]) (And.intro rfl (And.intro rfl (And.intro rfl (And.intro rfl (And.intro rfl trivial))))) ?_
        exact tX9_keep_158 hd (ih)  (mx25) hf
      · have hf := pv_gp hf q26
        refine EV.aload_n dX9_keep_128 rfl rfl ?_
        refine FV.getF (v := 20) dX9_keep_129 sc_0 fl_9_19 rfl rfl hvc_0_1 ?_
        refine FV.getF (v := 30) dX9_keep_132 sc_20 fl_9_186 rfl rfl hvc_20_6 ?_
        refine FV.getF (v := 34) dX9_keep_135 sc_30 fl_9_211 rfl rfl hvc_30_4 ?_
        refine EV.iload dX9_keep_138 rfl ?_
        obtain ⟨g29, hf⟩ := pv_gd hf
        refine FV.iald dX9_keep_140 sc_34 g29.1 g29.2 (j := (Int.toNat (v5))) rfl ?_
        refine EV.i2l dX9_keep_141 ?_
        refine EV.goto (tgt := 158) dX9_keep_142 (by decide) ?_
        refine EV.weak (L2 := [some (.inr (.inr (0))), some (.inl (a1)), some (.inl (a2)), none, some (.inl (v4)), some (.inl (v5))]) (And.intro rfl (And.intro rfl (And.intro rfl (And.intro rfl (And.intro rfl trivial))))) ?_
        exact tX9_keep_158 hd (ih)  (mx25) hf

set_option maxHeartbeats 4000000 in
set_option maxRecDepth 20000 in
theorem tX9_keep_90 {d N : Nat}  {a1 : Int} {a2 : Int} {s0 : Int} {h h' : pv_H} {r : Int} (hd : 2 ≤ d)    (hf : fX9_keep_90 N  a1 a2 s0 h = some (h', r)) : EV RX9 cX9_keep 6 (some .int) false d pv_SC (MC h') (some (.inl r)) 90 [some (.inr (.inr (0))), some (.inl (a1)), some (.inl (a2)), none, none, none] [.inl (s0)] pv_SC (MC h) := by
  unfold fX9_keep_90 at hf
  refine FV.sti (L2 := [some (.inr (.inr (0))), some (.inl (a1)), some (.inl (a2)), some (.inl (s0)), none, none]) dX9_keep_90 rfl (Nat.le_of_ble_eq_true rfl) rfl rfl ?_
  refine EV.iload_n dX9_keep_91 rfl rfl ?_
  refine EV.aload_n dX9_keep_92 rfl rfl ?_
  refine FV.getF (v := 76) dX9_keep_93 sc_0 fl_9_29 rfl rfl hvc_0_3 ?_
  refine EV.iload_n dX9_keep_96 rfl rfl ?_
  obtain ⟨g20, hf⟩ := pv_gd hf
  obtain ⟨x21, ex21, hf⟩ := pv_bo hf
  have mx21 : x21 ∈ pv_l6 := ex21 ▸ mq_76 _ (by omega)
  refine FV.aald (a := 3) (v := x21) dX9_keep_97 sc_76 (by decide) g20.1 g20.2 (j := (Int.toNat (a1))) rfl rfl (by rw [hq_76 _ (by omega), ex21]) ?_
  refine FV.getI dX9_keep_98 (sl6_0 _ mx21) fl_9_309 rfl ?_
  refine EV.mmin dX9_keep_101 ml_X9_254 w_mins w_mai w_minc (by omega) (Nat.le_of_ble_eq_true rfl) ?_
  obtain ⟨x22, ex22, hf⟩ := pv_bo hf
  refine FV.stiw (L2 := [some (.inr (.inr (0))), some (.inl (a1)), some (.inl (a2)), some (.inl (s0)), some (.inl (x22)), none]) dX9_keep_104 (Nat.le_of_ble_eq_true rfl) ex22 rfl ?_
  refine EV.iconst dX9_keep_106 (by decide) (by decide) ?_
  refine FV.stiw (L2 := [some (.inr (.inr (0))), some (.inl (a1)), some (.inl (a2)), some (.inl (s0)), some (.inl (x22)), some (.inl (0))]) dX9_keep_107 (Nat.le_of_ble_eq_true rfl) rfl rfl ?_
  refine EV.weak (L2 := [some (.inr (.inr (0))), some (.inl (a1)), some (.inl (a2)), none, some (.inl (x22)), some (.inl (0))]) (And.intro rfl (And.intro rfl (And.intro rfl (And.intro rfl (And.intro rfl trivial))))) ?_
  exact tX9_keep_109 hd   _ _ _  _ hf

set_option maxHeartbeats 4000000 in
set_option maxRecDepth 20000 in
theorem tX9_keep {d N : Nat} {a1 : Int} {a2 : Int} {h h' : pv_H} {r : Int} (hd : 2 ≤ d)  (hf : fX9_keep N a1 a2 h = some (h', r)) : CALL yX9_keep cX9_keep 6 (some .int) d pv_SC (MC h) [.inr (.inr (0)), .inl (a1), .inl (a2)] pv_SC (MC h') (some (.inl r)) := by
  unfold fX9_keep at hf
  refine EV.call (own := RX9) (ini := false) rfl rfl (fun q => by cases q) ⟨[], (List.append_nil _).symm⟩ (Nat.le_of_ble_eq_true rfl) ?_
  refine EV.eqL (L2 := [some (.inr (.inr (0))), some (.inl (a1)), some (.inl (a2)), none, none, none]) rfl ?_
  refine EV.iload_n dX9_keep_0 rfl rfl ?_
  obtain ⟨r2, hc1, hf⟩ := pv_c1o hf
  refine EV.invS (As := [.inl (a1)]) (st := []) (d1 := d - 1) (sh1 := pv_SC) (h1 := MC h) (r1 := (some (.inl r2))) dX9_keep_1 md_X9_isRow ml_X9_220 st_X9_isRow (tX9_isRow (by omega)  hc1) (by omega) rfl rfl (Nat.le_of_ble_eq_true rfl) ⟨[], (List.append_nil _).symm⟩ ?_
  refine EV.eqS (st2 := [.inl (r2)]) rfl ?_
  refine EV.if_eq (tgt := 16) dX9_keep_4 (by decide) (fun q3 => ?_) (fun q3 => ?_)
  · have hf := pv_gp hf q3
    refine EV.weak (L2 := [some (.inr (.inr (0))), none, none, none, none, none]) (And.intro rfl trivial) ?_
    exact tX9_keep_16 hd    hf
  · have hf := pv_gn hf q3
    refine EV.iload_n dX9_keep_7 rfl rfl ?_
    refine EV.if_lt (tgt := 16) dX9_keep_8 (by decide) (fun q4 => ?_) (fun q4 => ?_)
    · have hf := pv_gp hf q4
      refine EV.weak (L2 := [some (.inr (.inr (0))), none, none, none, none, none]) (And.intro rfl trivial) ?_
      exact tX9_keep_16 hd    hf
    · have hf := pv_gn hf q4
      refine EV.iload_n dX9_keep_11 rfl rfl ?_
      refine EV.iconst dX9_keep_12 (by decide) (by decide) ?_
      refine EV.icmp_le (tgt := 23) dX9_keep_13 (by decide) (fun q5 => ?_) (fun q5 => ?_)
      · have hf := pv_gp hf q5
        refine EV.aload_n dX9_keep_23 rfl rfl ?_
        refine FV.getF (v := 20) dX9_keep_24 sc_0 fl_9_19 rfl rfl hvc_0_1 ?_
        refine FV.getI dX9_keep_27 sc_20 fl_9_198 rfl ?_
        refine EV.if_ne (tgt := 40) dX9_keep_30 (by decide) (fun q6 => ?_) (fun q6 => ?_)
        · have hf := pv_gn hf q6
          refine EV.aload_n dX9_keep_40 rfl rfl ?_
          refine FV.getF (v := 76) dX9_keep_41 sc_0 fl_9_29 rfl rfl hvc_0_3 ?_
          refine EV.iload_n dX9_keep_44 rfl rfl ?_
          obtain ⟨g7, hf⟩ := pv_gd hf
          obtain ⟨x8, ex8, hf⟩ := pv_bo hf
          have mx8 : x8 ∈ pv_l6 := ex8 ▸ mq_76 _ (by omega)
          refine FV.aald (a := 3) (v := x8) dX9_keep_45 sc_76 (by decide) g7.1 g7.2 (j := (Int.toNat (a1))) rfl rfl (by rw [hq_76 _ (by omega), ex8]) ?_
          refine FV.getI dX9_keep_46 (sl6_0 _ mx8) fl_9_223 rfl ?_
          refine EV.if_ne (tgt := 59) dX9_keep_49 (by decide) (fun q9 => ?_) (fun q9 => ?_)
          · have hf := pv_gn hf q9
            refine EV.iload_n dX9_keep_59 rfl rfl ?_
            refine EV.if_ne (tgt := 78) dX9_keep_60 (by decide) (fun q10 => ?_) (fun q10 => ?_)
            · have hf := pv_gn hf q10
              refine EV.aload_n dX9_keep_78 rfl rfl ?_
              refine FV.getF (v := 20) dX9_keep_79 sc_0 fl_9_19 rfl rfl hvc_0_1 ?_
              refine FV.getF (v := 30) dX9_keep_82 sc_20 fl_9_186 rfl rfl hvc_20_6 ?_
              refine FV.getF (v := 31) dX9_keep_85 sc_30 fl_9_202 rfl rfl hvc_30_1 ?_
              refine EV.iconst dX9_keep_88 (by decide) (by decide) ?_
              refine FV.iald dX9_keep_89 sc_31 (by decide) (by decide) (j := 0) rfl ?_
              refine EV.weak (L2 := [some (.inr (.inr (0))), some (.inl (a1)), some (.inl (a2)), none, none, none]) (And.intro rfl (And.intro rfl (And.intro rfl trivial))) ?_
              exact tX9_keep_90 hd    hf
            · have hf := pv_gp hf q10
              refine EV.aload_n dX9_keep_63 rfl rfl ?_
              refine FV.getF (v := 20) dX9_keep_64 sc_0 fl_9_19 rfl rfl hvc_0_1 ?_
              refine FV.getF (v := 30) dX9_keep_67 sc_20 fl_9_186 rfl rfl hvc_20_6 ?_
              refine FV.getF (v := 31) dX9_keep_70 sc_30 fl_9_202 rfl rfl hvc_30_1 ?_
              refine EV.iconst dX9_keep_73 (by decide) (by decide) ?_
              refine FV.iald dX9_keep_74 sc_31 (by decide) (by decide) (j := 1) rfl ?_
              refine EV.goto (tgt := 90) dX9_keep_75 (by decide) ?_
              refine EV.weak (L2 := [some (.inr (.inr (0))), some (.inl (a1)), some (.inl (a2)), none, none, none]) (And.intro rfl (And.intro rfl (And.intro rfl trivial))) ?_
              exact tX9_keep_90 hd    hf
          · have hf := pv_gp hf q9
            refine EV.aload_n dX9_keep_52 rfl rfl ?_
            refine EV.bipush dX9_keep_53 (by decide) (by decide) ?_
            obtain ⟨h12, r13, hc11, hf⟩ := pv_c2o hf
            refine EV.invV (As := [.inl (-6)]) (st := []) (d1 := d - 1) (sh1 := pv_SC) (h1 := MC h12) (r1 := (some (.inl r13))) dX9_keep_55 sc_0 (by decide) md_X9_refuse ml_X9_59 im_X9_refuse se_X9_refuse (tX9_refuse (by omega)  hc11) (by omega) rfl rfl (Nat.le_of_ble_eq_true rfl) ⟨[], (List.append_nil _).symm⟩ ?_
            refine EV.eqS (st2 := [.inl (r13)]) rfl ?_
            exact FV.iret dX9_keep_58 hf
        · have hf := pv_gp hf q6
          refine EV.aload_n dX9_keep_33 rfl rfl ?_
          refine EV.bipush dX9_keep_34 (by decide) (by decide) ?_
          obtain ⟨h15, r16, hc14, hf⟩ := pv_c2o hf
          refine EV.invV (As := [.inl (-5)]) (st := []) (d1 := d - 1) (sh1 := pv_SC) (h1 := MC h15) (r1 := (some (.inl r16))) dX9_keep_36 sc_0 (by decide) md_X9_refuse ml_X9_59 im_X9_refuse se_X9_refuse (tX9_refuse (by omega)  hc14) (by omega) rfl rfl (Nat.le_of_ble_eq_true rfl) ⟨[], (List.append_nil _).symm⟩ ?_
          refine EV.eqS (st2 := [.inl (r16)]) rfl ?_
          exact FV.iret dX9_keep_39 hf
      · have hf := pv_gn hf q5
        refine EV.weak (L2 := [some (.inr (.inr (0))), none, none, none, none, none]) (And.intro rfl trivial) ?_
        exact tX9_keep_16 hd    hf

noncomputable def fX9_image_9 (N : Nat)  (a1 : Int)  (h : pv_H) : Option (pv_H × Int) :=
  pv_c2b (fX9_refuse N (-2) h) fun h11 r12 => some (h11, r12)

noncomputable def fX9_image (N : Nat) (a1 : Int) (h : pv_H) : Option (pv_H × Int) :=
  if a1 < 0 then (fX9_image_9 N  a1  h) else (if a1 < 2 then (if 0 ≤ a1 ∧ a1 < 2 then (pv_b (106 + 55 * (Int.toNat (a1))) fun x4 => pv_c1 (fX8_copyFrom N x4 20 h) fun h6 => if 0 ≤ a1 ∧ a1 < 2 then (pv_b (106 + 55 * (Int.toNat (a1))) fun x8 => pv_b (pv_up h6 x8 0 1) fun h9 => some (h9, 0)) else none) else none) else (fX9_image_9 N  a1  h))

set_option maxHeartbeats 4000000 in
set_option maxRecDepth 20000 in
theorem tX9_image_9 {d N : Nat}  {a1 : Int}  {h h' : pv_H} {r : Int} (hd : 4 ≤ d)    (hf : fX9_image_9 N  a1  h = some (h', r)) : EV RX9 cX9_image 2 (some .int) false d pv_SC (MC h') (some (.inl r)) 9 [some (.inr (.inr (0))), none] [] pv_SC (MC h) := by
  unfold fX9_image_9 at hf
  refine EV.aload_n dX9_image_9 rfl rfl ?_
  refine EV.bipush dX9_image_10 (by decide) (by decide) ?_
  obtain ⟨h11, r12, hc10, hf⟩ := pv_c2o hf
  refine EV.invV (As := [.inl (-2)]) (st := []) (d1 := d - 1) (sh1 := pv_SC) (h1 := MC h11) (r1 := (some (.inl r12))) dX9_image_12 sc_0 (by decide) md_X9_refuse ml_X9_59 im_X9_refuse se_X9_refuse (tX9_refuse (by omega)  hc10) (by omega) rfl rfl (Nat.le_of_ble_eq_true rfl) ⟨[], (List.append_nil _).symm⟩ ?_
  refine EV.eqS (st2 := [.inl (r12)]) rfl ?_
  exact FV.iret dX9_image_15 hf

set_option maxHeartbeats 4000000 in
set_option maxRecDepth 20000 in
theorem tX9_image {d N : Nat} {a1 : Int} {h h' : pv_H} {r : Int} (hd : 4 ≤ d)  (hf : fX9_image N a1 h = some (h', r)) : CALL yX9_image cX9_image 2 (some .int) d pv_SC (MC h) [.inr (.inr (0)), .inl (a1)] pv_SC (MC h') (some (.inl r)) := by
  unfold fX9_image at hf
  refine EV.call (own := RX9) (ini := false) rfl rfl (fun q => by cases q) ⟨[], (List.append_nil _).symm⟩ (Nat.le_of_ble_eq_true rfl) ?_
  refine EV.eqL (L2 := [some (.inr (.inr (0))), some (.inl (a1))]) rfl ?_
  refine EV.iload_n dX9_image_0 rfl rfl ?_
  refine EV.if_lt (tgt := 9) dX9_image_1 (by decide) (fun q1 => ?_) (fun q1 => ?_)
  · have hf := pv_gp hf q1
    refine EV.weak (L2 := [some (.inr (.inr (0))), none]) (And.intro rfl trivial) ?_
    exact tX9_image_9 hd    hf
  · have hf := pv_gn hf q1
    refine EV.iload_n dX9_image_4 rfl rfl ?_
    refine EV.iconst dX9_image_5 (by decide) (by decide) ?_
    refine EV.icmp_lt (tgt := 16) dX9_image_6 (by decide) (fun q2 => ?_) (fun q2 => ?_)
    · have hf := pv_gp hf q2
      refine EV.aload_n dX9_image_16 rfl rfl ?_
      refine FV.getF (v := 75) dX9_image_17 sc_0 fl_9_23 rfl rfl hvc_0_2 ?_
      refine EV.iload_n dX9_image_20 rfl rfl ?_
      obtain ⟨g3, hf⟩ := pv_gd hf
      obtain ⟨x4, ex4, hf⟩ := pv_bo hf
      have mx4 : x4 ∈ pv_l8 := ex4 ▸ mq_75 _ (by omega)
      refine FV.aald (a := 2) (v := x4) dX9_image_21 sc_75 (by decide) g3.1 g3.2 (j := (Int.toNat (a1))) rfl rfl (by rw [hq_75 _ (by omega), ex4]) ?_
      refine EV.aload_n dX9_image_22 rfl rfl ?_
      refine FV.getF (v := 20) dX9_image_23 sc_0 fl_9_19 rfl rfl hvc_0_1 ?_
      obtain ⟨h6, hc5, hf⟩ := pv_c1o hf
      refine EV.invV (As := [.inr (.inr (20))]) (st := []) (d1 := d - 1) (sh1 := pv_SC) (h1 := MC h6) (r1 := none) dX9_image_26 (sl8_0 _ mx4) (by decide) md_X8_copyFrom ml_X9_318 im_X8_copyFrom se_X8_copyFrom (tX8_copyFrom (by omega) (mx4) ((by decide : 20 ∈ pv_l8)) hc5) (by omega) rfl rfl (Nat.le_of_ble_eq_true rfl) ⟨[], (List.append_nil _).symm⟩ ?_
      refine EV.aload_n dX9_image_29 rfl rfl ?_
      refine FV.getF (v := 75) dX9_image_30 sc_0 fl_9_23 rfl rfl hvc_0_2 ?_
      refine EV.iload_n dX9_image_33 rfl rfl ?_
      obtain ⟨g7, hf⟩ := pv_gd hf
      obtain ⟨x8, ex8, hf⟩ := pv_bo hf
      have mx8 : x8 ∈ pv_l8 := ex8 ▸ mq_75 _ (by omega)
      refine FV.aald (a := 2) (v := x8) dX9_image_34 sc_75 (by decide) g7.1 g7.2 (j := (Int.toNat (a1))) rfl rfl (by rw [hq_75 _ (by omega), ex8]) ?_
      refine EV.iconst dX9_image_35 (by decide) (by decide) ?_
      obtain ⟨h9, eh9, hf⟩ := pv_bo hf
      refine FV.putZ dX9_image_36 (sl8_0 _ mx8) fl_9_321 rfl rfl (by decide) eh9 ?_
      refine EV.iconst dX9_image_39 (by decide) (by decide) ?_
      exact FV.iret dX9_image_40 hf
    · have hf := pv_gn hf q2
      refine EV.weak (L2 := [some (.inr (.inr (0))), none]) (And.intro rfl trivial) ?_
      exact tX9_image_9 hd    hf

noncomputable def fX9_restore_9 (N : Nat)  (a1 : Int)  (h : pv_H) : Option (pv_H × Int) :=
  pv_c2b (fX9_refuse N (-2) h) fun h14 r15 => some (h14, r15)

noncomputable def fX9_restore (N : Nat) (a1 : Int) (h : pv_H) : Option (pv_H × Int) :=
  if a1 < 0 then (fX9_restore_9 N  a1  h) else (if a1 < 2 then (if 0 ≤ a1 ∧ a1 < 2 then (pv_b (106 + 55 * (Int.toNat (a1))) fun x4 => if (h x4 0) = 0 then (pv_c2b (fX9_refuse N (-5) h) fun h11 r12 => some (h11, r12)) else (if 0 ≤ a1 ∧ a1 < 2 then (pv_b (106 + 55 * (Int.toNat (a1))) fun x7 => pv_c1 (fX8_copyFrom N 20 x7 h) fun h9 => some (h9, 0)) else none)) else none) else (fX9_restore_9 N  a1  h))

set_option maxHeartbeats 4000000 in
set_option maxRecDepth 20000 in
theorem tX9_restore_9 {d N : Nat}  {a1 : Int}  {h h' : pv_H} {r : Int} (hd : 4 ≤ d)    (hf : fX9_restore_9 N  a1  h = some (h', r)) : EV RX9 cX9_restore 2 (some .int) false d pv_SC (MC h') (some (.inl r)) 9 [some (.inr (.inr (0))), none] [] pv_SC (MC h) := by
  unfold fX9_restore_9 at hf
  refine EV.aload_n dX9_restore_9 rfl rfl ?_
  refine EV.bipush dX9_restore_10 (by decide) (by decide) ?_
  obtain ⟨h14, r15, hc13, hf⟩ := pv_c2o hf
  refine EV.invV (As := [.inl (-2)]) (st := []) (d1 := d - 1) (sh1 := pv_SC) (h1 := MC h14) (r1 := (some (.inl r15))) dX9_restore_12 sc_0 (by decide) md_X9_refuse ml_X9_59 im_X9_refuse se_X9_refuse (tX9_refuse (by omega)  hc13) (by omega) rfl rfl (Nat.le_of_ble_eq_true rfl) ⟨[], (List.append_nil _).symm⟩ ?_
  refine EV.eqS (st2 := [.inl (r15)]) rfl ?_
  exact FV.iret dX9_restore_15 hf

set_option maxHeartbeats 4000000 in
set_option maxRecDepth 20000 in
theorem tX9_restore {d N : Nat} {a1 : Int} {h h' : pv_H} {r : Int} (hd : 4 ≤ d)  (hf : fX9_restore N a1 h = some (h', r)) : CALL yX9_restore cX9_restore 2 (some .int) d pv_SC (MC h) [.inr (.inr (0)), .inl (a1)] pv_SC (MC h') (some (.inl r)) := by
  unfold fX9_restore at hf
  refine EV.call (own := RX9) (ini := false) rfl rfl (fun q => by cases q) ⟨[], (List.append_nil _).symm⟩ (Nat.le_of_ble_eq_true rfl) ?_
  refine EV.eqL (L2 := [some (.inr (.inr (0))), some (.inl (a1))]) rfl ?_
  refine EV.iload_n dX9_restore_0 rfl rfl ?_
  refine EV.if_lt (tgt := 9) dX9_restore_1 (by decide) (fun q1 => ?_) (fun q1 => ?_)
  · have hf := pv_gp hf q1
    refine EV.weak (L2 := [some (.inr (.inr (0))), none]) (And.intro rfl trivial) ?_
    exact tX9_restore_9 hd    hf
  · have hf := pv_gn hf q1
    refine EV.iload_n dX9_restore_4 rfl rfl ?_
    refine EV.iconst dX9_restore_5 (by decide) (by decide) ?_
    refine EV.icmp_lt (tgt := 16) dX9_restore_6 (by decide) (fun q2 => ?_) (fun q2 => ?_)
    · have hf := pv_gp hf q2
      refine EV.aload_n dX9_restore_16 rfl rfl ?_
      refine FV.getF (v := 75) dX9_restore_17 sc_0 fl_9_23 rfl rfl hvc_0_2 ?_
      refine EV.iload_n dX9_restore_20 rfl rfl ?_
      obtain ⟨g3, hf⟩ := pv_gd hf
      obtain ⟨x4, ex4, hf⟩ := pv_bo hf
      have mx4 : x4 ∈ pv_l8 := ex4 ▸ mq_75 _ (by omega)
      refine FV.aald (a := 2) (v := x4) dX9_restore_21 sc_75 (by decide) g3.1 g3.2 (j := (Int.toNat (a1))) rfl rfl (by rw [hq_75 _ (by omega), ex4]) ?_
      refine FV.getI dX9_restore_22 (sl8_0 _ mx4) fl_9_321 rfl ?_
      refine EV.if_ne (tgt := 35) dX9_restore_25 (by decide) (fun q5 => ?_) (fun q5 => ?_)
      · have hf := pv_gn hf q5
        refine EV.aload_n dX9_restore_35 rfl rfl ?_
        refine FV.getF (v := 20) dX9_restore_36 sc_0 fl_9_19 rfl rfl hvc_0_1 ?_
        refine EV.aload_n dX9_restore_39 rfl rfl ?_
        refine FV.getF (v := 75) dX9_restore_40 sc_0 fl_9_23 rfl rfl hvc_0_2 ?_
        refine EV.iload_n dX9_restore_43 rfl rfl ?_
        obtain ⟨g6, hf⟩ := pv_gd hf
        obtain ⟨x7, ex7, hf⟩ := pv_bo hf
        have mx7 : x7 ∈ pv_l8 := ex7 ▸ mq_75 _ (by omega)
        refine FV.aald (a := 2) (v := x7) dX9_restore_44 sc_75 (by decide) g6.1 g6.2 (j := (Int.toNat (a1))) rfl rfl (by rw [hq_75 _ (by omega), ex7]) ?_
        obtain ⟨h9, hc8, hf⟩ := pv_c1o hf
        refine EV.invV (As := [.inr (.inr (x7))]) (st := []) (d1 := d - 1) (sh1 := pv_SC) (h1 := MC h9) (r1 := none) dX9_restore_45 sc_20 (by decide) md_X8_copyFrom ml_X9_318 im_X8_copyFrom se_X8_copyFrom (tX8_copyFrom (by omega) ((by decide : 20 ∈ pv_l8)) (mx7) hc8) (by omega) rfl rfl (Nat.le_of_ble_eq_true rfl) ⟨[], (List.append_nil _).symm⟩ ?_
        refine EV.iconst dX9_restore_48 (by decide) (by decide) ?_
        exact FV.iret dX9_restore_49 hf
      · have hf := pv_gp hf q5
        refine EV.aload_n dX9_restore_28 rfl rfl ?_
        refine EV.bipush dX9_restore_29 (by decide) (by decide) ?_
        obtain ⟨h11, r12, hc10, hf⟩ := pv_c2o hf
        refine EV.invV (As := [.inl (-5)]) (st := []) (d1 := d - 1) (sh1 := pv_SC) (h1 := MC h11) (r1 := (some (.inl r12))) dX9_restore_31 sc_0 (by decide) md_X9_refuse ml_X9_59 im_X9_refuse se_X9_refuse (tX9_refuse (by omega)  hc10) (by omega) rfl rfl (Nat.le_of_ble_eq_true rfl) ⟨[], (List.append_nil _).symm⟩ ?_
        refine EV.eqS (st2 := [.inl (r12)]) rfl ?_
        exact FV.iret dX9_restore_34 hf
    · have hf := pv_gn hf q2
      refine EV.weak (L2 := [some (.inr (.inr (0))), none]) (And.intro rfl trivial) ?_
      exact tX9_restore_9 hd    hf

noncomputable def fX9_status (N : Nat) (a1 : Int) (h : pv_H) : Option (Int) :=
  if a1 = 1 then (if 0 ≤ a1 ∧ a1 < 8 then (some (h 77 (Int.toNat (a1)))) else none) else (if a1 = 2 then (if 0 ≤ a1 ∧ a1 < 8 then (some (h 77 (Int.toNat (a1)))) else none) else (if a1 = 3 then (if 0 ≤ a1 ∧ a1 < 8 then (some (h 77 (Int.toNat (a1)))) else none) else (if a1 = 4 then (some (-1)) else (if a1 = 5 then (if 0 ≤ a1 ∧ a1 < 8 then (some (h 77 (Int.toNat (a1)))) else none) else (if a1 = 6 then (if 0 ≤ a1 ∧ a1 < 8 then (some (h 77 (Int.toNat (a1)))) else none) else (if a1 = 7 then (if 0 ≤ a1 ∧ a1 < 8 then (some (h 77 (Int.toNat (a1)))) else none) else (some (-1))))))))

set_option maxHeartbeats 4000000 in
set_option maxRecDepth 20000 in
theorem tX9_status {d N : Nat} {a1 : Int} {h : pv_H} {r : Int} (hd : 1 ≤ d)  (hf : fX9_status N a1 h = some r) : CALL yX9_status cX9_status 2 (some .int) d pv_SC (MC h) [.inr (.inr (0)), .inl (a1)] pv_SC (MC h) (some (.inl r)) := by
  unfold fX9_status at hf
  refine EV.call (own := RX9) (ini := false) rfl rfl (fun q => by cases q) ⟨[], (List.append_nil _).symm⟩ (Nat.le_of_ble_eq_true rfl) ?_
  refine EV.eqL (L2 := [some (.inr (.inr (0))), some (.inl (a1))]) rfl ?_
  refine EV.iload_n dX9_status_0 rfl rfl ?_
  by_cases q1 : a1 = 1
  · have hf := pv_gp hf q1
    refine EV.tabIn (tgt := 44) dX9_status_1 (by omega) (by omega) (by rw [q1]; rfl) (by decide) ?_
    refine EV.aload_n dX9_status_44 rfl rfl ?_
    refine FV.getF (v := 77) dX9_status_45 sc_0 fl_9_33 rfl rfl hvc_0_4 ?_
    refine EV.iload_n dX9_status_48 rfl rfl ?_
    obtain ⟨g1, hf⟩ := pv_gd hf
    refine FV.iald dX9_status_49 sc_77 g1.1 g1.2 (j := (Int.toNat (a1))) rfl ?_
    exact FV.iretp dX9_status_50 hf
  · have hf := pv_gn hf q1
    by_cases q2 : a1 = 2
    · have hf := pv_gp hf q2
      refine EV.tabIn (tgt := 44) dX9_status_1 (by omega) (by omega) (by rw [q2]; rfl) (by decide) ?_
      refine EV.aload_n dX9_status_44 rfl rfl ?_
      refine FV.getF (v := 77) dX9_status_45 sc_0 fl_9_33 rfl rfl hvc_0_4 ?_
      refine EV.iload_n dX9_status_48 rfl rfl ?_
      obtain ⟨g2, hf⟩ := pv_gd hf
      refine FV.iald dX9_status_49 sc_77 g2.1 g2.2 (j := (Int.toNat (a1))) rfl ?_
      exact FV.iretp dX9_status_50 hf
    · have hf := pv_gn hf q2
      by_cases q3 : a1 = 3
      · have hf := pv_gp hf q3
        refine EV.tabIn (tgt := 44) dX9_status_1 (by omega) (by omega) (by rw [q3]; rfl) (by decide) ?_
        refine EV.aload_n dX9_status_44 rfl rfl ?_
        refine FV.getF (v := 77) dX9_status_45 sc_0 fl_9_33 rfl rfl hvc_0_4 ?_
        refine EV.iload_n dX9_status_48 rfl rfl ?_
        obtain ⟨g3, hf⟩ := pv_gd hf
        refine FV.iald dX9_status_49 sc_77 g3.1 g3.2 (j := (Int.toNat (a1))) rfl ?_
        exact FV.iretp dX9_status_50 hf
      · have hf := pv_gn hf q3
        by_cases q4 : a1 = 4
        · have hf := pv_gp hf q4
          refine EV.tabIn (tgt := 51) dX9_status_1 (by omega) (by omega) (by rw [q4]; rfl) (by decide) ?_
          refine EV.iconst dX9_status_51 (by decide) (by decide) ?_
          exact FV.iretp dX9_status_52 hf
        · have hf := pv_gn hf q4
          by_cases q5 : a1 = 5
          · have hf := pv_gp hf q5
            refine EV.tabIn (tgt := 44) dX9_status_1 (by omega) (by omega) (by rw [q5]; rfl) (by decide) ?_
            refine EV.aload_n dX9_status_44 rfl rfl ?_
            refine FV.getF (v := 77) dX9_status_45 sc_0 fl_9_33 rfl rfl hvc_0_4 ?_
            refine EV.iload_n dX9_status_48 rfl rfl ?_
            obtain ⟨g4, hf⟩ := pv_gd hf
            refine FV.iald dX9_status_49 sc_77 g4.1 g4.2 (j := (Int.toNat (a1))) rfl ?_
            exact FV.iretp dX9_status_50 hf
          · have hf := pv_gn hf q5
            by_cases q6 : a1 = 6
            · have hf := pv_gp hf q6
              refine EV.tabIn (tgt := 44) dX9_status_1 (by omega) (by omega) (by rw [q6]; rfl) (by decide) ?_
              refine EV.aload_n dX9_status_44 rfl rfl ?_
              refine FV.getF (v := 77) dX9_status_45 sc_0 fl_9_33 rfl rfl hvc_0_4 ?_
              refine EV.iload_n dX9_status_48 rfl rfl ?_
              obtain ⟨g5, hf⟩ := pv_gd hf
              refine FV.iald dX9_status_49 sc_77 g5.1 g5.2 (j := (Int.toNat (a1))) rfl ?_
              exact FV.iretp dX9_status_50 hf
            · have hf := pv_gn hf q6
              by_cases q7 : a1 = 7
              · have hf := pv_gp hf q7
                refine EV.tabIn (tgt := 44) dX9_status_1 (by omega) (by omega) (by rw [q7]; rfl) (by decide) ?_
                refine EV.aload_n dX9_status_44 rfl rfl ?_
                refine FV.getF (v := 77) dX9_status_45 sc_0 fl_9_33 rfl rfl hvc_0_4 ?_
                refine EV.iload_n dX9_status_48 rfl rfl ?_
                obtain ⟨g6, hf⟩ := pv_gd hf
                refine FV.iald dX9_status_49 sc_77 g6.1 g6.2 (j := (Int.toNat (a1))) rfl ?_
                exact FV.iretp dX9_status_50 hf
              · have hf := pv_gn hf q7
                refine EV.tabOut (tgt := 51) dX9_status_1 (by omega) (by decide) ?_
                refine EV.iconst dX9_status_51 (by decide) (by decide) ?_
                exact FV.iretp dX9_status_52 hf

noncomputable def fX9_count_141 (N : Nat)  (a1 : Int)  (h : pv_H) : Option (Int) :=
  some (-1)

noncomputable def fX9_count_113 (N : Nat)  (a1 : Int)  (h : pv_H) : Option (Int) :=
  if a1 < 30 then (fX9_count_141 N  a1  h) else (if 34 ≤ a1 then (fX9_count_141 N  a1  h) else (if 0 ≤ pv_w (a1 - 30) ∧ pv_w (a1 - 30) < 4 then (pv_b (59 + 4 * (Int.toNat (pv_w (a1 - 30)))) fun x17 => pv_c1 (fX0_allTicks N x17 h) fun r19 => some (r19)) else none))

noncomputable def fX9_count_51 (N : Nat)  (a1 : Int)  (h : pv_H) : Option (Int) :=
  if a1 = 10 then (some (h 23 0)) else (if a1 = 11 then (some (h 25 0)) else (if a1 < 20 then (fX9_count_113 N  a1  h) else (if 24 ≤ a1 then (fX9_count_113 N  a1  h) else (if 0 ≤ pv_w (a1 - 20) ∧ pv_w (a1 - 20) < 4 then (pv_b (59 + 4 * (Int.toNat (pv_w (a1 - 20)))) fun x13 => some (h x13 0)) else none))))

noncomputable def fX9_count (N : Nat) (a1 : Int) (h : pv_H) : Option (Int) :=
  if a1 = 0 then (some (h 1 0)) else (if a1 = 1 then (pv_c1 (fX8_rodsThere N 20 h) fun r7 => some (r7)) else (if a1 < 2 then (fX9_count_51 N  a1  h) else (if 10 ≤ a1 then (fX9_count_51 N  a1  h) else (if 0 ≤ pv_w (a1 - 2) ∧ pv_w (a1 - 2) < 8 then (some (h 24 (Int.toNat (pv_w (a1 - 2))))) else none))))

set_option maxHeartbeats 4000000 in
set_option maxRecDepth 20000 in
theorem tX9_count_141 {d N : Nat}  {a1 : Int}  {h : pv_H} {r : Int} (hd : 2 ≤ d)    (hf : fX9_count_141 N  a1  h = some r) : EV RX9 cX9_count 2 (some .int) false d pv_SC (MC h) (some (.inl r)) 141 [none, none] [] pv_SC (MC h) := by
  unfold fX9_count_141 at hf
  refine EV.iconst dX9_count_141 (by decide) (by decide) ?_
  exact FV.iretp dX9_count_142 hf

set_option maxHeartbeats 4000000 in
set_option maxRecDepth 20000 in
theorem tX9_count_113 {d N : Nat}  {a1 : Int}  {h : pv_H} {r : Int} (hd : 2 ≤ d)    (hf : fX9_count_113 N  a1  h = some r) : EV RX9 cX9_count 2 (some .int) false d pv_SC (MC h) (some (.inl r)) 113 [some (.inr (.inr (0))), some (.inl (a1))] [] pv_SC (MC h) := by
  unfold fX9_count_113 at hf
  refine EV.iload_n dX9_count_113 rfl rfl ?_
  refine EV.bipush dX9_count_114 (by decide) (by decide) ?_
  refine EV.icmp_lt (tgt := 141) dX9_count_116 (by decide) (fun q14 => ?_) (fun q14 => ?_)
  · have hf := pv_gp hf q14
    refine EV.weak (L2 := [none, none]) trivial ?_
    exact tX9_count_141 hd    hf
  · have hf := pv_gn hf q14
    refine EV.iload_n dX9_count_119 rfl rfl ?_
    refine EV.bipush dX9_count_120 (by decide) (by decide) ?_
    refine EV.icmp_ge (tgt := 141) dX9_count_122 (by decide) (fun q15 => ?_) (fun q15 => ?_)
    · have hf := pv_gp hf q15
      refine EV.weak (L2 := [none, none]) trivial ?_
      exact tX9_count_141 hd    hf
    · have hf := pv_gn hf q15
      refine EV.aload_n dX9_count_125 rfl rfl ?_
      refine FV.getF (v := 20) dX9_count_126 sc_0 fl_9_19 rfl rfl hvc_0_1 ?_
      refine FV.getF (v := 22) dX9_count_129 sc_20 fl_9_105 rfl rfl hvc_20_3 ?_
      refine EV.iload_n dX9_count_132 rfl rfl ?_
      refine EV.bipush dX9_count_133 (by decide) (by decide) ?_
      refine EV.isub dX9_count_135 ?_
      obtain ⟨g16, hf⟩ := pv_gd hf
      obtain ⟨x17, ex17, hf⟩ := pv_bo hf
      have mx17 : x17 ∈ pv_l0 := ex17 ▸ mq_22 _ (by omega)
      refine FV.aald (a := 1) (v := x17) dX9_count_136 sc_22 (by decide) g16.1 g16.2 (j := (Int.toNat (pv_w (a1 - 30)))) rfl rfl (by rw [hq_22 _ (by omega), ex17]) ?_
      obtain ⟨r19, hc18, hf⟩ := pv_c1o hf
      refine EV.invV (As := []) (st := []) (d1 := d - 1) (sh1 := pv_SC) (h1 := MC h) (r1 := (some (.inl r19))) dX9_count_137 (sl0_0 _ mx17) (by decide) md_X0_allTicks ml_X9_332 im_X0_allTicks se_X0_allTicks (tX0_allTicks (by omega) (mx17) hc18) (by omega) rfl rfl (Nat.le_of_ble_eq_true rfl) ⟨[], (List.append_nil _).symm⟩ ?_
      refine EV.eqS (st2 := [.inl (r19)]) rfl ?_
      exact FV.iretp dX9_count_140 hf

set_option maxHeartbeats 4000000 in
set_option maxRecDepth 20000 in
theorem tX9_count_51 {d N : Nat}  {a1 : Int}  {h : pv_H} {r : Int} (hd : 2 ≤ d)    (hf : fX9_count_51 N  a1  h = some r) : EV RX9 cX9_count 2 (some .int) false d pv_SC (MC h) (some (.inl r)) 51 [some (.inr (.inr (0))), some (.inl (a1))] [] pv_SC (MC h) := by
  unfold fX9_count_51 at hf
  refine EV.iload_n dX9_count_51 rfl rfl ?_
  refine EV.bipush dX9_count_52 (by decide) (by decide) ?_
  refine EV.icmp_ne (tgt := 68) dX9_count_54 (by decide) (fun q8 => ?_) (fun q8 => ?_)
  · have hf := pv_gn hf q8
    refine EV.iload_n dX9_count_68 rfl rfl ?_
    refine EV.bipush dX9_count_69 (by decide) (by decide) ?_
    refine EV.icmp_ne (tgt := 85) dX9_count_71 (by decide) (fun q9 => ?_) (fun q9 => ?_)
    · have hf := pv_gn hf q9
      refine EV.iload_n dX9_count_85 rfl rfl ?_
      refine EV.bipush dX9_count_86 (by decide) (by decide) ?_
      refine EV.icmp_lt (tgt := 113) dX9_count_88 (by decide) (fun q10 => ?_) (fun q10 => ?_)
      · have hf := pv_gp hf q10
        refine EV.weak (L2 := [some (.inr (.inr (0))), some (.inl (a1))]) (And.intro rfl (And.intro rfl trivial)) ?_
        exact tX9_count_113 hd    hf
      · have hf := pv_gn hf q10
        refine EV.iload_n dX9_count_91 rfl rfl ?_
        refine EV.bipush dX9_count_92 (by decide) (by decide) ?_
        refine EV.icmp_ge (tgt := 113) dX9_count_94 (by decide) (fun q11 => ?_) (fun q11 => ?_)
        · have hf := pv_gp hf q11
          refine EV.weak (L2 := [some (.inr (.inr (0))), some (.inl (a1))]) (And.intro rfl (And.intro rfl trivial)) ?_
          exact tX9_count_113 hd    hf
        · have hf := pv_gn hf q11
          refine EV.aload_n dX9_count_97 rfl rfl ?_
          refine FV.getF (v := 20) dX9_count_98 sc_0 fl_9_19 rfl rfl hvc_0_1 ?_
          refine FV.getF (v := 22) dX9_count_101 sc_20 fl_9_105 rfl rfl hvc_20_3 ?_
          refine EV.iload_n dX9_count_104 rfl rfl ?_
          refine EV.bipush dX9_count_105 (by decide) (by decide) ?_
          refine EV.isub dX9_count_107 ?_
          obtain ⟨g12, hf⟩ := pv_gd hf
          obtain ⟨x13, ex13, hf⟩ := pv_bo hf
          have mx13 : x13 ∈ pv_l0 := ex13 ▸ mq_22 _ (by omega)
          refine FV.aald (a := 1) (v := x13) dX9_count_108 sc_22 (by decide) g12.1 g12.2 (j := (Int.toNat (pv_w (a1 - 20)))) rfl rfl (by rw [hq_22 _ (by omega), ex13]) ?_
          refine FV.getI dX9_count_109 (sl0_0 _ mx13) fl_9_331 rfl ?_
          exact FV.iretp dX9_count_112 hf
    · have hf := pv_gp hf q9
      refine EV.aload_n dX9_count_74 rfl rfl ?_
      refine FV.getF (v := 20) dX9_count_75 sc_0 fl_9_19 rfl rfl hvc_0_1 ?_
      refine FV.getF (v := 25) dX9_count_78 sc_20 fl_9_127 rfl rfl hvc_20_5 ?_
      refine FV.getI dX9_count_81 sc_25 fl_9_297 rfl ?_
      exact FV.iretp dX9_count_84 hf
  · have hf := pv_gp hf q8
    refine EV.aload_n dX9_count_57 rfl rfl ?_
    refine FV.getF (v := 20) dX9_count_58 sc_0 fl_9_19 rfl rfl hvc_0_1 ?_
    refine FV.getF (v := 23) dX9_count_61 sc_20 fl_9_117 rfl rfl hvc_20_4 ?_
    refine FV.getI dX9_count_64 sc_23 fl_9_330 rfl ?_
    exact FV.iretp dX9_count_67 hf

set_option maxHeartbeats 4000000 in
set_option maxRecDepth 20000 in
theorem tX9_count {d N : Nat} {a1 : Int} {h : pv_H} {r : Int} (hd : 2 ≤ d)  (hf : fX9_count N a1 h = some r) : CALL yX9_count cX9_count 2 (some .int) d pv_SC (MC h) [.inr (.inr (0)), .inl (a1)] pv_SC (MC h) (some (.inl r)) := by
  unfold fX9_count at hf
  refine EV.call (own := RX9) (ini := false) rfl rfl (fun q => by cases q) ⟨[], (List.append_nil _).symm⟩ (Nat.le_of_ble_eq_true rfl) ?_
  refine EV.eqL (L2 := [some (.inr (.inr (0))), some (.inl (a1))]) rfl ?_
  refine EV.iload_n dX9_count_0 rfl rfl ?_
  refine EV.if_ne (tgt := 12) dX9_count_1 (by decide) (fun q1 => ?_) (fun q1 => ?_)
  · have hf := pv_gn hf q1
    refine EV.iload_n dX9_count_12 rfl rfl ?_
    refine EV.iconst dX9_count_13 (by decide) (by decide) ?_
    refine EV.icmp_ne (tgt := 25) dX9_count_14 (by decide) (fun q2 => ?_) (fun q2 => ?_)
    · have hf := pv_gn hf q2
      refine EV.iload_n dX9_count_25 rfl rfl ?_
      refine EV.iconst dX9_count_26 (by decide) (by decide) ?_
      refine EV.icmp_lt (tgt := 51) dX9_count_27 (by decide) (fun q3 => ?_) (fun q3 => ?_)
      · have hf := pv_gp hf q3
        refine EV.weak (L2 := [some (.inr (.inr (0))), some (.inl (a1))]) (And.intro rfl (And.intro rfl trivial)) ?_
        exact tX9_count_51 hd    hf
      · have hf := pv_gn hf q3
        refine EV.iload_n dX9_count_30 rfl rfl ?_
        refine EV.bipush dX9_count_31 (by decide) (by decide) ?_
        refine EV.icmp_ge (tgt := 51) dX9_count_33 (by decide) (fun q4 => ?_) (fun q4 => ?_)
        · have hf := pv_gp hf q4
          refine EV.weak (L2 := [some (.inr (.inr (0))), some (.inl (a1))]) (And.intro rfl (And.intro rfl trivial)) ?_
          exact tX9_count_51 hd    hf
        · have hf := pv_gn hf q4
          refine EV.aload_n dX9_count_36 rfl rfl ?_
          refine FV.getF (v := 20) dX9_count_37 sc_0 fl_9_19 rfl rfl hvc_0_1 ?_
          refine FV.getF (v := 23) dX9_count_40 sc_20 fl_9_117 rfl rfl hvc_20_4 ?_
          refine FV.getF (v := 24) dX9_count_43 sc_23 fl_9_327 rfl rfl hvc_23_1 ?_
          refine EV.iload_n dX9_count_46 rfl rfl ?_
          refine EV.iconst dX9_count_47 (by decide) (by decide) ?_
          refine EV.isub dX9_count_48 ?_
          obtain ⟨g5, hf⟩ := pv_gd hf
          refine FV.iald dX9_count_49 sc_24 g5.1 g5.2 (j := (Int.toNat (pv_w (a1 - 2)))) rfl ?_
          exact FV.iretp dX9_count_50 hf
    · have hf := pv_gp hf q2
      refine EV.aload_n dX9_count_17 rfl rfl ?_
      refine FV.getF (v := 20) dX9_count_18 sc_0 fl_9_19 rfl rfl hvc_0_1 ?_
      obtain ⟨r7, hc6, hf⟩ := pv_c1o hf
      refine EV.invV (As := []) (st := []) (d1 := d - 1) (sh1 := pv_SC) (h1 := MC h) (r1 := (some (.inl r7))) dX9_count_21 sc_20 (by decide) md_X8_rodsThere ml_X9_324 im_X8_rodsThere se_X8_rodsThere (tX8_rodsThere (by omega) ((by decide : 20 ∈ pv_l8)) hc6) (by omega) rfl rfl (Nat.le_of_ble_eq_true rfl) ⟨[], (List.append_nil _).symm⟩ ?_
      refine EV.eqS (st2 := [.inl (r7)]) rfl ?_
      exact FV.iretp dX9_count_24 hf
  · have hf := pv_gp hf q1
    refine EV.aload_n dX9_count_4 rfl rfl ?_
    refine FV.getF (v := 1) dX9_count_5 sc_0 fl_9_10 rfl rfl hvc_0_0 ?_
    refine FV.getI dX9_count_8 sc_1 fl_9_55 rfl ?_
    exact FV.iretp dX9_count_11 hf
