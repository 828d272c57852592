noncomputable def fX4_put_46 (N : Nat)  (a1 : Int)  (h : pv_H) : Option (pv_H) :=
  some h

noncomputable def fX4_put_3 (N : Nat)  (a1 : Int) : Nat → Int → pv_H → Option (pv_H)
  | 0, _, _ => none
  | n + 1, v2, h => if v2 < 0 then (fX4_put_46 N  a1  h) else (if 400 ≤ (h 1 0) then (fX4_put_46 N  a1  h) else (if 0 ≤ h 1 0 ∧ h 1 0 < 400 then (pv_b (pv_up h 19 (Int.toNat (h 1 0)) (pv_w8 (pv_w8 (pv_ushr a1 v2)))) fun h4 => pv_b (pv_up h4 1 0 (pv_w ((h4 1 0) + 1))) fun h5 => pv_b (pv_w (v2 + (-8))) fun x6 => fX4_put_3 N  a1 n (x6) h5) else none))

noncomputable def fX4_put (N : Nat) (a1 : Int) (h : pv_H) : Option (pv_H) :=
  fX4_put_3 N  a1 N (24) h

set_option maxHeartbeats 4000000 in
set_option maxRecDepth 20000 in
theorem tX4_put_46 {d N : Nat}  {a1 : Int}  {h h' : pv_H}  (hd : 1 ≤ d)    (hf : fX4_put_46 N  a1  h = some h') : EV RX4 cX4_put 3 none false d pv_SC (MC h') none 46 [none, none, none] [] pv_SC (MC h) := by
  unfold fX4_put_46 at hf
  exact FV.vret dX4_put_46 hf

set_option maxHeartbeats 4000000 in
set_option maxRecDepth 20000 in
theorem tX4_put_3 {d N : Nat}  {a1 : Int} {h' : pv_H}  (hd : 1 ≤ d)   : ∀ (n : Nat) (v2 : Int)  (h : pv_H), fX4_put_3 N  a1 n v2 h = some h' → EV RX4 cX4_put 3 none false d pv_SC (MC h') none 3 [some (.inr (.inr (1))), some (.inl (a1)), some (.inl (v2))] [] pv_SC (MC h) := by
  intro n
  induction n with
  | zero =>
    intro v2  h hf
    cases hf
  | succ n ih =>
    intro v2  h hf
    rw [fX4_put_3] at hf
    refine EV.iload_n dX4_put_3 rfl rfl ?_
    refine EV.if_lt (tgt := 46) dX4_put_4 (by decide) (fun q1 => ?_) (fun q1 => ?_)
    · have hf := pv_gp hf q1
      refine EV.weak (L2 := [none, none, none]) trivial ?_
      exact tX4_put_46 hd    hf
    · have hf := pv_gn hf q1
      refine EV.aload_n dX4_put_7 rfl rfl ?_
      refine FV.getI dX4_put_8 sc_1 fl_4_59 rfl ?_
      refine EV.sipush dX4_put_11 (by decide) (by decide) ?_
      refine EV.icmp_ge (tgt := 46) dX4_put_14 (by decide) (fun q2 => ?_) (fun q2 => ?_)
      · have hf := pv_gp hf q2
        refine EV.weak (L2 := [none, none, none]) trivial ?_
        exact tX4_put_46 hd    hf
      · have hf := pv_gn hf q2
        refine EV.aload_n dX4_put_17 rfl rfl ?_
        refine FV.getF (v := 19) dX4_put_18 sc_1 fl_4_43 rfl rfl hvc_1_7 ?_
        refine EV.aload_n dX4_put_21 rfl rfl ?_
        refine FV.getI dX4_put_22 sc_1 fl_4_59 rfl ?_
        refine EV.iload_n dX4_put_25 rfl rfl ?_
        refine EV.iload_n dX4_put_26 rfl rfl ?_
        refine EV.iushr dX4_put_27 ?_
        refine EV.i2b dX4_put_28 ?_
        obtain ⟨g3, hf⟩ := pv_gd hf
        obtain ⟨h4, eh4, hf⟩ := pv_bo hf
        refine FV.bast dX4_put_29 sc_19 g3.1 g3.2 (j := (Int.toNat (h 1 0))) rfl eh4 ?_
        refine EV.aload_n dX4_put_30 rfl rfl ?_
        refine EV.dup dX4_put_31 rfl ?_
        refine FV.getI dX4_put_32 sc_1 fl_4_59 rfl ?_
        refine EV.iconst dX4_put_35 (by decide) (by decide) ?_
        refine EV.iadd dX4_put_36 ?_
        obtain ⟨h5, eh5, hf⟩ := pv_bo hf
        refine FV.putI dX4_put_37 sc_1 fl_4_59 rfl rfl eh5 ?_
        obtain ⟨x6, ex6, hf⟩ := pv_bo hf
        refine FV.inc (L2 := [some (.inr (.inr (1))), some (.inl (a1)), some (.inl (x6))]) dX4_put_40 rfl (Nat.le_of_ble_eq_true rfl) ex6 rfl ?_
        refine EV.goto (tgt := 3) dX4_put_43 (by decide) ?_
        refine EV.weak (L2 := [some (.inr (.inr (1))), some (.inl (a1)), some (.inl (x6))]) (And.intro rfl (And.intro rfl (And.intro rfl trivial))) ?_
        exact ih _  _ hf

set_option maxHeartbeats 4000000 in
set_option maxRecDepth 20000 in
theorem tX4_put {d N : Nat} {a1 : Int} {h h' : pv_H}  (hd : 1 ≤ d)  (hf : fX4_put N a1 h = some h') : CALL yX4_put cX4_put 3 none d pv_SC (MC h) [.inr (.inr (1)), .inl (a1)] pv_SC (MC h') none := by
  unfold fX4_put at hf
  refine EV.call (own := RX4) (ini := false) rfl rfl (fun q => by cases q) ⟨[], (List.append_nil _).symm⟩ (Nat.le_of_ble_eq_true rfl) ?_
  refine EV.eqL (L2 := [some (.inr (.inr (1))), some (.inl (a1)), none]) rfl ?_
  refine EV.bipush dX4_put_0 (by decide) (by decide) ?_
  refine FV.sti (L2 := [some (.inr (.inr (1))), some (.inl (a1)), some (.inl (24))]) dX4_put_2 rfl (Nat.le_of_ble_eq_true rfl) rfl rfl ?_
  refine EV.weak (L2 := [some (.inr (.inr (1))), some (.inl (a1)), some (.inl (24))]) (And.intro rfl (And.intro rfl (And.intro rfl trivial))) ?_
  exact tX4_put_3 hd   _ _  _ hf

noncomputable def fX4_isLetter_27 (N : Nat)  (a1 : Int) (s0 : Int) (h : pv_H) : Option (Int) :=
  if s0 = 0 ∨ s0 = 1 then (some (s0)) else none

noncomputable def fX4_isLetter_26 (N : Nat)  (a1 : Int)  (h : pv_H) : Option (Int) :=
  fX4_isLetter_27 N  a1 (0) h

noncomputable def fX4_isLetter (N : Nat) (a1 : Int) (h : pv_H) : Option (Int) :=
  if 0 ≤ a1 ∧ a1 < 400 then (if (h 19 (Int.toNat (a1))) < 97 then (fX4_isLetter_26 N  a1  h) else (if 0 ≤ a1 ∧ a1 < 400 then (if 122 < (h 19 (Int.toNat (a1))) then (fX4_isLetter_26 N  a1  h) else (fX4_isLetter_27 N  a1 (1) h)) else none)) else none

set_option maxHeartbeats 4000000 in
set_option maxRecDepth 20000 in
theorem tX4_isLetter_27 {d N : Nat}  {a1 : Int} {s0 : Int} {h : pv_H} {r : Int} (hd : 1 ≤ d)    (hf : fX4_isLetter_27 N  a1 s0 h = some r) : EV RX4 cX4_isLetter 2 (some .boolean) false d pv_SC (MC h) (some (.inl r)) 27 [none, none] [.inl (s0)] pv_SC (MC h) := by
  unfold fX4_isLetter_27 at hf
  obtain ⟨g5, hf⟩ := pv_gd hf
  exact FV.zretp dX4_isLetter_27 g5 hf

set_option maxHeartbeats 4000000 in
set_option maxRecDepth 20000 in
theorem tX4_isLetter_26 {d N : Nat}  {a1 : Int}  {h : pv_H} {r : Int} (hd : 1 ≤ d)    (hf : fX4_isLetter_26 N  a1  h = some r) : EV RX4 cX4_isLetter 2 (some .boolean) false d pv_SC (MC h) (some (.inl r)) 26 [none, none] [] pv_SC (MC h) := by
  unfold fX4_isLetter_26 at hf
  refine EV.iconst dX4_isLetter_26 (by decide) (by decide) ?_
  refine EV.weak (L2 := [none, none]) trivial ?_
  exact tX4_isLetter_27 hd    hf

set_option maxHeartbeats 4000000 in
set_option maxRecDepth 20000 in
theorem tX4_isLetter {d N : Nat} {a1 : Int} {h : pv_H} {r : Int} (hd : 1 ≤ d)  (hf : fX4_isLetter N a1 h = some r) : CALL yX4_isLetter cX4_isLetter 2 (some .boolean) d pv_SC (MC h) [.inr (.inr (1)), .inl (a1)] pv_SC (MC h) (some (.inl r)) := by
  unfold fX4_isLetter at hf
  refine EV.call (own := RX4) (ini := false) rfl rfl (fun q => by cases q) ⟨[], (List.append_nil _).symm⟩ (Nat.le_of_ble_eq_true rfl) ?_
  refine EV.eqL (L2 := [some (.inr (.inr (1))), some (.inl (a1))]) rfl ?_
  refine EV.aload_n dX4_isLetter_0 rfl rfl ?_
  refine FV.getF (v := 19) dX4_isLetter_1 sc_1 fl_4_43 rfl rfl hvc_1_7 ?_
  refine EV.iload_n dX4_isLetter_4 rfl rfl ?_
  obtain ⟨g1, hf⟩ := pv_gd hf
  refine FV.bald dX4_isLetter_5 sc_19 g1.1 g1.2 (j := (Int.toNat (a1))) rfl ?_
  refine EV.bipush dX4_isLetter_6 (by decide) (by decide) ?_
  refine EV.icmp_lt (tgt := 26) dX4_isLetter_8 (by decide) (fun q2 => ?_) (fun q2 => ?_)
  · have hf := pv_gp hf q2
    refine EV.weak (L2 := [none, none]) trivial ?_
    exact tX4_isLetter_26 hd    hf
  · have hf := pv_gn hf q2
    refine EV.aload_n dX4_isLetter_11 rfl rfl ?_
    refine FV.getF (v := 19) dX4_isLetter_12 sc_1 fl_4_43 rfl rfl hvc_1_7 ?_
    refine EV.iload_n dX4_isLetter_15 rfl rfl ?_
    obtain ⟨g3, hf⟩ := pv_gd hf
    refine FV.bald dX4_isLetter_16 sc_19 g3.1 g3.2 (j := (Int.toNat (a1))) rfl ?_
    refine EV.bipush dX4_isLetter_17 (by decide) (by decide) ?_
    refine EV.icmp_gt (tgt := 26) dX4_isLetter_19 (by decide) (fun q4 => ?_) (fun q4 => ?_)
    · have hf := pv_gp hf q4
      refine EV.weak (L2 := [none, none]) trivial ?_
      exact tX4_isLetter_26 hd    hf
    · have hf := pv_gn hf q4
      refine EV.iconst dX4_isLetter_22 (by decide) (by decide) ?_
      refine EV.goto (tgt := 27) dX4_isLetter_23 (by decide) ?_
      refine EV.weak (L2 := [none, none]) trivial ?_
      exact tX4_isLetter_27 hd    hf

noncomputable def fX4_wordFrom_85 (N : Nat) (k8 : Int → Int → Int → pv_H → Option (Int)) (a1 : Int) (a2 : Int) (v3 : Int) (v4 : Int) (v5 : Int) (h : pv_H) : Option (Int) :=
  pv_b (pv_w (v5 + 1)) fun x13 => k8 (v3) (v4) (x13) h

noncomputable def fX4_wordFrom_82 (N : Nat) (k8 : Int → Int → Int → pv_H → Option (Int)) (a1 : Int) (a2 : Int) (v3 : Int) (v5 : Int) (h : pv_H) : Option (Int) :=
  pv_b (-1) fun x12 => fX4_wordFrom_85 N (k8) a1 a2 (v3) (x12) (v5) h

noncomputable def fX4_wordFrom_8 (N : Nat)  (a1 : Int) (a2 : Int) : Nat → Int → Int → Int → pv_H → Option (Int)
  | 0, _, _, _, _ => none
  | n + 1, v3, v4, v5, h => if 204 ≤ v5 then (some (40)) else (if 0 ≤ v5 ∧ v5 < 204 then (pv_b ((pv_tx 0).getD (Int.toNat (v5)) 0) fun x3 => if x3 = 32 then (if v4 = a2 then (some (v3)) else (pv_b (pv_w (v3 + 1)) fun x11 => fX4_wordFrom_85 N (fun v3_ v4_ v5_ hh => fX4_wordFrom_8 N  a1 a2 n v3_ v4_ v5_ hh) a1 a2 (x11) (0) (v5) h)) else (if v4 < 0 then (fX4_wordFrom_82 N (fun v3_ v4_ v5_ hh => fX4_wordFrom_8 N  a1 a2 n v3_ v4_ v5_ hh) a1 a2 (v3) (v5) h) else (if a2 ≤ v4 then (fX4_wordFrom_82 N (fun v3_ v4_ v5_ hh => fX4_wordFrom_8 N  a1 a2 n v3_ v4_ v5_ hh) a1 a2 (v3) (v5) h) else (if 0 ≤ pv_w (a1 + v4) ∧ pv_w (a1 + v4) < 400 then (if (h 19 (Int.toNat (pv_w (a1 + v4)))) = x3 then (pv_b (pv_w (v4 + 1)) fun x9 => fX4_wordFrom_85 N (fun v3_ v4_ v5_ hh => fX4_wordFrom_8 N  a1 a2 n v3_ v4_ v5_ hh) a1 a2 (v3) (x9) (v5) h) else (fX4_wordFrom_82 N (fun v3_ v4_ v5_ hh => fX4_wordFrom_8 N  a1 a2 n v3_ v4_ v5_ hh) a1 a2 (v3) (v5) h)) else none)))) else none)

noncomputable def fX4_wordFrom (N : Nat) (a1 : Int) (a2 : Int) (h : pv_H) : Option (Int) :=
  fX4_wordFrom_8 N  a1 a2 N (0) (0) (0) h

set_option maxHeartbeats 4000000 in
set_option maxRecDepth 20000 in
theorem tX4_wordFrom_85 {d N : Nat} {k8 : Int → Int → Int → pv_H → Option (Int)} {a1 : Int} {a2 : Int} {v3 : Int} {v4 : Int} {v5 : Int} {h : pv_H} {r : Int} (hd : 1 ≤ d) (hk8 : ∀ (v3 : Int) (v4 : Int) (v5 : Int) , k8 v3 v4 v5 h = some r → EV RX4 cX4_wordFrom 7 (some .int) false d pv_SC (MC h) (some (.inl r)) 8 [some (.inr (.inr (1))), some (.inl (a1)), some (.inl (a2)), some (.inl (v3)), some (.inl (v4)), some (.inl (v5)), none] [] pv_SC (MC h))   (hf : fX4_wordFrom_85 N k8 a1 a2 v3 v4 v5 h = some r) : EV RX4 cX4_wordFrom 7 (some .int) false d pv_SC (MC h) (some (.inl r)) 85 [some (.inr (.inr (1))), some (.inl (a1)), some (.inl (a2)), some (.inl (v3)), some (.inl (v4)), some (.inl (v5)), none] [] pv_SC (MC h) := by
  unfold fX4_wordFrom_85 at hf
  obtain ⟨x13, ex13, hf⟩ := pv_bo hf
  refine FV.inc (L2 := [some (.inr (.inr (1))), some (.inl (a1)), some (.inl (a2)), some (.inl (v3)), some (.inl (v4)), some (.inl (x13)), none]) dX4_wordFrom_85 rfl (Nat.le_of_ble_eq_true rfl) ex13 rfl ?_
  refine EV.goto (tgt := 8) dX4_wordFrom_88 (by decide) ?_
  refine EV.weak (L2 := [some (.inr (.inr (1))), some (.inl (a1)), some (.inl (a2)), some (.inl (v3)), some (.inl (v4)), some (.inl (x13)), none]) (And.intro rfl (And.intro rfl (And.intro rfl (And.intro rfl (And.intro rfl (And.intro rfl trivial)))))) ?_
  exact hk8 _ _ _   hf

set_option maxHeartbeats 4000000 in
set_option maxRecDepth 20000 in
theorem tX4_wordFrom_82 {d N : Nat} {k8 : Int → Int → Int → pv_H → Option (Int)} {a1 : Int} {a2 : Int} {v3 : Int} {v5 : Int} {h : pv_H} {r : Int} (hd : 1 ≤ d) (hk8 : ∀ (v3 : Int) (v4 : Int) (v5 : Int) , k8 v3 v4 v5 h = some r → EV RX4 cX4_wordFrom 7 (some .int) false d pv_SC (MC h) (some (.inl r)) 8 [some (.inr (.inr (1))), some (.inl (a1)), some (.inl (a2)), some (.inl (v3)), some (.inl (v4)), some (.inl (v5)), none] [] pv_SC (MC h))   (hf : fX4_wordFrom_82 N k8 a1 a2 v3 v5 h = some r) : EV RX4 cX4_wordFrom 7 (some .int) false d pv_SC (MC h) (some (.inl r)) 82 [some (.inr (.inr (1))), some (.inl (a1)), some (.inl (a2)), some (.inl (v3)), none, some (.inl (v5)), none] [] pv_SC (MC h) := by
  unfold fX4_wordFrom_82 at hf
  refine EV.iconst dX4_wordFrom_82 (by decide) (by decide) ?_
  obtain ⟨x12, ex12, hf⟩ := pv_bo hf
  refine FV.stiw (L2 := [some (.inr (.inr (1))), some (.inl (a1)), some (.inl (a2)), some (.inl (v3)), some (.inl (x12)), some (.inl (v5)), none]) dX4_wordFrom_83 (Nat.le_of_ble_eq_true rfl) ex12 rfl ?_
  refine EV.weak (L2 := [some (.inr (.inr (1))), some (.inl (a1)), some (.inl (a2)), some (.inl (v3)), some (.inl (x12)), some (.inl (v5)), none]) (And.intro rfl (And.intro rfl (And.intro rfl (And.intro rfl (And.intro rfl (And.intro rfl trivial)))))) ?_
  exact tX4_wordFrom_85 hd (hk8)   hf

set_option maxHeartbeats 4000000 in
set_option maxRecDepth 20000 in
theorem tX4_wordFrom_8 {d N : Nat}  {a1 : Int} {a2 : Int} {h : pv_H} {r : Int} (hd : 1 ≤ d)   : ∀ (n : Nat) (v3 : Int) (v4 : Int) (v5 : Int) , fX4_wordFrom_8 N  a1 a2 n v3 v4 v5 h = some r → EV RX4 cX4_wordFrom 7 (some .int) false d pv_SC (MC h) (some (.inl r)) 8 [some (.inr (.inr (1))), some (.inl (a1)), some (.inl (a2)), some (.inl (v3)), some (.inl (v4)), some (.inl (v5)), none] [] pv_SC (MC h) := by
  intro n
  induction n with
  | zero =>
    intro v3 v4 v5   hf
    cases hf
  | succ n ih =>
    intro v3 v4 v5   hf
    rw [fX4_wordFrom_8] at hf
    refine EV.iload dX4_wordFrom_8 rfl ?_
    refine EV.aload_n dX4_wordFrom_10 rfl rfl ?_
    refine FV.getF (v := 224) dX4_wordFrom_11 sc_1 fl_4_55 rfl rfl hvc_1_8 ?_
    refine EV.alenc dX4_wordFrom_14 sc_224 (Nat.le_of_ble_eq_true rfl) ?_
    refine EV.icmp_ge (tgt := 91) dX4_wordFrom_15 (by decide) (fun q1 => ?_) (fun q1 => ?_)
    · have hf := pv_gp hf q1
      refine EV.bipush dX4_wordFrom_91 (by decide) (by decide) ?_
      exact FV.iretp dX4_wordFrom_93 hf
    · have hf := pv_gn hf q1
      refine EV.aload_n dX4_wordFrom_18 rfl rfl ?_
      refine FV.getF (v := 224) dX4_wordFrom_19 sc_1 fl_4_55 rfl rfl hvc_1_8 ?_
      refine EV.iload dX4_wordFrom_22 rfl ?_
      obtain ⟨g2, hf⟩ := pv_gd hf
      refine FV.cald dX4_wordFrom_24 sc_224 g2.1 g2.2 (j := (Int.toNat (v5))) rfl rfl (hcl_224 _ (by omega)) ?_
      obtain ⟨x3, ex3, hf⟩ := pv_bo hf
      refine FV.stiw (L2 := [some (.inr (.inr (1))), some (.inl (a1)), some (.inl (a2)), some (.inl (v3)), some (.inl (v4)), some (.inl (v5)), some (.inl (x3))]) dX4_wordFrom_25 (Nat.le_of_ble_eq_true rfl) ex3 rfl ?_
      refine EV.iload dX4_wordFrom_27 rfl ?_
      refine EV.bipush dX4_wordFrom_29 (by decide) (by decide) ?_
      refine EV.icmp_ne (tgt := 51) dX4_wordFrom_31 (by decide) (fun q4 => ?_) (fun q4 => ?_)
      · have hf := pv_gn hf q4
        refine EV.iload dX4_wordFrom_51 rfl ?_
        refine EV.if_lt (tgt := 82) dX4_wordFrom_53 (by decide) (fun q5 => ?_) (fun q5 => ?_)
        · have hf := pv_gp hf q5
          refine EV.weak (L2 := [some (.inr (.inr (1))), some (.inl (a1)), some (.inl (a2)), some (.inl (v3)), none, some (.inl (v5)), none]) (And.intro rfl (And.intro rfl (And.intro rfl (And.intro rfl (And.intro rfl trivial))))) ?_
          exact tX4_wordFrom_82 hd (ih)   hf
        · have hf := pv_gn hf q5
          refine EV.iload dX4_wordFrom_56 rfl ?_
          refine EV.iload_n dX4_wordFrom_58 rfl rfl ?_
          refine EV.icmp_ge (tgt := 82) dX4_wordFrom_59 (by decide) (fun q6 => ?_) (fun q6 => ?_)
          · have hf := pv_gp hf q6
            refine EV.weak (L2 := [some (.inr (.inr (1))), some (.inl (a1)), some (.inl (a2)), some (.inl (v3)), none, some (.inl (v5)), none]) (And.intro rfl (And.intro rfl (And.intro rfl (And.intro rfl (And.intro rfl trivial))))) ?_
            exact tX4_wordFrom_82 hd (ih)   hf
          · have hf := pv_gn hf q6
            refine EV.aload_n dX4_wordFrom_62 rfl rfl ?_
            refine FV.getF (v := 19) dX4_wordFrom_63 sc_1 fl_4_43 rfl rfl hvc_1_7 ?_
            refine EV.iload_n dX4_wordFrom_66 rfl rfl ?_
            refine EV.iload dX4_wordFrom_67 rfl ?_
            refine EV.iadd dX4_wordFrom_69 ?_
            obtain ⟨g7, hf⟩ := pv_gd hf
            refine FV.bald dX4_wordFrom_70 sc_19 g7.1 g7.2 (j := (Int.toNat (pv_w (a1 + v4)))) rfl ?_
            refine EV.iload dX4_wordFrom_71 rfl ?_
            refine EV.icmp_ne (tgt := 82) dX4_wordFrom_73 (by decide) (fun q8 => ?_) (fun q8 => ?_)
            · have hf := pv_gn hf q8
              refine EV.weak (L2 := [some (.inr (.inr (1))), some (.inl (a1)), some (.inl (a2)), some (.inl (v3)), none, some (.inl (v5)), none]) (And.intro rfl (And.intro rfl (And.intro rfl (And.intro rfl (And.intro rfl trivial))))) ?_
              exact tX4_wordFrom_82 hd (ih)   hf
            · have hf := pv_gp hf q8
              obtain ⟨x9, ex9, hf⟩ := pv_bo hf
              refine FV.inc (L2 := [some (.inr (.inr (1))), some (.inl (a1)), some (.inl (a2)), some (.inl (v3)), some (.inl (x9)), some (.inl (v5)), some (.inl (x3))]) dX4_wordFrom_76 rfl (Nat.le_of_ble_eq_true rfl) ex9 rfl ?_
              refine EV.goto (tgt := 85) dX4_wordFrom_79 (by decide) ?_
              refine EV.weak (L2 := [some (.inr (.inr (1))), some (.inl (a1)), some (.inl (a2)), some (.inl (v3)), some (.inl (x9)), some (.inl (v5)), none]) (And.intro rfl (And.intro rfl (And.intro rfl (And.intro rfl (And.intro rfl (And.intro rfl trivial)))))) ?_
              exact tX4_wordFrom_85 hd (ih)   hf
      · have hf := pv_gp hf q4
        refine EV.iload dX4_wordFrom_34 rfl ?_
        refine EV.iload_n dX4_wordFrom_36 rfl rfl ?_
        refine EV.icmp_ne (tgt := 42) dX4_wordFrom_37 (by decide) (fun q10 => ?_) (fun q10 => ?_)
        · have hf := pv_gn hf q10
          obtain ⟨x11, ex11, hf⟩ := pv_bo hf
          refine FV.inc (L2 := [some (.inr (.inr (1))), some (.inl (a1)), some (.inl (a2)), some (.inl (x11)), some (.inl (v4)), some (.inl (v5)), some (.inl (x3))]) dX4_wordFrom_42 rfl (Nat.le_of_ble_eq_true rfl) ex11 rfl ?_
          refine EV.iconst dX4_wordFrom_45 (by decide) (by decide) ?_
          refine FV.stiw (L2 := [some (.inr (.inr (1))), some (.inl (a1)), some (.inl (a2)), some (.inl (x11)), some (.inl (0)), some (.inl (v5)), some (.inl (x3))]) dX4_wordFrom_46 (Nat.le_of_ble_eq_true rfl) rfl rfl ?_
          refine EV.goto (tgt := 85) dX4_wordFrom_48 (by decide) ?_
          refine EV.weak (L2 := [some (.inr (.inr (1))), some (.inl (a1)), some (.inl (a2)), some (.inl (x11)), some (.inl (0)), some (.inl (v5)), none]) (And.intro rfl (And.intro rfl (And.intro rfl (And.intro rfl (And.intro rfl (And.intro rfl trivial)))))) ?_
          exact tX4_wordFrom_85 hd (ih)   hf
        · have hf := pv_gp hf q10
          refine EV.iload_n dX4_wordFrom_40 rfl rfl ?_
          exact FV.iretp dX4_wordFrom_41 hf

set_option maxHeartbeats 4000000 in
set_option maxRecDepth 20000 in
theorem tX4_wordFrom {d N : Nat} {a1 : Int} {a2 : Int} {h : pv_H} {r : Int} (hd : 1 ≤ d)  (hf : fX4_wordFrom N a1 a2 h = some r) : CALL yX4_wordFrom cX4_wordFrom 7 (some .int) d pv_SC (MC h) [.inr (.inr (1)), .inl (a1), .inl (a2)] pv_SC (MC h) (some (.inl r)) := by
  unfold fX4_wordFrom at hf
  refine EV.call (own := RX4) (ini := false) rfl rfl (fun q => by cases q) ⟨[], (List.append_nil _).symm⟩ (Nat.le_of_ble_eq_true rfl) ?_
  refine EV.eqL (L2 := [some (.inr (.inr (1))), some (.inl (a1)), some (.inl (a2)), none, none, none, none]) rfl ?_
  refine EV.iconst dX4_wordFrom_0 (by decide) (by decide) ?_
  refine FV.sti (L2 := [some (.inr (.inr (1))), some (.inl (a1)), some (.inl (a2)), some (.inl (0)), none, none, none]) dX4_wordFrom_1 rfl (Nat.le_of_ble_eq_true rfl) rfl rfl ?_
  refine EV.iconst dX4_wordFrom_2 (by decide) (by decide) ?_
  refine FV.stiw (L2 := [some (.inr (.inr (1))), some (.inl (a1)), some (.inl (a2)), some (.inl (0)), some (.inl (0)), none, none]) dX4_wordFrom_3 (Nat.le_of_ble_eq_true rfl) rfl rfl ?_
  refine EV.iconst dX4_wordFrom_5 (by decide) (by decide) ?_
  refine FV.stiw (L2 := [some (.inr (.inr (1))), some (.inl (a1)), some (.inl (a2)), some (.inl (0)), some (.inl (0)), some (.inl (0)), none]) dX4_wordFrom_6 (Nat.le_of_ble_eq_true rfl) rfl rfl ?_
  refine EV.weak (L2 := [some (.inr (.inr (1))), some (.inl (a1)), some (.inl (a2)), some (.inl (0)), some (.inl (0)), some (.inl (0)), none]) (And.intro rfl (And.intro rfl (And.intro rfl (And.intro rfl (And.intro rfl (And.intro rfl trivial)))))) ?_
  exact tX4_wordFrom_8 hd   _ _ _ _   hf

noncomputable def fX4_isDigit_27 (N : Nat)  (a1 : Int) (s0 : Int) (h : pv_H) : Option (Int) :=
  if s0 = 0 ∨ s0 = 1 then (some (s0)) else none

noncomputable def fX4_isDigit_26 (N : Nat)  (a1 : Int)  (h : pv_H) : Option (Int) :=
  fX4_isDigit_27 N  a1 (0) h

noncomputable def fX4_isDigit (N : Nat) (a1 : Int) (h : pv_H) : Option (Int) :=
  if 0 ≤ a1 ∧ a1 < 400 then (if (h 19 (Int.toNat (a1))) < 48 then (fX4_isDigit_26 N  a1  h) else (if 0 ≤ a1 ∧ a1 < 400 then (if 57 < (h 19 (Int.toNat (a1))) then (fX4_isDigit_26 N  a1  h) else (fX4_isDigit_27 N  a1 (1) h)) else none)) else none

set_option maxHeartbeats 4000000 in
set_option maxRecDepth 20000 in
theorem tX4_isDigit_27 {d N : Nat}  {a1 : Int} {s0 : Int} {h : pv_H} {r : Int} (hd : 1 ≤ d)    (hf : fX4_isDigit_27 N  a1 s0 h = some r) : EV RX4 cX4_isDigit 2 (some .boolean) false d pv_SC (MC h) (some (.inl r)) 27 [none, none] [.inl (s0)] pv_SC (MC h) := by
  unfold fX4_isDigit_27 at hf
  obtain ⟨g5, hf⟩ := pv_gd hf
  exact FV.zretp dX4_isDigit_27 g5 hf

set_option maxHeartbeats 4000000 in
set_option maxRecDepth 20000 in
theorem tX4_isDigit_26 {d N : Nat}  {a1 : Int}  {h : pv_H} {r : Int} (hd : 1 ≤ d)    (hf : fX4_isDigit_26 N  a1  h = some r) : EV RX4 cX4_isDigit 2 (some .boolean) false d pv_SC (MC h) (some (.inl r)) 26 [none, none] [] pv_SC (MC h) := by
  unfold fX4_isDigit_26 at hf
  refine EV.iconst dX4_isDigit_26 (by decide) (by decide) ?_
  refine EV.weak (L2 := [none, none]) trivial ?_
  exact tX4_isDigit_27 hd    hf

set_option maxHeartbeats 4000000 in
set_option maxRecDepth 20000 in
theorem tX4_isDigit {d N : Nat} {a1 : Int} {h : pv_H} {r : Int} (hd : 1 ≤ d)  (hf : fX4_isDigit N a1 h = some r) : CALL yX4_isDigit cX4_isDigit 2 (some .boolean) d pv_SC (MC h) [.inr (.inr (1)), .inl (a1)] pv_SC (MC h) (some (.inl r)) := by
  unfold fX4_isDigit at hf
  refine EV.call (own := RX4) (ini := false) rfl rfl (fun q => by cases q) ⟨[], (List.append_nil _).symm⟩ (Nat.le_of_ble_eq_true rfl) ?_
  refine EV.eqL (L2 := [some (.inr (.inr (1))), some (.inl (a1))]) rfl ?_
  refine EV.aload_n dX4_isDigit_0 rfl rfl ?_
  refine FV.getF (v := 19) dX4_isDigit_1 sc_1 fl_4_43 rfl rfl hvc_1_7 ?_
  refine EV.iload_n dX4_isDigit_4 rfl rfl ?_
  obtain ⟨g1, hf⟩ := pv_gd hf
  refine FV.bald dX4_isDigit_5 sc_19 g1.1 g1.2 (j := (Int.toNat (a1))) rfl ?_
  refine EV.bipush dX4_isDigit_6 (by decide) (by decide) ?_
  refine EV.icmp_lt (tgt := 26) dX4_isDigit_8 (by decide) (fun q2 => ?_) (fun q2 => ?_)
  · have hf := pv_gp hf q2
    refine EV.weak (L2 := [none, none]) trivial ?_
    exact tX4_isDigit_26 hd    hf
  · have hf := pv_gn hf q2
    refine EV.aload_n dX4_isDigit_11 rfl rfl ?_
    refine FV.getF (v := 19) dX4_isDigit_12 sc_1 fl_4_43 rfl rfl hvc_1_7 ?_
    refine EV.iload_n dX4_isDigit_15 rfl rfl ?_
    obtain ⟨g3, hf⟩ := pv_gd hf
    refine FV.bald dX4_isDigit_16 sc_19 g3.1 g3.2 (j := (Int.toNat (a1))) rfl ?_
    refine EV.bipush dX4_isDigit_17 (by decide) (by decide) ?_
    refine EV.icmp_gt (tgt := 26) dX4_isDigit_19 (by decide) (fun q4 => ?_) (fun q4 => ?_)
    · have hf := pv_gp hf q4
      refine EV.weak (L2 := [none, none]) trivial ?_
      exact tX4_isDigit_26 hd    hf
    · have hf := pv_gn hf q4
      refine EV.iconst dX4_isDigit_22 (by decide) (by decide) ?_
      refine EV.goto (tgt := 27) dX4_isDigit_23 (by decide) ?_
      refine EV.weak (L2 := [none, none]) trivial ?_
      exact tX4_isDigit_27 hd    hf

noncomputable def fX4_takeNumber_119 (N : Nat)    (h : pv_H) : Option (pv_H) :=
  some h

noncomputable def fX4_takeNumber_100 (N : Nat)    (h : pv_H) : Option (pv_H) :=
  if (pv_w ((h 1 10) - (h 1 12))) ≤ 3 then (fX4_takeNumber_119 N    h) else (pv_b (pv_up h 1 11 46) fun h12 => fX4_takeNumber_119 N    h12)

noncomputable def fX4_takeNumber_87 (N : Nat) (k11 : pv_H → Option (pv_H))   (h : pv_H) : Option (pv_H) :=
  pv_b (pv_up h 1 10 (pv_w ((h 1 10) + 1))) fun h13 => k11  h13

noncomputable def fX4_takeNumber_11 (N : Nat)   : Nat → pv_H → Option (pv_H)
  | 0, _ => none
  | n + 1, h => if (h 1 9) ≤ (h 1 10) then (fX4_takeNumber_100 N    h) else (if 0 ≤ h 1 10 ∧ h 1 10 < 400 then (if (h 19 (Int.toNat (h 1 10))) < 48 then (fX4_takeNumber_100 N    h) else (if 0 ≤ h 1 10 ∧ h 1 10 < 400 then (if 57 < (h 19 (Int.toNat (h 1 10))) then (fX4_takeNumber_100 N    h) else (if 3 ≤ (pv_w ((h 1 10) - (h 1 12))) then (fX4_takeNumber_87 N (fun  hh => fX4_takeNumber_11 N   n  hh)   h) else (if 0 ≤ h 1 10 ∧ h 1 10 < 400 then (pv_b (pv_up h 1 13 (pv_w ((pv_w ((h 1 13) * 10)) + (pv_w ((h 19 (Int.toNat (h 1 10))) - 48))))) fun h10 => fX4_takeNumber_87 N (fun  hh => fX4_takeNumber_11 N   n  hh)   h10) else none))) else none)) else none)

noncomputable def fX4_takeNumber (N : Nat)  (h : pv_H) : Option (pv_H) :=
  pv_b (pv_up h 1 13 0) fun h1 => pv_b (pv_up h1 1 11 41) fun h2 => fX4_takeNumber_11 N   N  h2

set_option maxHeartbeats 4000000 in
set_option maxRecDepth 20000 in
theorem tX4_takeNumber_119 {d N : Nat}    {h h' : pv_H}  (hd : 1 ≤ d)    (hf : fX4_takeNumber_119 N    h = some h') : EV RX4 cX4_takeNumber 1 none false d pv_SC (MC h') none 119 [none] [] pv_SC (MC h) := by
  unfold fX4_takeNumber_119 at hf
  exact FV.vret dX4_takeNumber_119 hf

set_option maxHeartbeats 4000000 in
set_option maxRecDepth 20000 in
theorem tX4_takeNumber_100 {d N : Nat}    {h h' : pv_H}  (hd : 1 ≤ d)    (hf : fX4_takeNumber_100 N    h = some h') : EV RX4 cX4_takeNumber 1 none false d pv_SC (MC h') none 100 [some (.inr (.inr (1)))] [] pv_SC (MC h) := by
  unfold fX4_takeNumber_100 at hf
  refine EV.aload_n dX4_takeNumber_100 rfl rfl ?_
  refine FV.getI dX4_takeNumber_101 sc_1 fl_4_71 rfl ?_
  refine EV.aload_n dX4_takeNumber_104 rfl rfl ?_
  refine FV.getI dX4_takeNumber_105 sc_1 fl_4_80 rfl ?_
  refine EV.isub dX4_takeNumber_108 ?_
  refine EV.iconst dX4_takeNumber_109 (by decide) (by decide) ?_
  refine EV.icmp_le (tgt := 119) dX4_takeNumber_110 (by decide) (fun q11 => ?_) (fun q11 => ?_)
  · have hf := pv_gp hf q11
    refine EV.weak (L2 := [none]) trivial ?_
    exact tX4_takeNumber_119 hd    hf
  · have hf := pv_gn hf q11
    refine EV.aload_n dX4_takeNumber_113 rfl rfl ?_
    refine EV.bipush dX4_takeNumber_114 (by decide) (by decide) ?_
    obtain ⟨h12, eh12, hf⟩ := pv_bo hf
    refine FV.putI dX4_takeNumber_116 sc_1 fl_4_83 rfl rfl eh12 ?_
    refine EV.weak (L2 := [none]) trivial ?_
    exact tX4_takeNumber_119 hd    hf

set_option maxHeartbeats 4000000 in
set_option maxRecDepth 20000 in
theorem tX4_takeNumber_87 {d N : Nat} {k11 : pv_H → Option (pv_H)}   {h h' : pv_H}  (hd : 1 ≤ d) (hk11 : ∀   (hh : pv_H), k11  hh = some h' → EV RX4 cX4_takeNumber 1 none false d pv_SC (MC h') none 11 [some (.inr (.inr (1)))] [] pv_SC (MC hh))   (hf : fX4_takeNumber_87 N k11   h = some h') : EV RX4 cX4_takeNumber 1 none false d pv_SC (MC h') none 87 [some (.inr (.inr (1)))] [] pv_SC (MC h) := by
  unfold fX4_takeNumber_87 at hf
  refine EV.aload_n dX4_takeNumber_87 rfl rfl ?_
  refine EV.dup dX4_takeNumber_88 rfl ?_
  refine FV.getI dX4_takeNumber_89 sc_1 fl_4_71 rfl ?_
  refine EV.iconst dX4_takeNumber_92 (by decide) (by decide) ?_
  refine EV.iadd dX4_takeNumber_93 ?_
  obtain ⟨h13, eh13, hf⟩ := pv_bo hf
  refine FV.putI dX4_takeNumber_94 sc_1 fl_4_71 rfl rfl eh13 ?_
  refine EV.goto (tgt := 11) dX4_takeNumber_97 (by decide) ?_
  refine EV.weak (L2 := [some (.inr (.inr (1)))]) (And.intro rfl trivial) ?_
  exact hk11   _ hf

set_option maxHeartbeats 4000000 in
set_option maxRecDepth 20000 in
theorem tX4_takeNumber_11 {d N : Nat}   {h' : pv_H}  (hd : 1 ≤ d)   : ∀ (n : Nat)   (h : pv_H), fX4_takeNumber_11 N   n  h = some h' → EV RX4 cX4_takeNumber 1 none false d pv_SC (MC h') none 11 [some (.inr (.inr (1)))] [] pv_SC (MC h) := by
  intro n
  induction n with
  | zero =>
    intro   h hf
    cases hf
  | succ n ih =>
    intro   h hf
    rw [fX4_takeNumber_11] at hf
    refine EV.aload_n dX4_takeNumber_11 rfl rfl ?_
    refine FV.getI dX4_takeNumber_12 sc_1 fl_4_71 rfl ?_
    refine EV.aload_n dX4_takeNumber_15 rfl rfl ?_
    refine FV.getI dX4_takeNumber_16 sc_1 fl_4_68 rfl ?_
    refine EV.icmp_ge (tgt := 100) dX4_takeNumber_19 (by decide) (fun q3 => ?_) (fun q3 => ?_)
    · have hf := pv_gp hf q3
      refine EV.weak (L2 := [some (.inr (.inr (1)))]) (And.intro rfl trivial) ?_
      exact tX4_takeNumber_100 hd    hf
    · have hf := pv_gn hf q3
      refine EV.aload_n dX4_takeNumber_22 rfl rfl ?_
      refine FV.getF (v := 19) dX4_takeNumber_23 sc_1 fl_4_43 rfl rfl hvc_1_7 ?_
      refine EV.aload_n dX4_takeNumber_26 rfl rfl ?_
      refine FV.getI dX4_takeNumber_27 sc_1 fl_4_71 rfl ?_
      obtain ⟨g4, hf⟩ := pv_gd hf
      refine FV.bald dX4_takeNumber_30 sc_19 g4.1 g4.2 (j := (Int.toNat (h 1 10))) rfl ?_
      refine EV.bipush dX4_takeNumber_31 (by decide) (by decide) ?_
      refine EV.icmp_lt (tgt := 100) dX4_takeNumber_33 (by decide) (fun q5 => ?_) (fun q5 => ?_)
      · have hf := pv_gp hf q5
        refine EV.weak (L2 := [some (.inr (.inr (1)))]) (And.intro rfl trivial) ?_
        exact tX4_takeNumber_100 hd    hf
      · have hf := pv_gn hf q5
        refine EV.aload_n dX4_takeNumber_36 rfl rfl ?_
        refine FV.getF (v := 19) dX4_takeNumber_37 sc_1 fl_4_43 rfl rfl hvc_1_7 ?_
        refine EV.aload_n dX4_takeNumber_40 rfl rfl ?_
        refine FV.getI dX4_takeNumber_41 sc_1 fl_4_71 rfl ?_
        obtain ⟨g6, hf⟩ := pv_gd hf
        refine FV.bald dX4_takeNumber_44 sc_19 g6.1 g6.2 (j := (Int.toNat (h 1 10))) rfl ?_
        refine EV.bipush dX4_takeNumber_45 (by decide) (by decide) ?_
        refine EV.icmp_gt (tgt := 100) dX4_takeNumber_47 (by decide) (fun q7 => ?_) (fun q7 => ?_)
        · have hf := pv_gp hf q7
          refine EV.weak (L2 := [some (.inr (.inr (1)))]) (And.intro rfl trivial) ?_
          exact tX4_takeNumber_100 hd    hf
        · have hf := pv_gn hf q7
          refine EV.aload_n dX4_takeNumber_50 rfl rfl ?_
          refine FV.getI dX4_takeNumber_51 sc_1 fl_4_71 rfl ?_
          refine EV.aload_n dX4_takeNumber_54 rfl rfl ?_
          refine FV.getI dX4_takeNumber_55 sc_1 fl_4_80 rfl ?_
          refine EV.isub dX4_takeNumber_58 ?_
          refine EV.iconst dX4_takeNumber_59 (by decide) (by decide) ?_
          refine EV.icmp_ge (tgt := 87) dX4_takeNumber_60 (by decide) (fun q8 => ?_) (fun q8 => ?_)
          · have hf := pv_gp hf q8
            refine EV.weak (L2 := [some (.inr (.inr (1)))]) (And.intro rfl trivial) ?_
            exact tX4_takeNumber_87 hd (ih)   hf
          · have hf := pv_gn hf q8
            refine EV.aload_n dX4_takeNumber_63 rfl rfl ?_
            refine EV.aload_n dX4_takeNumber_64 rfl rfl ?_
            refine FV.getI dX4_takeNumber_65 sc_1 fl_4_105 rfl ?_
            refine EV.bipush dX4_takeNumber_68 (by decide) (by decide) ?_
            refine EV.imul dX4_takeNumber_70 ?_
            refine EV.aload_n dX4_takeNumber_71 rfl rfl ?_
            refine FV.getF (v := 19) dX4_takeNumber_72 sc_1 fl_4_43 rfl rfl hvc_1_7 ?_
            refine EV.aload_n dX4_takeNumber_75 rfl rfl ?_
            refine FV.getI dX4_takeNumber_76 sc_1 fl_4_71 rfl ?_
            obtain ⟨g9, hf⟩ := pv_gd hf
            refine FV.bald dX4_takeNumber_79 sc_19 g9.1 g9.2 (j := (Int.toNat (h 1 10))) rfl ?_
            refine EV.bipush dX4_takeNumber_80 (by decide) (by decide) ?_
            refine EV.isub dX4_takeNumber_82 ?_
            refine EV.iadd dX4_takeNumber_83 ?_
            obtain ⟨h10, eh10, hf⟩ := pv_bo hf
            refine FV.putI dX4_takeNumber_84 sc_1 fl_4_105 rfl rfl eh10 ?_
            refine EV.weak (L2 := [some (.inr (.inr (1)))]) (And.intro rfl trivial) ?_
            exact tX4_takeNumber_87 hd (ih)   hf

set_option maxHeartbeats 4000000 in
set_option maxRecDepth 20000 in
theorem tX4_takeNumber {d N : Nat}  {h h' : pv_H}  (hd : 1 ≤ d)  (hf : fX4_takeNumber N  h = some h') : CALL yX4_takeNumber cX4_takeNumber 1 none d pv_SC (MC h) [.inr (.inr (1))] pv_SC (MC h') none := by
  unfold fX4_takeNumber at hf
  refine EV.call (own := RX4) (ini := false) rfl rfl (fun q => by cases q) ⟨[], (List.append_nil _).symm⟩ (Nat.le_of_ble_eq_true rfl) ?_
  refine EV.eqL (L2 := [some (.inr (.inr (1)))]) rfl ?_
  refine EV.aload_n dX4_takeNumber_0 rfl rfl ?_
  refine EV.iconst dX4_takeNumber_1 (by decide) (by decide) ?_
  obtain ⟨h1, eh1, hf⟩ := pv_bo hf
  refine FV.putI dX4_takeNumber_2 sc_1 fl_4_105 rfl rfl eh1 ?_
  refine EV.aload_n dX4_takeNumber_5 rfl rfl ?_
  refine EV.bipush dX4_takeNumber_6 (by decide) (by decide) ?_
  obtain ⟨h2, eh2, hf⟩ := pv_bo hf
  refine FV.putI dX4_takeNumber_8 sc_1 fl_4_83 rfl rfl eh2 ?_
  refine EV.weak (L2 := [some (.inr (.inr (1)))]) (And.intro rfl trivial) ?_
  exact tX4_takeNumber_11 hd   _   _ hf

noncomputable def fX4_takeSign_71 (N : Nat)    (h : pv_H) : Option (pv_H) :=
  some h

noncomputable def fX4_takeSign (N : Nat)  (h : pv_H) : Option (pv_H) :=
  if 0 ≤ h 1 10 ∧ h 1 10 < 400 then (pv_b (h 19 (Int.toNat (h 1 10))) fun x2 => pv_b (pv_up h 1 10 (pv_w ((h 1 10) + 1))) fun h3 => if x2 = 59 then (pv_b (pv_up h3 1 11 42) fun h10 => fX4_takeSign_71 N    h10) else (if x2 = 40 then (pv_b (pv_up h3 1 11 43) fun h9 => fX4_takeSign_71 N    h9) else (if x2 = 41 then (pv_b (pv_up h3 1 11 44) fun h8 => fX4_takeSign_71 N    h8) else (pv_b (pv_up h3 1 11 46) fun h7 => fX4_takeSign_71 N    h7)))) else none

set_option maxHeartbeats 4000000 in
set_option maxRecDepth 20000 in
theorem tX4_takeSign_71 {d N : Nat}    {h h' : pv_H}  (hd : 1 ≤ d)    (hf : fX4_takeSign_71 N    h = some h') : EV RX4 cX4_takeSign 2 none false d pv_SC (MC h') none 71 [none, none] [] pv_SC (MC h) := by
  unfold fX4_takeSign_71 at hf
  exact FV.vret dX4_takeSign_71 hf

set_option maxHeartbeats 4000000 in
set_option maxRecDepth 20000 in
theorem tX4_takeSign {d N : Nat}  {h h' : pv_H}  (hd : 1 ≤ d)  (hf : fX4_takeSign N  h = some h') : CALL yX4_takeSign cX4_takeSign 2 none d pv_SC (MC h) [.inr (.inr (1))] pv_SC (MC h') none := by
  unfold fX4_takeSign at hf
  refine EV.call (own := RX4) (ini := false) rfl rfl (fun q => by cases q) ⟨[], (List.append_nil _).symm⟩ (Nat.le_of_ble_eq_true rfl) ?_
  refine EV.eqL (L2 := [some (.inr (.inr (1))), none]) rfl ?_
  refine EV.aload_n dX4_takeSign_0 rfl rfl ?_
  refine FV.getF (v := 19) dX4_takeSign_1 sc_1 fl_4_43 rfl rfl hvc_1_7 ?_
  refine EV.aload_n dX4_takeSign_4 rfl rfl ?_
  refine FV.getI dX4_takeSign_5 sc_1 fl_4_71 rfl ?_
  obtain ⟨g1, hf⟩ := pv_gd hf
  refine FV.bald dX4_takeSign_8 sc_19 g1.1 g1.2 (j := (Int.toNat (h 1 10))) rfl ?_
  obtain ⟨x2, ex2, hf⟩ := pv_bo hf
  refine FV.sti (L2 := [some (.inr (.inr (1))), some (.inl (x2))]) dX4_takeSign_9 rfl (Nat.le_of_ble_eq_true rfl) ex2 rfl ?_
  refine EV.aload_n dX4_takeSign_10 rfl rfl ?_
  refine EV.dup dX4_takeSign_11 rfl ?_
  refine FV.getI dX4_takeSign_12 sc_1 fl_4_71 rfl ?_
  refine EV.iconst dX4_takeSign_15 (by decide) (by decide) ?_
  refine EV.iadd dX4_takeSign_16 ?_
  obtain ⟨h3, eh3, hf⟩ := pv_bo hf
  refine FV.putI dX4_takeSign_17 sc_1 fl_4_71 rfl rfl eh3 ?_
  refine EV.iload_n dX4_takeSign_20 rfl rfl ?_
  refine EV.bipush dX4_takeSign_21 (by decide) (by decide) ?_
  refine EV.icmp_ne (tgt := 35) dX4_takeSign_23 (by decide) (fun q4 => ?_) (fun q4 => ?_)
  · have hf := pv_gn hf q4
    refine EV.iload_n dX4_takeSign_35 rfl rfl ?_
    refine EV.bipush dX4_takeSign_36 (by decide) (by decide) ?_
    refine EV.icmp_ne (tgt := 50) dX4_takeSign_38 (by decide) (fun q5 => ?_) (fun q5 => ?_)
    · have hf := pv_gn hf q5
      refine EV.iload_n dX4_takeSign_50 rfl rfl ?_
      refine EV.bipush dX4_takeSign_51 (by decide) (by decide) ?_
      refine EV.icmp_ne (tgt := 65) dX4_takeSign_53 (by decide) (fun q6 => ?_) (fun q6 => ?_)
      · have hf := pv_gn hf q6
        refine EV.aload_n dX4_takeSign_65 rfl rfl ?_
        refine EV.bipush dX4_takeSign_66 (by decide) (by decide) ?_
        obtain ⟨h7, eh7, hf⟩ := pv_bo hf
        refine FV.putI dX4_takeSign_68 sc_1 fl_4_83 rfl rfl eh7 ?_
        refine EV.weak (L2 := [none, none]) trivial ?_
        exact tX4_takeSign_71 hd    hf
      · have hf := pv_gp hf q6
        refine EV.aload_n dX4_takeSign_56 rfl rfl ?_
        refine EV.bipush dX4_takeSign_57 (by decide) (by decide) ?_
        obtain ⟨h8, eh8, hf⟩ := pv_bo hf
        refine FV.putI dX4_takeSign_59 sc_1 fl_4_83 rfl rfl eh8 ?_
        refine EV.goto (tgt := 71) dX4_takeSign_62 (by decide) ?_
        refine EV.weak (L2 := [none, none]) trivial ?_
        exact tX4_takeSign_71 hd    hf
    · have hf := pv_gp hf q5
      refine EV.aload_n dX4_takeSign_41 rfl rfl ?_
      refine EV.bipush dX4_takeSign_42 (by decide) (by decide) ?_
      obtain ⟨h9, eh9, hf⟩ := pv_bo hf
      refine FV.putI dX4_takeSign_44 sc_1 fl_4_83 rfl rfl eh9 ?_
      refine EV.goto (tgt := 71) dX4_takeSign_47 (by decide) ?_
      refine EV.weak (L2 := [none, none]) trivial ?_
      exact tX4_takeSign_71 hd    hf
  · have hf := pv_gp hf q4
    refine EV.aload_n dX4_takeSign_26 rfl rfl ?_
    refine EV.bipush dX4_takeSign_27 (by decide) (by decide) ?_
    obtain ⟨h10, eh10, hf⟩ := pv_bo hf
    refine FV.putI dX4_takeSign_29 sc_1 fl_4_83 rfl rfl eh10 ?_
    refine EV.goto (tgt := 71) dX4_takeSign_32 (by decide) ?_
    refine EV.weak (L2 := [none, none]) trivial ?_
    exact tX4_takeSign_71 hd    hf

noncomputable def fX4_fail_20 (N : Nat)  (a1 : Int)  (h : pv_H) : Option (pv_H × Int) :=
  some (h, 0)

noncomputable def fX4_fail (N : Nat) (a1 : Int) (h : pv_H) : Option (pv_H × Int) :=
  if (h 1 1) = 0 then (pv_b (pv_up h 1 1 a1) fun h2 => pv_b (pv_up h2 1 2 (h2 1 12)) fun h3 => fX4_fail_20 N  a1  h3) else (fX4_fail_20 N  a1  h)

set_option maxHeartbeats 4000000 in
set_option maxRecDepth 20000 in
theorem tX4_fail_20 {d N : Nat}  {a1 : Int}  {h h' : pv_H} {r : Int} (hd : 1 ≤ d)    (hf : fX4_fail_20 N  a1  h = some (h', r)) : EV RX4 cX4_fail 2 (some .boolean) false d pv_SC (MC h') (some (.inl r)) 20 [none, none] [] pv_SC (MC h) := by
  unfold fX4_fail_20 at hf
  refine EV.iconst dX4_fail_20 (by decide) (by decide) ?_
  exact FV.zret dX4_fail_21 (by decide) hf

set_option maxHeartbeats 4000000 in
set_option maxRecDepth 20000 in
theorem tX4_fail {d N : Nat} {a1 : Int} {h h' : pv_H} {r : Int} (hd : 1 ≤ d)  (hf : fX4_fail N a1 h = some (h', r)) : CALL yX4_fail cX4_fail 2 (some .boolean) d pv_SC (MC h) [.inr (.inr (1)), .inl (a1)] pv_SC (MC h') (some (.inl r)) := by
  unfold fX4_fail at hf
  refine EV.call (own := RX4) (ini := false) rfl rfl (fun q => by cases q) ⟨[], (List.append_nil _).symm⟩ (Nat.le_of_ble_eq_true rfl) ?_
  refine EV.eqL (L2 := [some (.inr (.inr (1))), some (.inl (a1))]) rfl ?_
  refine EV.aload_n dX4_fail_0 rfl rfl ?_
  refine FV.getI dX4_fail_1 sc_1 fl_4_74 rfl ?_
  refine EV.if_ne (tgt := 20) dX4_fail_4 (by decide) (fun q1 => ?_) (fun q1 => ?_)
  · have hf := pv_gn hf q1
    refine EV.weak (L2 := [none, none]) trivial ?_
    exact tX4_fail_20 hd    hf
  · have hf := pv_gp hf q1
    refine EV.aload_n dX4_fail_7 rfl rfl ?_
    refine EV.iload_n dX4_fail_8 rfl rfl ?_
    obtain ⟨h2, eh2, hf⟩ := pv_bo hf
    refine FV.putI dX4_fail_9 sc_1 fl_4_74 rfl rfl eh2 ?_
    refine EV.aload_n dX4_fail_12 rfl rfl ?_
    refine EV.aload_n dX4_fail_13 rfl rfl ?_
    refine FV.getI dX4_fail_14 sc_1 fl_4_80 rfl ?_
    obtain ⟨h3, eh3, hf⟩ := pv_bo hf
    refine FV.putI dX4_fail_17 sc_1 fl_4_9 rfl rfl eh3 ?_
    refine EV.weak (L2 := [none, none]) trivial ?_
    exact tX4_fail_20 hd    hf

noncomputable def fX4_next_187 (N : Nat)    (h : pv_H) : Option (pv_H) :=
  some h

noncomputable def fX4_next_172 (N : Nat)    (h : pv_H) : Option (pv_H) :=
  if (h 1 11) = 46 then (pv_c2b (fX4_fail N 1 h) fun h22 r23 => fX4_next_187 N    h22) else (fX4_next_187 N    h)

noncomputable def fX4_next_126 (N : Nat)    (h : pv_H) : Option (pv_H) :=
  pv_c1 (fX4_wordFrom N (h 1 12) (pv_w ((h 1 10) - (h 1 12))) h) fun r30 => pv_b (pv_up h 1 11 r30) fun h31 => fX4_next_172 N    h31

noncomputable def fX4_next_91 (N : Nat)   : Nat → pv_H → Option (pv_H)
  | 0, _ => none
  | n + 1, h => if (h 1 9) ≤ (h 1 10) then (fX4_next_126 N    h) else (pv_c1 (fX4_isLetter N (h 1 10) h) fun r26 => if r26 = 0 then (fX4_next_126 N    h) else (pv_b (pv_up h 1 10 (pv_w ((h 1 10) + 1))) fun h28 => fX4_next_91 N   n  h28))

noncomputable def fX4_next_52 (N : Nat)    (h : pv_H) : Option (pv_H) :=
  pv_b (pv_up h 1 12 (h 1 10)) fun h6 => if (h6 1 10) < (h6 1 9) then (pv_c1 (fX4_isLetter N (h6 1 10) h6) fun r9 => if r9 = 0 then (pv_c1 (fX4_isDigit N (h6 1 10) h6) fun r12 => if r12 = 0 then (pv_c1 (fX4_takeSign N  h6) fun h15 => fX4_next_172 N    h15) else (pv_c1 (fX4_takeNumber N  h6) fun h17 => fX4_next_172 N    h17)) else (fX4_next_91 N   N  h6)) else (pv_b (pv_up h6 1 11 45) fun h18 => fX4_next_172 N    h18)

noncomputable def fX4_next_39 (N : Nat) (k0 : pv_H → Option (pv_H))   (h : pv_H) : Option (pv_H) :=
  pv_b (pv_up h 1 10 (pv_w ((h 1 10) + 1))) fun h19 => k0  h19

noncomputable def fX4_next_0 (N : Nat)   : Nat → pv_H → Option (pv_H)
  | 0, _ => none
  | n + 1, h => if (h 1 9) ≤ (h 1 10) then (fX4_next_52 N    h) else (if 0 ≤ h 1 10 ∧ h 1 10 < 400 then (if (h 19 (Int.toNat (h 1 10))) = 32 then (fX4_next_39 N (fun  hh => fX4_next_0 N   n  hh)   h) else (if 0 ≤ h 1 10 ∧ h 1 10 < 400 then (if (h 19 (Int.toNat (h 1 10))) = 10 then (fX4_next_39 N (fun  hh => fX4_next_0 N   n  hh)   h) else (fX4_next_52 N    h)) else none)) else none)

noncomputable def fX4_next (N : Nat)  (h : pv_H) : Option (pv_H) :=
  fX4_next_0 N   N  h

set_option maxHeartbeats 4000000 in
set_option maxRecDepth 20000 in
theorem tX4_next_187 {d N : Nat}    {h h' : pv_H}  (hd : 2 ≤ d)    (hf : fX4_next_187 N    h = some h') : EV RX4 cX4_next 1 none false d pv_SC (MC h') none 187 [none] [] pv_SC (MC h) := by
  unfold fX4_next_187 at hf
  exact FV.vret dX4_next_187 hf

set_option maxHeartbeats 4000000 in
set_option maxRecDepth 20000 in
theorem tX4_next_172 {d N : Nat}    {h h' : pv_H}  (hd : 2 ≤ d)    (hf : fX4_next_172 N    h = some h') : EV RX4 cX4_next 1 none false d pv_SC (MC h') none 172 [some (.inr (.inr (1)))] [] pv_SC (MC h) := by
  unfold fX4_next_172 at hf
  refine EV.aload_n dX4_next_172 rfl rfl ?_
  refine FV.getI dX4_next_173 sc_1 fl_4_83 rfl ?_
  refine EV.bipush dX4_next_176 (by decide) (by decide) ?_
  refine EV.icmp_ne (tgt := 187) dX4_next_178 (by decide) (fun q20 => ?_) (fun q20 => ?_)
  · have hf := pv_gn hf q20
    refine EV.weak (L2 := [none]) trivial ?_
    exact tX4_next_187 hd    hf
  · have hf := pv_gp hf q20
    refine EV.aload_n dX4_next_181 rfl rfl ?_
    refine EV.iconst dX4_next_182 (by decide) (by decide) ?_
    obtain ⟨h22, r23, hc21, hf⟩ := pv_c2o hf
    refine EV.invV (As := [.inl (1)]) (st := []) (d1 := d - 1) (sh1 := pv_SC) (h1 := MC h22) (r1 := (some (.inl r23))) dX4_next_183 sc_1 (by decide) md_X4_fail ml_X4_102 im_X4_fail se_X4_fail (tX4_fail (by omega)  hc21) (by omega) rfl rfl (Nat.le_of_ble_eq_true rfl) ⟨[], (List.append_nil _).symm⟩ ?_
    refine EV.eqS (st2 := [.inl (r23)]) rfl ?_
    refine EV.pop dX4_next_186 rfl ?_
    refine EV.weak (L2 := [none]) trivial ?_
    exact tX4_next_187 hd    hf

set_option maxHeartbeats 4000000 in
set_option maxRecDepth 20000 in
theorem tX4_next_126 {d N : Nat}    {h h' : pv_H}  (hd : 2 ≤ d)    (hf : fX4_next_126 N    h = some h') : EV RX4 cX4_next 1 none false d pv_SC (MC h') none 126 [some (.inr (.inr (1)))] [] pv_SC (MC h) := by
  unfold fX4_next_126 at hf
  refine EV.aload_n dX4_next_126 rfl rfl ?_
  refine EV.aload_n dX4_next_127 rfl rfl ?_
  refine EV.aload_n dX4_next_128 rfl rfl ?_
  refine FV.getI dX4_next_129 sc_1 fl_4_80 rfl ?_
  refine EV.aload_n dX4_next_132 rfl rfl ?_
  refine FV.getI dX4_next_133 sc_1 fl_4_71 rfl ?_
  refine EV.aload_n dX4_next_136 rfl rfl ?_
  refine FV.getI dX4_next_137 sc_1 fl_4_80 rfl ?_
  refine EV.isub dX4_next_140 ?_
  obtain ⟨r30, hc29, hf⟩ := pv_c1o hf
  refine EV.invV (As := [.inl (h 1 12), .inl (pv_w ((h 1 10) - (h 1 12)))]) (st := [.inr (.inr (1))]) (d1 := d - 1) (sh1 := pv_SC) (h1 := MC h) (r1 := (some (.inl r30))) dX4_next_141 sc_1 (by decide) md_X4_wordFrom ml_X4_90 im_X4_wordFrom se_X4_wordFrom (tX4_wordFrom (by omega)  hc29) (by omega) rfl rfl (Nat.le_of_ble_eq_true rfl) ⟨[], (List.append_nil _).symm⟩ ?_
  refine EV.eqS (st2 := [.inl (r30), .inr (.inr (1))]) rfl ?_
  obtain ⟨h31, eh31, hf⟩ := pv_bo hf
  refine FV.putI dX4_next_144 sc_1 fl_4_83 rfl rfl eh31 ?_
  refine EV.goto (tgt := 172) dX4_next_147 (by decide) ?_
  refine EV.weak (L2 := [some (.inr (.inr (1)))]) (And.intro rfl trivial) ?_
  exact tX4_next_172 hd    hf

set_option maxHeartbeats 4000000 in
set_option maxRecDepth 20000 in
theorem tX4_next_91 {d N : Nat}   {h' : pv_H}  (hd : 2 ≤ d)   : ∀ (n : Nat)   (h : pv_H), fX4_next_91 N   n  h = some h' → EV RX4 cX4_next 1 none false d pv_SC (MC h') none 91 [some (.inr (.inr (1)))] [] pv_SC (MC h) := by
  intro n
  induction n with
  | zero =>
    intro   h hf
    cases hf
  | succ n ih =>
    intro   h hf
    rw [fX4_next_91] at hf
    refine EV.aload_n dX4_next_91 rfl rfl ?_
    refine FV.getI dX4_next_92 sc_1 fl_4_71 rfl ?_
    refine EV.aload_n dX4_next_95 rfl rfl ?_
    refine FV.getI dX4_next_96 sc_1 fl_4_68 rfl ?_
    refine EV.icmp_ge (tgt := 126) dX4_next_99 (by decide) (fun q24 => ?_) (fun q24 => ?_)
    · have hf := pv_gp hf q24
      refine EV.weak (L2 := [some (.inr (.inr (1)))]) (And.intro rfl trivial) ?_
      exact tX4_next_126 hd    hf
    · have hf := pv_gn hf q24
      refine EV.aload_n dX4_next_102 rfl rfl ?_
      refine EV.aload_n dX4_next_103 rfl rfl ?_
      refine FV.getI dX4_next_104 sc_1 fl_4_71 rfl ?_
      obtain ⟨r26, hc25, hf⟩ := pv_c1o hf
      refine EV.invV (As := [.inl (h 1 10)]) (st := []) (d1 := d - 1) (sh1 := pv_SC) (h1 := MC h) (r1 := (some (.inl r26))) dX4_next_107 sc_1 (by decide) md_X4_isLetter ml_X4_86 im_X4_isLetter se_X4_isLetter (tX4_isLetter (by omega)  hc25) (by omega) rfl rfl (Nat.le_of_ble_eq_true rfl) ⟨[], (List.append_nil _).symm⟩ ?_
      refine EV.eqS (st2 := [.inl (r26)]) rfl ?_
      refine EV.if_eq (tgt := 126) dX4_next_110 (by decide) (fun q27 => ?_) (fun q27 => ?_)
      · have hf := pv_gp hf q27
        refine EV.weak (L2 := [some (.inr (.inr (1)))]) (And.intro rfl trivial) ?_
        exact tX4_next_126 hd    hf
      · have hf := pv_gn hf q27
        refine EV.aload_n dX4_next_113 rfl rfl ?_
        refine EV.dup dX4_next_114 rfl ?_
        refine FV.getI dX4_next_115 sc_1 fl_4_71 rfl ?_
        refine EV.iconst dX4_next_118 (by decide) (by decide) ?_
        refine EV.iadd dX4_next_119 ?_
        obtain ⟨h28, eh28, hf⟩ := pv_bo hf
        refine FV.putI dX4_next_120 sc_1 fl_4_71 rfl rfl eh28 ?_
        refine EV.goto (tgt := 91) dX4_next_123 (by decide) ?_
        refine EV.weak (L2 := [some (.inr (.inr (1)))]) (And.intro rfl trivial) ?_
        exact ih   _ hf

set_option maxHeartbeats 4000000 in
set_option maxRecDepth 20000 in
theorem tX4_next_52 {d N : Nat}    {h h' : pv_H}  (hd : 2 ≤ d)    (hf : fX4_next_52 N    h = some h') : EV RX4 cX4_next 1 none false d pv_SC (MC h') none 52 [some (.inr (.inr (1)))] [] pv_SC (MC h) := by
  unfold fX4_next_52 at hf
  refine EV.aload_n dX4_next_52 rfl rfl ?_
  refine EV.aload_n dX4_next_53 rfl rfl ?_
  refine FV.getI dX4_next_54 sc_1 fl_4_71 rfl ?_
  obtain ⟨h6, eh6, hf⟩ := pv_bo hf
  refine FV.putI dX4_next_57 sc_1 fl_4_80 rfl rfl eh6 ?_
  refine EV.aload_n dX4_next_60 rfl rfl ?_
  refine FV.getI dX4_next_61 sc_1 fl_4_71 rfl ?_
  refine EV.aload_n dX4_next_64 rfl rfl ?_
  refine FV.getI dX4_next_65 sc_1 fl_4_68 rfl ?_
  refine EV.icmp_lt (tgt := 80) dX4_next_68 (by decide) (fun q7 => ?_) (fun q7 => ?_)
  · have hf := pv_gp hf q7
    refine EV.aload_n dX4_next_80 rfl rfl ?_
    refine EV.aload_n dX4_next_81 rfl rfl ?_
    refine FV.getI dX4_next_82 sc_1 fl_4_71 rfl ?_
    obtain ⟨r9, hc8, hf⟩ := pv_c1o hf
    refine EV.invV (As := [.inl (h6 1 10)]) (st := []) (d1 := d - 1) (sh1 := pv_SC) (h1 := MC h6) (r1 := (some (.inl r9))) dX4_next_85 sc_1 (by decide) md_X4_isLetter ml_X4_86 im_X4_isLetter se_X4_isLetter (tX4_isLetter (by omega)  hc8) (by omega) rfl rfl (Nat.le_of_ble_eq_true rfl) ⟨[], (List.append_nil _).symm⟩ ?_
    refine EV.eqS (st2 := [.inl (r9)]) rfl ?_
    refine EV.if_eq (tgt := 150) dX4_next_88 (by decide) (fun q10 => ?_) (fun q10 => ?_)
    · have hf := pv_gp hf q10
      refine EV.aload_n dX4_next_150 rfl rfl ?_
      refine EV.aload_n dX4_next_151 rfl rfl ?_
      refine FV.getI dX4_next_152 sc_1 fl_4_71 rfl ?_
      obtain ⟨r12, hc11, hf⟩ := pv_c1o hf
      refine EV.invV (As := [.inl (h6 1 10)]) (st := []) (d1 := d - 1) (sh1 := pv_SC) (h1 := MC h6) (r1 := (some (.inl r12))) dX4_next_155 sc_1 (by decide) md_X4_isDigit ml_X4_93 im_X4_isDigit se_X4_isDigit (tX4_isDigit (by omega)  hc11) (by omega) rfl rfl (Nat.le_of_ble_eq_true rfl) ⟨[], (List.append_nil _).symm⟩ ?_
      refine EV.eqS (st2 := [.inl (r12)]) rfl ?_
      refine EV.if_eq (tgt := 168) dX4_next_158 (by decide) (fun q13 => ?_) (fun q13 => ?_)
      · have hf := pv_gp hf q13
        refine EV.aload_n dX4_next_168 rfl rfl ?_
        obtain ⟨h15, hc14, hf⟩ := pv_c1o hf
        refine EV.invV (As := []) (st := []) (d1 := d - 1) (sh1 := pv_SC) (h1 := MC h15) (r1 := none) dX4_next_169 sc_1 (by decide) md_X4_takeSign ml_X4_99 im_X4_takeSign se_X4_takeSign (tX4_takeSign (by omega)  hc14) (by omega) rfl rfl (Nat.le_of_ble_eq_true rfl) ⟨[], (List.append_nil _).symm⟩ ?_
        refine EV.weak (L2 := [some (.inr (.inr (1)))]) (And.intro rfl trivial) ?_
        exact tX4_next_172 hd    hf
      · have hf := pv_gn hf q13
        refine EV.aload_n dX4_next_161 rfl rfl ?_
        obtain ⟨h17, hc16, hf⟩ := pv_c1o hf
        refine EV.invV (As := []) (st := []) (d1 := d - 1) (sh1 := pv_SC) (h1 := MC h17) (r1 := none) dX4_next_162 sc_1 (by decide) md_X4_takeNumber ml_X4_96 im_X4_takeNumber se_X4_takeNumber (tX4_takeNumber (by omega)  hc16) (by omega) rfl rfl (Nat.le_of_ble_eq_true rfl) ⟨[], (List.append_nil _).symm⟩ ?_
        refine EV.goto (tgt := 172) dX4_next_165 (by decide) ?_
        refine EV.weak (L2 := [some (.inr (.inr (1)))]) (And.intro rfl trivial) ?_
        exact tX4_next_172 hd    hf
    · have hf := pv_gn hf q10
      refine EV.weak (L2 := [some (.inr (.inr (1)))]) (And.intro rfl trivial) ?_
      exact tX4_next_91 hd   _   _ hf
  · have hf := pv_gn hf q7
    refine EV.aload_n dX4_next_71 rfl rfl ?_
    refine EV.bipush dX4_next_72 (by decide) (by decide) ?_
    obtain ⟨h18, eh18, hf⟩ := pv_bo hf
    refine FV.putI dX4_next_74 sc_1 fl_4_83 rfl rfl eh18 ?_
    refine EV.goto (tgt := 172) dX4_next_77 (by decide) ?_
    refine EV.weak (L2 := [some (.inr (.inr (1)))]) (And.intro rfl trivial) ?_
    exact tX4_next_172 hd    hf

set_option maxHeartbeats 4000000 in
set_option maxRecDepth 20000 in
theorem tX4_next_39 {d N : Nat} {k0 : pv_H → Option (pv_H)}   {h h' : pv_H}  (hd : 2 ≤ d) (hk0 : ∀   (hh : pv_H), k0  hh = some h' → EV RX4 cX4_next 1 none false d pv_SC (MC h') none 0 [some (.inr (.inr (1)))] [] pv_SC (MC hh))   (hf : fX4_next_39 N k0   h = some h') : EV RX4 cX4_next 1 none false d pv_SC (MC h') none 39 [some (.inr (.inr (1)))] [] pv_SC (MC h) := by
  unfold fX4_next_39 at hf
  refine EV.aload_n dX4_next_39 rfl rfl ?_
  refine EV.dup dX4_next_40 rfl ?_
  refine FV.getI dX4_next_41 sc_1 fl_4_71 rfl ?_
  refine EV.iconst dX4_next_44 (by decide) (by decide) ?_
  refine EV.iadd dX4_next_45 ?_
  obtain ⟨h19, eh19, hf⟩ := pv_bo hf
  refine FV.putI dX4_next_46 sc_1 fl_4_71 rfl rfl eh19 ?_
  refine EV.goto (tgt := 0) dX4_next_49 (by decide) ?_
  refine EV.weak (L2 := [some (.inr (.inr (1)))]) (And.intro rfl trivial) ?_
  exact hk0   _ hf

set_option maxHeartbeats 4000000 in
set_option maxRecDepth 20000 in
theorem tX4_next_0 {d N : Nat}   {h' : pv_H}  (hd : 2 ≤ d)   : ∀ (n : Nat)   (h : pv_H), fX4_next_0 N   n  h = some h' → EV RX4 cX4_next 1 none false d pv_SC (MC h') none 0 [some (.inr (.inr (1)))] [] pv_SC (MC h) := by
  intro n
  induction n with
  | zero =>
    intro   h hf
    cases hf
  | succ n ih =>
    intro   h hf
    rw [fX4_next_0] at hf
    refine EV.aload_n dX4_next_0 rfl rfl ?_
    refine FV.getI dX4_next_1 sc_1 fl_4_71 rfl ?_
    refine EV.aload_n dX4_next_4 rfl rfl ?_
    refine FV.getI dX4_next_5 sc_1 fl_4_68 rfl ?_
    refine EV.icmp_ge (tgt := 52) dX4_next_8 (by decide) (fun q1 => ?_) (fun q1 => ?_)
    · have hf := pv_gp hf q1
      refine EV.weak (L2 := [some (.inr (.inr (1)))]) (And.intro rfl trivial) ?_
      exact tX4_next_52 hd    hf
    · have hf := pv_gn hf q1
      refine EV.aload_n dX4_next_11 rfl rfl ?_
      refine FV.getF (v := 19) dX4_next_12 sc_1 fl_4_43 rfl rfl hvc_1_7 ?_
      refine EV.aload_n dX4_next_15 rfl rfl ?_
      refine FV.getI dX4_next_16 sc_1 fl_4_71 rfl ?_
      obtain ⟨g2, hf⟩ := pv_gd hf
      refine FV.bald dX4_next_19 sc_19 g2.1 g2.2 (j := (Int.toNat (h 1 10))) rfl ?_
      refine EV.bipush dX4_next_20 (by decide) (by decide) ?_
      refine EV.icmp_eq (tgt := 39) dX4_next_22 (by decide) (fun q3 => ?_) (fun q3 => ?_)
      · have hf := pv_gp hf q3
        refine EV.weak (L2 := [some (.inr (.inr (1)))]) (And.intro rfl trivial) ?_
        exact tX4_next_39 hd (ih)   hf
      · have hf := pv_gn hf q3
        refine EV.aload_n dX4_next_25 rfl rfl ?_
        refine FV.getF (v := 19) dX4_next_26 sc_1 fl_4_43 rfl rfl hvc_1_7 ?_
        refine EV.aload_n dX4_next_29 rfl rfl ?_
        refine FV.getI dX4_next_30 sc_1 fl_4_71 rfl ?_
        obtain ⟨g4, hf⟩ := pv_gd hf
        refine FV.bald dX4_next_33 sc_19 g4.1 g4.2 (j := (Int.toNat (h 1 10))) rfl ?_
        refine EV.bipush dX4_next_34 (by decide) (by decide) ?_
        refine EV.icmp_ne (tgt := 52) dX4_next_36 (by decide) (fun q5 => ?_) (fun q5 => ?_)
        · have hf := pv_gn hf q5
          refine EV.weak (L2 := [some (.inr (.inr (1)))]) (And.intro rfl trivial) ?_
          exact tX4_next_52 hd    hf
        · have hf := pv_gp hf q5
          refine EV.weak (L2 := [some (.inr (.inr (1)))]) (And.intro rfl trivial) ?_
          exact tX4_next_39 hd (ih)   hf

set_option maxHeartbeats 4000000 in
set_option maxRecDepth 20000 in
theorem tX4_next {d N : Nat}  {h h' : pv_H}  (hd : 2 ≤ d)  (hf : fX4_next N  h = some h') : CALL yX4_next cX4_next 1 none d pv_SC (MC h) [.inr (.inr (1))] pv_SC (MC h') none := by
  unfold fX4_next at hf
  refine EV.call (own := RX4) (ini := false) rfl rfl (fun q => by cases q) ⟨[], (List.append_nil _).symm⟩ (Nat.le_of_ble_eq_true rfl) ?_
  refine EV.eqL (L2 := [some (.inr (.inr (1)))]) rfl ?_
  refine EV.weak (L2 := [some (.inr (.inr (1)))]) (And.intro rfl trivial) ?_
  exact tX4_next_0 hd   _   _ hf

noncomputable def fX4_begin (N : Nat) (a1 : Int) (h : pv_H) : Option (pv_H) :=
  pv_b (pv_up h 1 0 0) fun h1 => pv_b (pv_up h1 1 9 (min a1 400)) fun h2 => pv_b (pv_up h2 1 10 0) fun h3 => pv_b (pv_up h3 1 1 0) fun h4 => pv_b (pv_up h4 1 2 (-1)) fun h5 => pv_c1 (fX4_next N  h5) fun h7 => some h7

set_option maxHeartbeats 4000000 in
set_option maxRecDepth 20000 in
theorem tX4_begin {d N : Nat} {a1 : Int} {h h' : pv_H}  (hd : 3 ≤ d)  (hf : fX4_begin N a1 h = some h') : CALL yX4_begin cX4_begin 2 none d pv_SC (MC h) [.inr (.inr (1)), .inl (a1)] pv_SC (MC h') none := by
  unfold fX4_begin at hf
  refine EV.call (own := RX4) (ini := false) rfl rfl (fun q => by cases q) ⟨[], (List.append_nil _).symm⟩ (Nat.le_of_ble_eq_true rfl) ?_
  refine EV.eqL (L2 := [some (.inr (.inr (1))), some (.inl (a1))]) rfl ?_
  refine EV.aload_n dX4_begin_0 rfl rfl ?_
  refine EV.iconst dX4_begin_1 (by decide) (by decide) ?_
  obtain ⟨h1, eh1, hf⟩ := pv_bo hf
  refine FV.putI dX4_begin_2 sc_1 fl_4_59 rfl rfl eh1 ?_
  refine EV.aload_n dX4_begin_5 rfl rfl ?_
  refine EV.iload_n dX4_begin_6 rfl rfl ?_
  refine EV.sipush dX4_begin_7 (by decide) (by decide) ?_
  refine EV.mmin dX4_begin_10 ml_X4_62 w_mins w_mai w_minc (by omega) (Nat.le_of_ble_eq_true rfl) ?_
  obtain ⟨h2, eh2, hf⟩ := pv_bo hf
  refine FV.putI dX4_begin_13 sc_1 fl_4_68 rfl rfl eh2 ?_
  refine EV.aload_n dX4_begin_16 rfl rfl ?_
  refine EV.iconst dX4_begin_17 (by decide) (by decide) ?_
  obtain ⟨h3, eh3, hf⟩ := pv_bo hf
  refine FV.putI dX4_begin_18 sc_1 fl_4_71 rfl rfl eh3 ?_
  refine EV.aload_n dX4_begin_21 rfl rfl ?_
  refine EV.iconst dX4_begin_22 (by decide) (by decide) ?_
  obtain ⟨h4, eh4, hf⟩ := pv_bo hf
  refine FV.putI dX4_begin_23 sc_1 fl_4_74 rfl rfl eh4 ?_
  refine EV.aload_n dX4_begin_26 rfl rfl ?_
  refine EV.iconst dX4_begin_27 (by decide) (by decide) ?_
  obtain ⟨h5, eh5, hf⟩ := pv_bo hf
  refine FV.putI dX4_begin_28 sc_1 fl_4_9 rfl rfl eh5 ?_
  refine EV.aload_n dX4_begin_31 rfl rfl ?_
  obtain ⟨h7, hc6, hf⟩ := pv_c1o hf
  refine EV.invV (As := []) (st := []) (d1 := d - 1) (sh1 := pv_SC) (h1 := MC h7) (r1 := none) dX4_begin_32 sc_1 (by decide) md_X4_next ml_X4_77 im_X4_next se_X4_next (tX4_next (by omega)  hc6) (by omega) rfl rfl (Nat.le_of_ble_eq_true rfl) ⟨[], (List.append_nil _).symm⟩ ?_
  exact FV.vret dX4_begin_35 hf

noncomputable def fX4_expect (N : Nat) (a1 : Int) (h : pv_H) : Option (pv_H × Int) :=
  if (h 1 11) = a1 then (pv_c1 (fX4_next N  h) fun h3 => some (h3, 1)) else (pv_c2b (fX4_fail N 2 h) fun h5 r6 => if r6 = 0 ∨ r6 = 1 then (some (h5, r6)) else none)

set_option maxHeartbeats 4000000 in
set_option maxRecDepth 20000 in
theorem tX4_expect {d N : Nat} {a1 : Int} {h h' : pv_H} {r : Int} (hd : 3 ≤ d)  (hf : fX4_expect N a1 h = some (h', r)) : CALL yX4_expect cX4_expect 2 (some .boolean) d pv_SC (MC h) [.inr (.inr (1)), .inl (a1)] pv_SC (MC h') (some (.inl r)) := by
  unfold fX4_expect at hf
  refine EV.call (own := RX4) (ini := false) rfl rfl (fun q => by cases q) ⟨[], (List.append_nil _).symm⟩ (Nat.le_of_ble_eq_true rfl) ?_
  refine EV.eqL (L2 := [some (.inr (.inr (1))), some (.inl (a1))]) rfl ?_
  refine EV.aload_n dX4_expect_0 rfl rfl ?_
  refine FV.getI dX4_expect_1 sc_1 fl_4_83 rfl ?_
  refine EV.iload_n dX4_expect_4 rfl rfl ?_
  refine EV.icmp_eq (tgt := 14) dX4_expect_5 (by decide) (fun q1 => ?_) (fun q1 => ?_)
  · have hf := pv_gp hf q1
    refine EV.aload_n dX4_expect_14 rfl rfl ?_
    obtain ⟨h3, hc2, hf⟩ := pv_c1o hf
    refine EV.invV (As := []) (st := []) (d1 := d - 1) (sh1 := pv_SC) (h1 := MC h3) (r1 := none) dX4_expect_15 sc_1 (by decide) md_X4_next ml_X4_77 im_X4_next se_X4_next (tX4_next (by omega)  hc2) (by omega) rfl rfl (Nat.le_of_ble_eq_true rfl) ⟨[], (List.append_nil _).symm⟩ ?_
    refine EV.iconst dX4_expect_18 (by decide) (by decide) ?_
    exact FV.zret dX4_expect_19 (by decide) hf
  · have hf := pv_gn hf q1
    refine EV.aload_n dX4_expect_8 rfl rfl ?_
    refine EV.iconst dX4_expect_9 (by decide) (by decide) ?_
    obtain ⟨h5, r6, hc4, hf⟩ := pv_c2o hf
    refine EV.invV (As := [.inl (2)]) (st := []) (d1 := d - 1) (sh1 := pv_SC) (h1 := MC h5) (r1 := (some (.inl r6))) dX4_expect_10 sc_1 (by decide) md_X4_fail ml_X4_102 im_X4_fail se_X4_fail (tX4_fail (by omega)  hc4) (by omega) rfl rfl (Nat.le_of_ble_eq_true rfl) ⟨[], (List.append_nil _).symm⟩ ?_
    refine EV.eqS (st2 := [.inl (r6)]) rfl ?_
    obtain ⟨g7, hf⟩ := pv_gd hf
    exact FV.zret dX4_expect_13 g7 hf

noncomputable def fX4_numberWithin_33 (N : Nat)  (a1 : Int) (a2 : Int)  (h : pv_H) : Option (pv_H × Int) :=
  pv_c2b (fX4_fail N 3 h) fun h11 r12 => some (h11, -1)

noncomputable def fX4_numberWithin (N : Nat) (a1 : Int) (a2 : Int) (h : pv_H) : Option (pv_H × Int) :=
  if (h 1 11) = 41 then (if (h 1 13) < a1 then (fX4_numberWithin_33 N  a1 a2  h) else (if (h 1 13) ≤ a2 then (pv_b (h 1 13) fun x4 => pv_c1 (fX4_next N  h) fun h6 => some (h6, x4)) else (fX4_numberWithin_33 N  a1 a2  h))) else (pv_c2b (fX4_fail N 2 h) fun h8 r9 => some (h8, -1))

set_option maxHeartbeats 4000000 in
set_option maxRecDepth 20000 in
theorem tX4_numberWithin_33 {d N : Nat}  {a1 : Int} {a2 : Int}  {h h' : pv_H} {r : Int} (hd : 3 ≤ d)    (hf : fX4_numberWithin_33 N  a1 a2  h = some (h', r)) : EV RX4 cX4_numberWithin 4 (some .int) false d pv_SC (MC h') (some (.inl r)) 33 [some (.inr (.inr (1))), none, none, none] [] pv_SC (MC h) := by
  unfold fX4_numberWithin_33 at hf
  refine EV.aload_n dX4_numberWithin_33 rfl rfl ?_
  refine EV.iconst dX4_numberWithin_34 (by decide) (by decide) ?_
  obtain ⟨h11, r12, hc10, hf⟩ := pv_c2o hf
  refine EV.invV (As := [.inl (3)]) (st := []) (d1 := d - 1) (sh1 := pv_SC) (h1 := MC h11) (r1 := (some (.inl r12))) dX4_numberWithin_35 sc_1 (by decide) md_X4_fail ml_X4_102 im_X4_fail se_X4_fail (tX4_fail (by omega)  hc10) (by omega) rfl rfl (Nat.le_of_ble_eq_true rfl) ⟨[], (List.append_nil _).symm⟩ ?_
  refine EV.eqS (st2 := [.inl (r12)]) rfl ?_
  refine EV.pop dX4_numberWithin_38 rfl ?_
  refine EV.iconst dX4_numberWithin_39 (by decide) (by decide) ?_
  exact FV.iret dX4_numberWithin_40 hf

set_option maxHeartbeats 4000000 in
set_option maxRecDepth 20000 in
theorem tX4_numberWithin {d N : Nat} {a1 : Int} {a2 : Int} {h h' : pv_H} {r : Int} (hd : 3 ≤ d)  (hf : fX4_numberWithin N a1 a2 h = some (h', r)) : CALL yX4_numberWithin cX4_numberWithin 4 (some .int) d pv_SC (MC h) [.inr (.inr (1)), .inl (a1), .inl (a2)] pv_SC (MC h') (some (.inl r)) := by
  unfold fX4_numberWithin at hf
  refine EV.call (own := RX4) (ini := false) rfl rfl (fun q => by cases q) ⟨[], (List.append_nil _).symm⟩ (Nat.le_of_ble_eq_true rfl) ?_
  refine EV.eqL (L2 := [some (.inr (.inr (1))), some (.inl (a1)), some (.inl (a2)), none]) rfl ?_
  refine EV.aload_n dX4_numberWithin_0 rfl rfl ?_
  refine FV.getI dX4_numberWithin_1 sc_1 fl_4_83 rfl ?_
  refine EV.bipush dX4_numberWithin_4 (by decide) (by decide) ?_
  refine EV.icmp_eq (tgt := 17) dX4_numberWithin_6 (by decide) (fun q1 => ?_) (fun q1 => ?_)
  · have hf := pv_gp hf q1
    refine EV.aload_n dX4_numberWithin_17 rfl rfl ?_
    refine FV.getI dX4_numberWithin_18 sc_1 fl_4_105 rfl ?_
    refine EV.iload_n dX4_numberWithin_21 rfl rfl ?_
    refine EV.icmp_lt (tgt := 33) dX4_numberWithin_22 (by decide) (fun q2 => ?_) (fun q2 => ?_)
    · have hf := pv_gp hf q2
      refine EV.weak (L2 := [some (.inr (.inr (1))), none, none, none]) (And.intro rfl trivial) ?_
      exact tX4_numberWithin_33 hd    hf
    · have hf := pv_gn hf q2
      refine EV.aload_n dX4_numberWithin_25 rfl rfl ?_
      refine FV.getI dX4_numberWithin_26 sc_1 fl_4_105 rfl ?_
      refine EV.iload_n dX4_numberWithin_29 rfl rfl ?_
      refine EV.icmp_le (tgt := 41) dX4_numberWithin_30 (by decide) (fun q3 => ?_) (fun q3 => ?_)
      · have hf := pv_gp hf q3
        refine EV.aload_n dX4_numberWithin_41 rfl rfl ?_
        refine FV.getI dX4_numberWithin_42 sc_1 fl_4_105 rfl ?_
        obtain ⟨x4, ex4, hf⟩ := pv_bo hf
        refine FV.sti (L2 := [some (.inr (.inr (1))), some (.inl (a1)), some (.inl (a2)), some (.inl (x4))]) dX4_numberWithin_45 rfl (Nat.le_of_ble_eq_true rfl) ex4 rfl ?_
        refine EV.aload_n dX4_numberWithin_46 rfl rfl ?_
        obtain ⟨h6, hc5, hf⟩ := pv_c1o hf
        refine EV.invV (As := []) (st := []) (d1 := d - 1) (sh1 := pv_SC) (h1 := MC h6) (r1 := none) dX4_numberWithin_47 sc_1 (by decide) md_X4_next ml_X4_77 im_X4_next se_X4_next (tX4_next (by omega)  hc5) (by omega) rfl rfl (Nat.le_of_ble_eq_true rfl) ⟨[], (List.append_nil _).symm⟩ ?_
        refine EV.iload_n dX4_numberWithin_50 rfl rfl ?_
        exact FV.iret dX4_numberWithin_51 hf
      · have hf := pv_gn hf q3
        refine EV.weak (L2 := [some (.inr (.inr (1))), none, none, none]) (And.intro rfl trivial) ?_
        exact tX4_numberWithin_33 hd    hf
  · have hf := pv_gn hf q1
    refine EV.aload_n dX4_numberWithin_9 rfl rfl ?_
    refine EV.iconst dX4_numberWithin_10 (by decide) (by decide) ?_
    obtain ⟨h8, r9, hc7, hf⟩ := pv_c2o hf
    refine EV.invV (As := [.inl (2)]) (st := []) (d1 := d - 1) (sh1 := pv_SC) (h1 := MC h8) (r1 := (some (.inl r9))) dX4_numberWithin_11 sc_1 (by decide) md_X4_fail ml_X4_102 im_X4_fail se_X4_fail (tX4_fail (by omega)  hc7) (by omega) rfl rfl (Nat.le_of_ble_eq_true rfl) ⟨[], (List.append_nil _).symm⟩ ?_
    refine EV.eqS (st2 := [.inl (r9)]) rfl ?_
    refine EV.pop dX4_numberWithin_14 rfl ?_
    refine EV.iconst dX4_numberWithin_15 (by decide) (by decide) ?_
    exact FV.iret dX4_numberWithin_16 hf

noncomputable def fX4_readSpans_135 (N : Nat)  (a1 : Int) (a2 : Int)  (h : pv_H) : Option (pv_H × Int) :=
  some (h, 1)

noncomputable def fX4_readSpans_108 (N : Nat) (k32 : Int → pv_H → Option (pv_H × Int)) (a1 : Int) (a2 : Int) (v3 : Int) (v4 : Int) (v5 : Int) (h : pv_H) : Option (pv_H × Int) :=
  if v5 = (-1) then (some (h, 0)) else (pv_c1 (fX5_tell N 2 a1 v4 v5 a2 h) fun h20 => pv_b (pv_w (v3 + 1)) fun x21 => k32 (x21) h20)

noncomputable def fX4_readSpans_32 (N : Nat)  (a1 : Int) (a2 : Int) : Nat → Int → pv_H → Option (pv_H × Int)
  | 0, _, _ => none
  | n + 1, v3, h => if 400 ≤ v3 then (fX4_readSpans_135 N  a1 a2  h) else (if (h 1 11) = 7 then (pv_c1 (fX4_next N  h) fun h7 => pv_c2b (fX4_numberWithin N 0 (pv_w ((h7 2 0) - 1)) h7) fun h9 r10 => if r10 = (-1) then (fX4_readSpans_108 N (fun v3_ hh => fX4_readSpans_32 N  a1 a2 n v3_ hh) a1 a2 (v3) (r10) (r10) h9) else (if (h9 1 11) = 8 then (pv_c1 (fX4_next N  h9) fun h14 => pv_c2b (fX4_numberWithin N r10 (pv_w ((h14 2 0) - 1)) h14) fun h16 r17 => fX4_readSpans_108 N (fun v3_ hh => fX4_readSpans_32 N  a1 a2 n v3_ hh) a1 a2 (v3) (r10) (r17) h16) else (fX4_readSpans_108 N (fun v3_ hh => fX4_readSpans_32 N  a1 a2 n v3_ hh) a1 a2 (v3) (r10) (r10) h9))) else (fX4_readSpans_135 N  a1 a2  h))

noncomputable def fX4_readSpans (N : Nat) (a1 : Int) (a2 : Int) (h : pv_H) : Option (pv_H × Int) :=
  if (h 1 11) = 7 then (fX4_readSpans_32 N  a1 a2 N (0) h) else (pv_c1 (fX5_tell N 2 a1 0 (pv_w ((h 2 0) - 1)) a2 h) fun h3 => some (h3, 1))

set_option maxHeartbeats 4000000 in
set_option maxRecDepth 20000 in
theorem tX4_readSpans_135 {d N : Nat}  {a1 : Int} {a2 : Int}  {h h' : pv_H} {r : Int} (hd : 4 ≤ d)    (hf : fX4_readSpans_135 N  a1 a2  h = some (h', r)) : EV RX4 cX4_readSpans 6 (some .boolean) false d pv_SC (MC h') (some (.inl r)) 135 [none, none, none, none, none, none] [] pv_SC (MC h) := by
  unfold fX4_readSpans_135 at hf
  refine EV.iconst dX4_readSpans_135 (by decide) (by decide) ?_
  exact FV.zret dX4_readSpans_136 (by decide) hf

set_option maxHeartbeats 4000000 in
set_option maxRecDepth 20000 in
theorem tX4_readSpans_108 {d N : Nat} {k32 : Int → pv_H → Option (pv_H × Int)} {a1 : Int} {a2 : Int} {v3 : Int} {v4 : Int} {v5 : Int} {h h' : pv_H} {r : Int} (hd : 4 ≤ d) (hk32 : ∀ (v3 : Int)  (hh : pv_H), k32 v3 hh = some (h', r) → EV RX4 cX4_readSpans 6 (some .boolean) false d pv_SC (MC h') (some (.inl r)) 32 [some (.inr (.inr (1))), some (.inl (a1)), some (.inl (a2)), some (.inl (v3)), none, none] [] pv_SC (MC hh))   (hf : fX4_readSpans_108 N k32 a1 a2 v3 v4 v5 h = some (h', r)) : EV RX4 cX4_readSpans 6 (some .boolean) false d pv_SC (MC h') (some (.inl r)) 108 [some (.inr (.inr (1))), some (.inl (a1)), some (.inl (a2)), some (.inl (v3)), some (.inl (v4)), some (.inl (v5))] [] pv_SC (MC h) := by
  unfold fX4_readSpans_108 at hf
  refine EV.iload dX4_readSpans_108 rfl ?_
  refine EV.iconst dX4_readSpans_110 (by decide) (by decide) ?_
  refine EV.icmp_ne (tgt := 116) dX4_readSpans_111 (by decide) (fun q18 => ?_) (fun q18 => ?_)
  · have hf := pv_gn hf q18
    refine EV.aload_n dX4_readSpans_116 rfl rfl ?_
    refine FV.getF (v := 2) dX4_readSpans_117 sc_1 fl_4_18 rfl rfl hvc_1_3 ?_
    refine EV.iload_n dX4_readSpans_120 rfl rfl ?_
    refine EV.iload dX4_readSpans_121 rfl ?_
    refine EV.iload dX4_readSpans_123 rfl ?_
    refine EV.iload_n dX4_readSpans_125 rfl rfl ?_
    obtain ⟨h20, hc19, hf⟩ := pv_c1o hf
    refine EV.invV (As := [.inl (a1), .inl (v4), .inl (v5), .inl (a2)]) (st := []) (d1 := d - 1) (sh1 := pv_SC) (h1 := MC h20) (r1 := none) dX4_readSpans_126 sc_2 (by decide) md_X5_tell ml_X4_138 im_X5_tell se_X5_tell (tX5_tell (by omega) ((by decide : 2 ∈ pv_l5)) hc19) (by omega) rfl rfl (Nat.le_of_ble_eq_true rfl) ⟨[], (List.append_nil _).symm⟩ ?_
    obtain ⟨x21, ex21, hf⟩ := pv_bo hf
    refine FV.inc (L2 := [some (.inr (.inr (1))), some (.inl (a1)), some (.inl (a2)), some (.inl (x21)), some (.inl (v4)), some (.inl (v5))]) dX4_readSpans_129 rfl (Nat.le_of_ble_eq_true rfl) ex21 rfl ?_
    refine EV.goto (tgt := 32) dX4_readSpans_132 (by decide) ?_
    refine EV.weak (L2 := [some (.inr (.inr (1))), some (.inl (a1)), some (.inl (a2)), some (.inl (x21)), none, none]) (And.intro rfl (And.intro rfl (And.intro rfl (And.intro rfl trivial)))) ?_
    exact hk32 _  _ hf
  · have hf := pv_gp hf q18
    refine EV.iconst dX4_readSpans_114 (by decide) (by decide) ?_
    exact FV.zret dX4_readSpans_115 (by decide) hf

set_option maxHeartbeats 4000000 in
set_option maxRecDepth 20000 in
theorem tX4_readSpans_32 {d N : Nat}  {a1 : Int} {a2 : Int} {h' : pv_H} {r : Int} (hd : 4 ≤ d)   : ∀ (n : Nat) (v3 : Int)  (h : pv_H), fX4_readSpans_32 N  a1 a2 n v3 h = some (h', r) → EV RX4 cX4_readSpans 6 (some .boolean) false d pv_SC (MC h') (some (.inl r)) 32 [some (.inr (.inr (1))), some (.inl (a1)), some (.inl (a2)), some (.inl (v3)), none, none] [] pv_SC (MC h) := by
  intro n
  induction n with
  | zero =>
    intro v3  h hf
    cases hf
  | succ n ih =>
    intro v3  h hf
    rw [fX4_readSpans_32] at hf
    refine EV.iload_n dX4_readSpans_32 rfl rfl ?_
    refine EV.sipush dX4_readSpans_33 (by decide) (by decide) ?_
    refine EV.icmp_ge (tgt := 135) dX4_readSpans_36 (by decide) (fun q4 => ?_) (fun q4 => ?_)
    · have hf := pv_gp hf q4
      refine EV.weak (L2 := [none, none, none, none, none, none]) trivial ?_
      exact tX4_readSpans_135 hd    hf
    · have hf := pv_gn hf q4
      refine EV.aload_n dX4_readSpans_39 rfl rfl ?_
      refine FV.getI dX4_readSpans_40 sc_1 fl_4_83 rfl ?_
      refine EV.bipush dX4_readSpans_43 (by decide) (by decide) ?_
      refine EV.icmp_ne (tgt := 135) dX4_readSpans_45 (by decide) (fun q5 => ?_) (fun q5 => ?_)
      · have hf := pv_gn hf q5
        refine EV.weak (L2 := [none, none, none, none, none, none]) trivial ?_
        exact tX4_readSpans_135 hd    hf
      · have hf := pv_gp hf q5
        refine EV.aload_n dX4_readSpans_48 rfl rfl ?_
        obtain ⟨h7, hc6, hf⟩ := pv_c1o hf
        refine EV.invV (As := []) (st := []) (d1 := d - 1) (sh1 := pv_SC) (h1 := MC h7) (r1 := none) dX4_readSpans_49 sc_1 (by decide) md_X4_next ml_X4_77 im_X4_next se_X4_next (tX4_next (by omega)  hc6) (by omega) rfl rfl (Nat.le_of_ble_eq_true rfl) ⟨[], (List.append_nil _).symm⟩ ?_
        refine EV.aload_n dX4_readSpans_52 rfl rfl ?_
        refine EV.iconst dX4_readSpans_53 (by decide) (by decide) ?_
        refine EV.aload_n dX4_readSpans_54 rfl rfl ?_
        refine FV.getF (v := 2) dX4_readSpans_55 sc_1 fl_4_18 rfl rfl hvc_1_3 ?_
        refine FV.getI dX4_readSpans_58 sc_2 fl_4_135 rfl ?_
        refine EV.iconst dX4_readSpans_61 (by decide) (by decide) ?_
        refine EV.isub dX4_readSpans_62 ?_
        obtain ⟨h9, r10, hc8, hf⟩ := pv_c2o hf
        refine EV.invV (As := [.inl (0), .inl (pv_w ((h7 2 0) - 1))]) (st := []) (d1 := d - 1) (sh1 := pv_SC) (h1 := MC h9) (r1 := (some (.inl r10))) dX4_readSpans_63 sc_1 (by decide) md_X4_numberWithin ml_X4_118 im_X4_numberWithin se_X4_numberWithin (tX4_numberWithin (by omega)  hc8) (by omega) rfl rfl (Nat.le_of_ble_eq_true rfl) ⟨[], (List.append_nil _).symm⟩ ?_
        refine EV.eqS (st2 := [.inl (r10)]) rfl ?_
        refine FV.stiw (L2 := [some (.inr (.inr (1))), some (.inl (a1)), some (.inl (a2)), some (.inl (v3)), some (.inl (r10)), none]) dX4_readSpans_66 (Nat.le_of_ble_eq_true rfl) rfl rfl ?_
        refine EV.iload dX4_readSpans_68 rfl ?_
        refine FV.stiw (L2 := [some (.inr (.inr (1))), some (.inl (a1)), some (.inl (a2)), some (.inl (v3)), some (.inl (r10)), some (.inl (r10))]) dX4_readSpans_70 (Nat.le_of_ble_eq_true rfl) rfl rfl ?_
        refine EV.iload dX4_readSpans_72 rfl ?_
        refine EV.iconst dX4_readSpans_74 (by decide) (by decide) ?_
        refine EV.icmp_eq (tgt := 108) dX4_readSpans_75 (by decide) (fun q11 => ?_) (fun q11 => ?_)
        · have hf := pv_gp hf q11
          refine EV.weak (L2 := [some (.inr (.inr (1))), some (.inl (a1)), some (.inl (a2)), some (.inl (v3)), some (.inl (r10)), some (.inl (r10))]) (And.intro rfl (And.intro rfl (And.intro rfl (And.intro rfl (And.intro rfl (And.intro rfl trivial)))))) ?_
          exact tX4_readSpans_108 hd (ih)   hf
        · have hf := pv_gn hf q11
          refine EV.aload_n dX4_readSpans_78 rfl rfl ?_
          refine FV.getI dX4_readSpans_79 sc_1 fl_4_83 rfl ?_
          refine EV.bipush dX4_readSpans_82 (by decide) (by decide) ?_
          refine EV.icmp_ne (tgt := 108) dX4_readSpans_84 (by decide) (fun q12 => ?_) (fun q12 => ?_)
          · have hf := pv_gn hf q12
            refine EV.weak (L2 := [some (.inr (.inr (1))), some (.inl (a1)), some (.inl (a2)), some (.inl (v3)), some (.inl (r10)), some (.inl (r10))]) (And.intro rfl (And.intro rfl (And.intro rfl (And.intro rfl (And.intro rfl (And.intro rfl trivial)))))) ?_
            exact tX4_readSpans_108 hd (ih)   hf
          · have hf := pv_gp hf q12
            refine EV.aload_n dX4_readSpans_87 rfl rfl ?_
            obtain ⟨h14, hc13, hf⟩ := pv_c1o hf
            refine EV.invV (As := []) (st := []) (d1 := d - 1) (sh1 := pv_SC) (h1 := MC h14) (r1 := none) dX4_readSpans_88 sc_1 (by decide) md_X4_next ml_X4_77 im_X4_next se_X4_next (tX4_next (by omega)  hc13) (by omega) rfl rfl (Nat.le_of_ble_eq_true rfl) ⟨[], (List.append_nil _).symm⟩ ?_
            refine EV.aload_n dX4_readSpans_91 rfl rfl ?_
            refine EV.iload dX4_readSpans_92 rfl ?_
            refine EV.aload_n dX4_readSpans_94 rfl rfl ?_
            refine FV.getF (v := 2) dX4_readSpans_95 sc_1 fl_4_18 rfl rfl hvc_1_3 ?_
            refine FV.getI dX4_readSpans_98 sc_2 fl_4_135 rfl ?_
            refine EV.iconst dX4_readSpans_101 (by decide) (by decide) ?_
            refine EV.isub dX4_readSpans_102 ?_
            obtain ⟨h16, r17, hc15, hf⟩ := pv_c2o hf
            refine EV.invV (As := [.inl (r10), .inl (pv_w ((h14 2 0) - 1))]) (st := []) (d1 := d - 1) (sh1 := pv_SC) (h1 := MC h16) (r1 := (some (.inl r17))) dX4_readSpans_103 sc_1 (by decide) md_X4_numberWithin ml_X4_118 im_X4_numberWithin se_X4_numberWithin (tX4_numberWithin (by omega)  hc15) (by omega) rfl rfl (Nat.le_of_ble_eq_true rfl) ⟨[], (List.append_nil _).symm⟩ ?_
            refine EV.eqS (st2 := [.inl (r17)]) rfl ?_
            refine FV.stiw (L2 := [some (.inr (.inr (1))), some (.inl (a1)), some (.inl (a2)), some (.inl (v3)), some (.inl (r10)), some (.inl (r17))]) dX4_readSpans_106 (Nat.le_of_ble_eq_true rfl) rfl rfl ?_
            refine EV.weak (L2 := [some (.inr (.inr (1))), some (.inl (a1)), some (.inl (a2)), some (.inl (v3)), some (.inl (r10)), some (.inl (r17))]) (And.intro rfl (And.intro rfl (And.intro rfl (And.intro rfl (And.intro rfl (And.intro rfl trivial)))))) ?_
            exact tX4_readSpans_108 hd (ih)   hf

set_option maxHeartbeats 4000000 in
set_option maxRecDepth 20000 in
theorem tX4_readSpans {d N : Nat} {a1 : Int} {a2 : Int} {h h' : pv_H} {r : Int} (hd : 4 ≤ d)  (hf : fX4_readSpans N a1 a2 h = some (h', r)) : CALL yX4_readSpans cX4_readSpans 6 (some .boolean) d pv_SC (MC h) [.inr (.inr (1)), .inl (a1), .inl (a2)] pv_SC (MC h') (some (.inl r)) := by
  unfold fX4_readSpans at hf
  refine EV.call (own := RX4) (ini := false) rfl rfl (fun q => by cases q) ⟨[], (List.append_nil _).symm⟩ (Nat.le_of_ble_eq_true rfl) ?_
  refine EV.eqL (L2 := [some (.inr (.inr (1))), some (.inl (a1)), some (.inl (a2)), none, none, none]) rfl ?_
  refine EV.aload_n dX4_readSpans_0 rfl rfl ?_
  refine FV.getI dX4_readSpans_1 sc_1 fl_4_83 rfl ?_
  refine EV.bipush dX4_readSpans_4 (by decide) (by decide) ?_
  refine EV.icmp_eq (tgt := 30) dX4_readSpans_6 (by decide) (fun q1 => ?_) (fun q1 => ?_)
  · have hf := pv_gp hf q1
    refine EV.iconst dX4_readSpans_30 (by decide) (by decide) ?_
    refine FV.sti (L2 := [some (.inr (.inr (1))), some (.inl (a1)), some (.inl (a2)), some (.inl (0)), none, none]) dX4_readSpans_31 rfl (Nat.le_of_ble_eq_true rfl) rfl rfl ?_
    refine EV.weak (L2 := [some (.inr (.inr (1))), some (.inl (a1)), some (.inl (a2)), some (.inl (0)), none, none]) (And.intro rfl (And.intro rfl (And.intro rfl (And.intro rfl trivial)))) ?_
    exact tX4_readSpans_32 hd   _ _  _ hf
  · have hf := pv_gn hf q1
    refine EV.aload_n dX4_readSpans_9 rfl rfl ?_
    refine FV.getF (v := 2) dX4_readSpans_10 sc_1 fl_4_18 rfl rfl hvc_1_3 ?_
    refine EV.iload_n dX4_readSpans_13 rfl rfl ?_
    refine EV.iconst dX4_readSpans_14 (by decide) (by decide) ?_
    refine EV.aload_n dX4_readSpans_15 rfl rfl ?_
    refine FV.getF (v := 2) dX4_readSpans_16 sc_1 fl_4_18 rfl rfl hvc_1_3 ?_
    refine FV.getI dX4_readSpans_19 sc_2 fl_4_135 rfl ?_
    refine EV.iconst dX4_readSpans_22 (by decide) (by decide) ?_
    refine EV.isub dX4_readSpans_23 ?_
    refine EV.iload_n dX4_readSpans_24 rfl rfl ?_
    obtain ⟨h3, hc2, hf⟩ := pv_c1o hf
    refine EV.invV (As := [.inl (a1), .inl (0), .inl (pv_w ((h 2 0) - 1)), .inl (a2)]) (st := []) (d1 := d - 1) (sh1 := pv_SC) (h1 := MC h3) (r1 := none) dX4_readSpans_25 sc_2 (by decide) md_X5_tell ml_X4_138 im_X5_tell se_X5_tell (tX5_tell (by omega) ((by decide : 2 ∈ pv_l5)) hc2) (by omega) rfl rfl (Nat.le_of_ble_eq_true rfl) ⟨[], (List.append_nil _).symm⟩ ?_
    refine EV.iconst dX4_readSpans_28 (by decide) (by decide) ?_
    exact FV.zret dX4_readSpans_29 (by decide) hf

noncomputable def fX4_readRodLine_16 (N : Nat)  (a1 : Int)  (h : pv_H) : Option (pv_H × Int) :=
  pv_c2b (fX4_fail N 2 h) fun h13 r14 => if r14 = 0 ∨ r14 = 1 then (some (h13, r14)) else none

noncomputable def fX4_readRodLine_109 (N : Nat)  (a1 : Int)  (h : pv_H) : Option (pv_H × Int) :=
  pv_c2b (fX4_expect N 42 h) fun h31 r32 => if r32 = 0 ∨ r32 = 1 then (some (h31, r32)) else none

noncomputable def fX4_readRodLine_74 (N : Nat)  (a1 : Int) (v2 : Int) (v3 : Int) (h : pv_H) : Option (pv_H × Int) :=
  if v3 = (-1) then (some (h, 0)) else (if v2 = 6 then (pv_b (pv_up h 2 1 v3) fun h29 => fX4_readRodLine_109 N  a1  h29) else (pv_c2b (fX4_readSpans N v2 v3 h) fun h26 r27 => if r27 = 0 then (some (h26, 0)) else (fX4_readRodLine_109 N  a1  h26)))

noncomputable def fX4_readRodLine_48 (N : Nat)  (a1 : Int) (v2 : Int) (s0 : Int) (h : pv_H) : Option (pv_H × Int) :=
  if v2 = 3 then (fX4_readRodLine_74 N  a1 (v2) (s0) h) else (if v2 = 4 then (fX4_readRodLine_74 N  a1 (v2) (s0) h) else (if 0 ≤ v2 ∧ v2 < 37 then (if 0 ≤ v2 ∧ v2 < 37 then (pv_c2b (fX4_numberWithin N (pv_t1.getD (Int.toNat v2) 0) (pv_t2.getD (Int.toNat v2) 0) h) fun h21 r22 => fX4_readRodLine_74 N  a1 (v2) (r22) h21) else none) else none))

noncomputable def fX4_readRodLine (N : Nat) (a1 : Int) (h : pv_H) : Option (pv_H × Int) :=
  pv_b (h 1 11) fun x1 => if x1 < 1 then (fX4_readRodLine_16 N  a1  h) else (if x1 ≤ 6 then (if a1 = 24 then (pv_c2b (fX4_fail N 4 h) fun h9 r10 => if r10 = 0 ∨ r10 = 1 then (some (h9, r10)) else none) else (pv_c1 (fX4_next N  h) fun h6 => if x1 = 3 then (fX4_readRodLine_48 N  a1 (x1) (1) h6) else (fX4_readRodLine_48 N  a1 (x1) (2) h6))) else (fX4_readRodLine_16 N  a1  h))

set_option maxHeartbeats 4000000 in
set_option maxRecDepth 20000 in
theorem tX4_readRodLine_16 {d N : Nat}  {a1 : Int}  {h h' : pv_H} {r : Int} (hd : 5 ≤ d)    (hf : fX4_readRodLine_16 N  a1  h = some (h', r)) : EV RX4 cX4_readRodLine 4 (some .boolean) false d pv_SC (MC h') (some (.inl r)) 16 [some (.inr (.inr (1))), none, none, none] [] pv_SC (MC h) := by
  unfold fX4_readRodLine_16 at hf
  refine EV.aload_n dX4_readRodLine_16 rfl rfl ?_
  refine EV.iconst dX4_readRodLine_17 (by decide) (by decide) ?_
  obtain ⟨h13, r14, hc12, hf⟩ := pv_c2o hf
  refine EV.invV (As := [.inl (2)]) (st := []) (d1 := d - 1) (sh1 := pv_SC) (h1 := MC h13) (r1 := (some (.inl r14))) dX4_readRodLine_18 sc_1 (by decide) md_X4_fail ml_X4_102 im_X4_fail se_X4_fail (tX4_fail (by omega)  hc12) (by omega) rfl rfl (Nat.le_of_ble_eq_true rfl) ⟨[], (List.append_nil _).symm⟩ ?_
  refine EV.eqS (st2 := [.inl (r14)]) rfl ?_
  obtain ⟨g15, hf⟩ := pv_gd hf
  exact FV.zret dX4_readRodLine_21 g15 hf

set_option maxHeartbeats 4000000 in
set_option maxRecDepth 20000 in
theorem tX4_readRodLine_109 {d N : Nat}  {a1 : Int}  {h h' : pv_H} {r : Int} (hd : 5 ≤ d)    (hf : fX4_readRodLine_109 N  a1  h = some (h', r)) : EV RX4 cX4_readRodLine 4 (some .boolean) false d pv_SC (MC h') (some (.inl r)) 109 [some (.inr (.inr (1))), none, none, none] [] pv_SC (MC h) := by
  unfold fX4_readRodLine_109 at hf
  refine EV.aload_n dX4_readRodLine_109 rfl rfl ?_
  refine EV.bipush dX4_readRodLine_110 (by decide) (by decide) ?_
  obtain ⟨h31, r32, hc30, hf⟩ := pv_c2o hf
  refine EV.invV (As := [.inl (42)]) (st := []) (d1 := d - 1) (sh1 := pv_SC) (h1 := MC h31) (r1 := (some (.inl r32))) dX4_readRodLine_112 sc_1 (by decide) md_X4_expect ml_X4_108 im_X4_expect se_X4_expect (tX4_expect (by omega)  hc30) (by omega) rfl rfl (Nat.le_of_ble_eq_true rfl) ⟨[], (List.append_nil _).symm⟩ ?_
  refine EV.eqS (st2 := [.inl (r32)]) rfl ?_
  obtain ⟨g33, hf⟩ := pv_gd hf
  exact FV.zret dX4_readRodLine_115 g33 hf

set_option maxHeartbeats 4000000 in
set_option maxRecDepth 20000 in
theorem tX4_readRodLine_74 {d N : Nat}  {a1 : Int} {v2 : Int} {v3 : Int} {h h' : pv_H} {r : Int} (hd : 5 ≤ d)    (hf : fX4_readRodLine_74 N  a1 v2 v3 h = some (h', r)) : EV RX4 cX4_readRodLine 4 (some .boolean) false d pv_SC (MC h') (some (.inl r)) 74 [some (.inr (.inr (1))), none, some (.inl (v2)), some (.inl (v3))] [] pv_SC (MC h) := by
  unfold fX4_readRodLine_74 at hf
  refine EV.iload_n dX4_readRodLine_74 rfl rfl ?_
  refine EV.iconst dX4_readRodLine_75 (by decide) (by decide) ?_
  refine EV.icmp_ne (tgt := 81) dX4_readRodLine_76 (by decide) (fun q23 => ?_) (fun q23 => ?_)
  · have hf := pv_gn hf q23
    refine EV.iload_n dX4_readRodLine_81 rfl rfl ?_
    refine EV.bipush dX4_readRodLine_82 (by decide) (by decide) ?_
    refine EV.icmp_ne (tgt := 98) dX4_readRodLine_84 (by decide) (fun q24 => ?_) (fun q24 => ?_)
    · have hf := pv_gn hf q24
      refine EV.aload_n dX4_readRodLine_98 rfl rfl ?_
      refine EV.iload_n dX4_readRodLine_99 rfl rfl ?_
      refine EV.iload_n dX4_readRodLine_100 rfl rfl ?_
      obtain ⟨h26, r27, hc25, hf⟩ := pv_c2o hf
      refine EV.invV (As := [.inl (v2), .inl (v3)]) (st := []) (d1 := d - 1) (sh1 := pv_SC) (h1 := MC h26) (r1 := (some (.inl r27))) dX4_readRodLine_101 sc_1 (by decide) md_X4_readSpans ml_X4_131 im_X4_readSpans se_X4_readSpans (tX4_readSpans (by omega)  hc25) (by omega) rfl rfl (Nat.le_of_ble_eq_true rfl) ⟨[], (List.append_nil _).symm⟩ ?_
      refine EV.eqS (st2 := [.inl (r27)]) rfl ?_
      refine EV.if_ne (tgt := 109) dX4_readRodLine_104 (by decide) (fun q28 => ?_) (fun q28 => ?_)
      · have hf := pv_gn hf q28
        refine EV.weak (L2 := [some (.inr (.inr (1))), none, none, none]) (And.intro rfl trivial) ?_
        exact tX4_readRodLine_109 hd    hf
      · have hf := pv_gp hf q28
        refine EV.iconst dX4_readRodLine_107 (by decide) (by decide) ?_
        exact FV.zret dX4_readRodLine_108 (by decide) hf
    · have hf := pv_gp hf q24
      refine EV.aload_n dX4_readRodLine_87 rfl rfl ?_
      refine FV.getF (v := 2) dX4_readRodLine_88 sc_1 fl_4_18 rfl rfl hvc_1_3 ?_
      refine EV.iload_n dX4_readRodLine_91 rfl rfl ?_
      obtain ⟨h29, eh29, hf⟩ := pv_bo hf
      refine FV.putI dX4_readRodLine_92 sc_2 fl_4_128 rfl rfl eh29 ?_
      refine EV.goto (tgt := 109) dX4_readRodLine_95 (by decide) ?_
      refine EV.weak (L2 := [some (.inr (.inr (1))), none, none, none]) (And.intro rfl trivial) ?_
      exact tX4_readRodLine_109 hd    hf
  · have hf := pv_gp hf q23
    refine EV.iconst dX4_readRodLine_79 (by decide) (by decide) ?_
    exact FV.zret dX4_readRodLine_80 (by decide) hf

set_option maxHeartbeats 4000000 in
set_option maxRecDepth 20000 in
theorem tX4_readRodLine_48 {d N : Nat}  {a1 : Int} {v2 : Int} {s0 : Int} {h h' : pv_H} {r : Int} (hd : 5 ≤ d)    (hf : fX4_readRodLine_48 N  a1 v2 s0 h = some (h', r)) : EV RX4 cX4_readRodLine 4 (some .boolean) false d pv_SC (MC h') (some (.inl r)) 48 [some (.inr (.inr (1))), none, some (.inl (v2)), none] [.inl (s0)] pv_SC (MC h) := by
  unfold fX4_readRodLine_48 at hf
  refine FV.sti (L2 := [some (.inr (.inr (1))), none, some (.inl (v2)), some (.inl (s0))]) dX4_readRodLine_48 rfl (Nat.le_of_ble_eq_true rfl) rfl rfl ?_
  refine EV.iload_n dX4_readRodLine_49 rfl rfl ?_
  refine EV.iconst dX4_readRodLine_50 (by decide) (by decide) ?_
  refine EV.icmp_eq (tgt := 74) dX4_readRodLine_51 (by decide) (fun q16 => ?_) (fun q16 => ?_)
  · have hf := pv_gp hf q16
    refine EV.weak (L2 := [some (.inr (.inr (1))), none, some (.inl (v2)), some (.inl (s0))]) (And.intro rfl (And.intro rfl (And.intro rfl trivial))) ?_
    exact tX4_readRodLine_74 hd    hf
  · have hf := pv_gn hf q16
    refine EV.iload_n dX4_readRodLine_54 rfl rfl ?_
    refine EV.iconst dX4_readRodLine_55 (by decide) (by decide) ?_
    refine EV.icmp_eq (tgt := 74) dX4_readRodLine_56 (by decide) (fun q17 => ?_) (fun q17 => ?_)
    · have hf := pv_gp hf q17
      refine EV.weak (L2 := [some (.inr (.inr (1))), none, some (.inl (v2)), some (.inl (s0))]) (And.intro rfl (And.intro rfl (And.intro rfl trivial))) ?_
      exact tX4_readRodLine_74 hd    hf
    · have hf := pv_gn hf q17
      refine EV.aload_n dX4_readRodLine_59 rfl rfl ?_
      refine EV.gets1 dX4_readRodLine_60 fn_X4_111 ?_
      refine EV.iload_n dX4_readRodLine_63 rfl rfl ?_
      obtain ⟨g18, hf⟩ := pv_gd hf
      refine EV.tald1 dX4_readRodLine_64 g18.1 g18.2 ?_
      refine EV.gets2 dX4_readRodLine_65 fn_X4_115 ?_
      refine EV.iload_n dX4_readRodLine_68 rfl rfl ?_
      obtain ⟨g19, hf⟩ := pv_gd hf
      refine EV.tald2 dX4_readRodLine_69 g19.1 g19.2 ?_
      obtain ⟨h21, r22, hc20, hf⟩ := pv_c2o hf
      refine EV.invV (As := [.inl (pv_t1.getD (Int.toNat v2) 0), .inl (pv_t2.getD (Int.toNat v2) 0)]) (st := []) (d1 := d - 1) (sh1 := pv_SC) (h1 := MC h21) (r1 := (some (.inl r22))) dX4_readRodLine_70 sc_1 (by decide) md_X4_numberWithin ml_X4_118 im_X4_numberWithin se_X4_numberWithin (tX4_numberWithin (by omega)  hc20) (by omega) rfl rfl (Nat.le_of_ble_eq_true rfl) ⟨[], (List.append_nil _).symm⟩ ?_
      refine EV.eqS (st2 := [.inl (r22)]) rfl ?_
      refine FV.sti (L2 := [some (.inr (.inr (1))), none, some (.inl (v2)), some (.inl (r22))]) dX4_readRodLine_73 rfl (Nat.le_of_ble_eq_true rfl) rfl rfl ?_
      refine EV.weak (L2 := [some (.inr (.inr (1))), none, some (.inl (v2)), some (.inl (r22))]) (And.intro rfl (And.intro rfl (And.intro rfl trivial))) ?_
      exact tX4_readRodLine_74 hd    hf

set_option maxHeartbeats 4000000 in
set_option maxRecDepth 20000 in
theorem tX4_readRodLine {d N : Nat} {a1 : Int} {h h' : pv_H} {r : Int} (hd : 5 ≤ d)  (hf : fX4_readRodLine N a1 h = some (h', r)) : CALL yX4_readRodLine cX4_readRodLine 4 (some .boolean) d pv_SC (MC h) [.inr (.inr (1)), .inl (a1)] pv_SC (MC h') (some (.inl r)) := by
  unfold fX4_readRodLine at hf
  refine EV.call (own := RX4) (ini := false) rfl rfl (fun q => by cases q) ⟨[], (List.append_nil _).symm⟩ (Nat.le_of_ble_eq_true rfl) ?_
  refine EV.eqL (L2 := [some (.inr (.inr (1))), some (.inl (a1)), none, none]) rfl ?_
  refine EV.aload_n dX4_readRodLine_0 rfl rfl ?_
  refine FV.getI dX4_readRodLine_1 sc_1 fl_4_83 rfl ?_
  obtain ⟨x1, ex1, hf⟩ := pv_bo hf
  refine FV.sti (L2 := [some (.inr (.inr (1))), some (.inl (a1)), some (.inl (x1)), none]) dX4_readRodLine_4 rfl (Nat.le_of_ble_eq_true rfl) ex1 rfl ?_
  refine EV.iload_n dX4_readRodLine_5 rfl rfl ?_
  refine EV.iconst dX4_readRodLine_6 (by decide) (by decide) ?_
  refine EV.icmp_lt (tgt := 16) dX4_readRodLine_7 (by decide) (fun q2 => ?_) (fun q2 => ?_)
  · have hf := pv_gp hf q2
    refine EV.weak (L2 := [some (.inr (.inr (1))), none, none, none]) (And.intro rfl trivial) ?_
    exact tX4_readRodLine_16 hd    hf
  · have hf := pv_gn hf q2
    refine EV.iload_n dX4_readRodLine_10 rfl rfl ?_
    refine EV.bipush dX4_readRodLine_11 (by decide) (by decide) ?_
    refine EV.icmp_le (tgt := 22) dX4_readRodLine_13 (by decide) (fun q3 => ?_) (fun q3 => ?_)
    · have hf := pv_gp hf q3
      refine EV.iload_n dX4_readRodLine_22 rfl rfl ?_
      refine EV.bipush dX4_readRodLine_23 (by decide) (by decide) ?_
      refine EV.icmp_ne (tgt := 34) dX4_readRodLine_25 (by decide) (fun q4 => ?_) (fun q4 => ?_)
      · have hf := pv_gn hf q4
        refine EV.aload_n dX4_readRodLine_34 rfl rfl ?_
        obtain ⟨h6, hc5, hf⟩ := pv_c1o hf
        refine EV.invV (As := []) (st := []) (d1 := d - 1) (sh1 := pv_SC) (h1 := MC h6) (r1 := none) dX4_readRodLine_35 sc_1 (by decide) md_X4_next ml_X4_77 im_X4_next se_X4_next (tX4_next (by omega)  hc5) (by omega) rfl rfl (Nat.le_of_ble_eq_true rfl) ⟨[], (List.append_nil _).symm⟩ ?_
        refine EV.iload_n dX4_readRodLine_38 rfl rfl ?_
        refine EV.iconst dX4_readRodLine_39 (by decide) (by decide) ?_
        refine EV.icmp_ne (tgt := 47) dX4_readRodLine_40 (by decide) (fun q7 => ?_) (fun q7 => ?_)
        · have hf := pv_gn hf q7
          refine EV.iconst dX4_readRodLine_47 (by decide) (by decide) ?_
          refine EV.weak (L2 := [some (.inr (.inr (1))), none, some (.inl (x1)), none]) (And.intro rfl (And.intro rfl trivial)) ?_
          exact tX4_readRodLine_48 hd    hf
        · have hf := pv_gp hf q7
          refine EV.iconst dX4_readRodLine_43 (by decide) (by decide) ?_
          refine EV.goto (tgt := 48) dX4_readRodLine_44 (by decide) ?_
          refine EV.weak (L2 := [some (.inr (.inr (1))), none, some (.inl (x1)), none]) (And.intro rfl (And.intro rfl trivial)) ?_
          exact tX4_readRodLine_48 hd    hf
      · have hf := pv_gp hf q4
        refine EV.aload_n dX4_readRodLine_28 rfl rfl ?_
        refine EV.iconst dX4_readRodLine_29 (by decide) (by decide) ?_
        obtain ⟨h9, r10, hc8, hf⟩ := pv_c2o hf
        refine EV.invV (As := [.inl (4)]) (st := []) (d1 := d - 1) (sh1 := pv_SC) (h1 := MC h9) (r1 := (some (.inl r10))) dX4_readRodLine_30 sc_1 (by decide) md_X4_fail ml_X4_102 im_X4_fail se_X4_fail (tX4_fail (by omega)  hc8) (by omega) rfl rfl (Nat.le_of_ble_eq_true rfl) ⟨[], (List.append_nil _).symm⟩ ?_
        refine EV.eqS (st2 := [.inl (r10)]) rfl ?_
        obtain ⟨g11, hf⟩ := pv_gd hf
        exact FV.zret dX4_readRodLine_33 g11 hf
    · have hf := pv_gn hf q3
      refine EV.weak (L2 := [some (.inr (.inr (1))), none, none, none]) (And.intro rfl trivial) ?_
      exact tX4_readRodLine_16 hd    hf

noncomputable def fX4_readRod_39 (N : Nat)    (h : pv_H) : Option (pv_H × Int) :=
  some (h, 0)

noncomputable def fX4_readRod_51 (N : Nat)   : Nat → Int → pv_H → Option (pv_H × Int)
  | 0, _, _ => none
  | n + 1, v2, h => if 24 < v2 then (some (h, 0)) else (if (h 1 11) = 45 then (some (h, v2)) else (pv_c2b (fX4_readRodLine N v2 h) fun h18 r19 => if r19 = 0 then (some (h18, 0)) else (pv_b (pv_w (v2 + 1)) fun x21 => fX4_readRod_51 N   n (x21) h18)))

noncomputable def fX4_readRod (N : Nat)  (h : pv_H) : Option (pv_H × Int) :=
  pv_c2b (fX4_expect N 0 h) fun h2 r3 => if r3 = 0 then (some (h2, 0)) else (pv_c2b (fX4_numberWithin N (pv_t1.getD (Int.toNat 0) 0) (pv_t2.getD (Int.toNat 0) 0) h2) fun h6 r7 => if r7 = (-1) then (fX4_readRod_39 N    h6) else (pv_c2b (fX4_expect N 42 h6) fun h10 r11 => if r11 = 0 then (fX4_readRod_39 N    h10) else (pv_c1 (fX5_begin N 2 r7 h10) fun h14 => fX4_readRod_51 N   N (1) h14)))

set_option maxHeartbeats 4000000 in
set_option maxRecDepth 20000 in
theorem tX4_readRod_39 {d N : Nat}    {h h' : pv_H} {r : Int} (hd : 6 ≤ d)    (hf : fX4_readRod_39 N    h = some (h', r)) : EV RX4 cX4_readRod 3 (some .int) false d pv_SC (MC h') (some (.inl r)) 39 [none, none, none] [] pv_SC (MC h) := by
  unfold fX4_readRod_39 at hf
  refine EV.iconst dX4_readRod_39 (by decide) (by decide) ?_
  exact FV.iret dX4_readRod_40 hf

set_option maxHeartbeats 4000000 in
set_option maxRecDepth 20000 in
theorem tX4_readRod_51 {d N : Nat}   {h' : pv_H} {r : Int} (hd : 6 ≤ d)   : ∀ (n : Nat) (v2 : Int)  (h : pv_H), fX4_readRod_51 N   n v2 h = some (h', r) → EV RX4 cX4_readRod 3 (some .int) false d pv_SC (MC h') (some (.inl r)) 51 [some (.inr (.inr (1))), none, some (.inl (v2))] [] pv_SC (MC h) := by
  intro n
  induction n with
  | zero =>
    intro v2  h hf
    cases hf
  | succ n ih =>
    intro v2  h hf
    rw [fX4_readRod_51] at hf
    refine EV.iload_n dX4_readRod_51 rfl rfl ?_
    refine EV.bipush dX4_readRod_52 (by decide) (by decide) ?_
    refine EV.icmp_gt (tgt := 84) dX4_readRod_54 (by decide) (fun q15 => ?_) (fun q15 => ?_)
    · have hf := pv_gp hf q15
      refine EV.iconst dX4_readRod_84 (by decide) (by decide) ?_
      exact FV.iret dX4_readRod_85 hf
    · have hf := pv_gn hf q15
      refine EV.aload_n dX4_readRod_57 rfl rfl ?_
      refine FV.getI dX4_readRod_58 sc_1 fl_4_83 rfl ?_
      refine EV.bipush dX4_readRod_61 (by decide) (by decide) ?_
      refine EV.icmp_ne (tgt := 68) dX4_readRod_63 (by decide) (fun q16 => ?_) (fun q16 => ?_)
      · have hf := pv_gn hf q16
        refine EV.aload_n dX4_readRod_68 rfl rfl ?_
        refine EV.iload_n dX4_readRod_69 rfl rfl ?_
        obtain ⟨h18, r19, hc17, hf⟩ := pv_c2o hf
        refine EV.invV (As := [.inl (v2)]) (st := []) (d1 := d - 1) (sh1 := pv_SC) (h1 := MC h18) (r1 := (some (.inl r19))) dX4_readRod_70 sc_1 (by decide) md_X4_readRodLine ml_X4_125 im_X4_readRodLine se_X4_readRodLine (tX4_readRodLine (by omega)  hc17) (by omega) rfl rfl (Nat.le_of_ble_eq_true rfl) ⟨[], (List.append_nil _).symm⟩ ?_
        refine EV.eqS (st2 := [.inl (r19)]) rfl ?_
        refine EV.if_ne (tgt := 78) dX4_readRod_73 (by decide) (fun q20 => ?_) (fun q20 => ?_)
        · have hf := pv_gn hf q20
          obtain ⟨x21, ex21, hf⟩ := pv_bo hf
          refine FV.inc (L2 := [some (.inr (.inr (1))), none, some (.inl (x21))]) dX4_readRod_78 rfl (Nat.le_of_ble_eq_true rfl) ex21 rfl ?_
          refine EV.goto (tgt := 51) dX4_readRod_81 (by decide) ?_
          refine EV.weak (L2 := [some (.inr (.inr (1))), none, some (.inl (x21))]) (And.intro rfl (And.intro rfl trivial)) ?_
          exact ih _  _ hf
        · have hf := pv_gp hf q20
          refine EV.iconst dX4_readRod_76 (by decide) (by decide) ?_
          exact FV.iret dX4_readRod_77 hf
      · have hf := pv_gp hf q16
        refine EV.iload_n dX4_readRod_66 rfl rfl ?_
        exact FV.iret dX4_readRod_67 hf

set_option maxHeartbeats 4000000 in
set_option maxRecDepth 20000 in
theorem tX4_readRod {d N : Nat}  {h h' : pv_H} {r : Int} (hd : 6 ≤ d)  (hf : fX4_readRod N  h = some (h', r)) : CALL yX4_readRod cX4_readRod 3 (some .int) d pv_SC (MC h) [.inr (.inr (1))] pv_SC (MC h') (some (.inl r)) := by
  unfold fX4_readRod at hf
  refine EV.call (own := RX4) (ini := false) rfl rfl (fun q => by cases q) ⟨[], (List.append_nil _).symm⟩ (Nat.le_of_ble_eq_true rfl) ?_
  refine EV.eqL (L2 := [some (.inr (.inr (1))), none, none]) rfl ?_
  refine EV.aload_n dX4_readRod_0 rfl rfl ?_
  refine EV.iconst dX4_readRod_1 (by decide) (by decide) ?_
  obtain ⟨h2, r3, hc1, hf⟩ := pv_c2o hf
  refine EV.invV (As := [.inl (0)]) (st := []) (d1 := d - 1) (sh1 := pv_SC) (h1 := MC h2) (r1 := (some (.inl r3))) dX4_readRod_2 sc_1 (by decide) md_X4_expect ml_X4_108 im_X4_expect se_X4_expect (tX4_expect (by omega)  hc1) (by omega) rfl rfl (Nat.le_of_ble_eq_true rfl) ⟨[], (List.append_nil _).symm⟩ ?_
  refine EV.eqS (st2 := [.inl (r3)]) rfl ?_
  refine EV.if_ne (tgt := 10) dX4_readRod_5 (by decide) (fun q4 => ?_) (fun q4 => ?_)
  · have hf := pv_gn hf q4
    refine EV.aload_n dX4_readRod_10 rfl rfl ?_
    refine EV.gets1 dX4_readRod_11 fn_X4_111 ?_
    refine EV.iconst dX4_readRod_14 (by decide) (by decide) ?_
    refine EV.tald1 dX4_readRod_15 (by decide) (by decide) ?_
    refine EV.gets2 dX4_readRod_16 fn_X4_115 ?_
    refine EV.iconst dX4_readRod_19 (by decide) (by decide) ?_
    refine EV.tald2 dX4_readRod_20 (by decide) (by decide) ?_
    obtain ⟨h6, r7, hc5, hf⟩ := pv_c2o hf
    refine EV.invV (As := [.inl (pv_t1.getD (Int.toNat 0) 0), .inl (pv_t2.getD (Int.toNat 0) 0)]) (st := []) (d1 := d - 1) (sh1 := pv_SC) (h1 := MC h6) (r1 := (some (.inl r7))) dX4_readRod_21 sc_1 (by decide) md_X4_numberWithin ml_X4_118 im_X4_numberWithin se_X4_numberWithin (tX4_numberWithin (by omega)  hc5) (by omega) rfl rfl (Nat.le_of_ble_eq_true rfl) ⟨[], (List.append_nil _).symm⟩ ?_
    refine EV.eqS (st2 := [.inl (r7)]) rfl ?_
    refine FV.sti (L2 := [some (.inr (.inr (1))), some (.inl (r7)), none]) dX4_readRod_24 rfl (Nat.le_of_ble_eq_true rfl) rfl rfl ?_
    refine EV.iload_n dX4_readRod_25 rfl rfl ?_
    refine EV.iconst dX4_readRod_26 (by decide) (by decide) ?_
    refine EV.icmp_eq (tgt := 39) dX4_readRod_27 (by decide) (fun q8 => ?_) (fun q8 => ?_)
    · have hf := pv_gp hf q8
      refine EV.weak (L2 := [none, none, none]) trivial ?_
      exact tX4_readRod_39 hd    hf
    · have hf := pv_gn hf q8
      refine EV.aload_n dX4_readRod_30 rfl rfl ?_
      refine EV.bipush dX4_readRod_31 (by decide) (by decide) ?_
      obtain ⟨h10, r11, hc9, hf⟩ := pv_c2o hf
      refine EV.invV (As := [.inl (42)]) (st := []) (d1 := d - 1) (sh1 := pv_SC) (h1 := MC h10) (r1 := (some (.inl r11))) dX4_readRod_33 sc_1 (by decide) md_X4_expect ml_X4_108 im_X4_expect se_X4_expect (tX4_expect (by omega)  hc9) (by omega) rfl rfl (Nat.le_of_ble_eq_true rfl) ⟨[], (List.append_nil _).symm⟩ ?_
      refine EV.eqS (st2 := [.inl (r11)]) rfl ?_
      refine EV.if_ne (tgt := 41) dX4_readRod_36 (by decide) (fun q12 => ?_) (fun q12 => ?_)
      · have hf := pv_gn hf q12
        refine EV.aload_n dX4_readRod_41 rfl rfl ?_
        refine FV.getF (v := 2) dX4_readRod_42 sc_1 fl_4_18 rfl rfl hvc_1_3 ?_
        refine EV.iload_n dX4_readRod_45 rfl rfl ?_
        obtain ⟨h14, hc13, hf⟩ := pv_c1o hf
        refine EV.invV (As := [.inl (r7)]) (st := []) (d1 := d - 1) (sh1 := pv_SC) (h1 := MC h14) (r1 := none) dX4_readRod_46 sc_2 (by decide) md_X5_begin ml_X4_121 im_X5_begin se_X5_begin (tX5_begin (by omega) ((by decide : 2 ∈ pv_l5)) hc13) (by omega) rfl rfl (Nat.le_of_ble_eq_true rfl) ⟨[], (List.append_nil _).symm⟩ ?_
        refine EV.iconst dX4_readRod_49 (by decide) (by decide) ?_
        refine FV.sti (L2 := [some (.inr (.inr (1))), some (.inl (r7)), some (.inl (1))]) dX4_readRod_50 rfl (Nat.le_of_ble_eq_true rfl) rfl rfl ?_
        refine EV.weak (L2 := [some (.inr (.inr (1))), none, some (.inl (1))]) (And.intro rfl (And.intro rfl trivial)) ?_
        exact tX4_readRod_51 hd   _ _  _ hf
      · have hf := pv_gp hf q12
        refine EV.weak (L2 := [none, none, none]) trivial ?_
        exact tX4_readRod_39 hd    hf
  · have hf := pv_gp hf q4
    refine EV.iconst dX4_readRod_8 (by decide) (by decide) ?_
    exact FV.iret dX4_readRod_9 hf

noncomputable def fX4_readStep_17 (N : Nat)  (a1 : Int)  (h : pv_H) : Option (pv_H × Int) :=
  pv_c2b (fX4_fail N 2 h) fun h18 r19 => if r19 = 0 ∨ r19 = 1 then (some (h18, r19)) else none

noncomputable def fX4_readStep_78 (N : Nat)  (a1 : Int)  (h : pv_H) : Option (pv_H × Int) :=
  some (h, 0)

noncomputable def fX4_readStep_113 (N : Nat)  (a1 : Int)  (h : pv_H) : Option (pv_H × Int) :=
  some (h, 0)

noncomputable def fX4_readStep_63 (N : Nat)  (a1 : Int) (v2 : Int) (s0 : Int) (h : pv_H) : Option (pv_H × Int) :=
  if s0 = (-1) then (fX4_readStep_78 N  a1  h) else (pv_c2b (fX4_expect N 13 h) fun h23 r24 => if r24 = 0 then (fX4_readStep_78 N  a1  h23) else (pv_c2b (fX4_numberWithin N (pv_t1.getD (Int.toNat 13) 0) (pv_t2.getD (Int.toNat 13) 0) h23) fun h27 r28 => if r28 = (-1) then (fX4_readStep_113 N  a1  h27) else (pv_c2b (fX4_expect N 42 h27) fun h31 r32 => if r32 = 0 then (fX4_readStep_113 N  a1  h31) else (pv_c1 (fX0_tell N 8 v2 s0 r28 h31) fun h35 => some (h35, 1)))))

noncomputable def fX4_readStep (N : Nat) (a1 : Int) (h : pv_H) : Option (pv_H × Int) :=
  pv_b (h 1 11) fun x1 => if x1 < 9 then (fX4_readStep_17 N  a1  h) else (if x1 ≤ 12 then (if a1 = 12 then (pv_c2b (fX4_fail N 4 h) fun h14 r15 => if r15 = 0 ∨ r15 = 1 then (some (h14, r15)) else none) else (pv_c1 (fX4_next N  h) fun h6 => if x1 = 12 then (fX4_readStep_63 N  a1 (x1) (0) h6) else (if 0 ≤ x1 ∧ x1 < 37 then (if 0 ≤ x1 ∧ x1 < 37 then (pv_c2b (fX4_numberWithin N (pv_t1.getD (Int.toNat x1) 0) (pv_t2.getD (Int.toNat x1) 0) h6) fun h11 r12 => fX4_readStep_63 N  a1 (x1) (r12) h11) else none) else none))) else (fX4_readStep_17 N  a1  h))

set_option maxHeartbeats 4000000 in
set_option maxRecDepth 20000 in
theorem tX4_readStep_17 {d N : Nat}  {a1 : Int}  {h h' : pv_H} {r : Int} (hd : 4 ≤ d)    (hf : fX4_readStep_17 N  a1  h = some (h', r)) : EV RX4 cX4_readStep 5 (some .boolean) false d pv_SC (MC h') (some (.inl r)) 17 [some (.inr (.inr (1))), none, none, none, none] [] pv_SC (MC h) := by
  unfold fX4_readStep_17 at hf
  refine EV.aload_n dX4_readStep_17 rfl rfl ?_
  refine EV.iconst dX4_readStep_18 (by decide) (by decide) ?_
  obtain ⟨h18, r19, hc17, hf⟩ := pv_c2o hf
  refine EV.invV (As := [.inl (2)]) (st := []) (d1 := d - 1) (sh1 := pv_SC) (h1 := MC h18) (r1 := (some (.inl r19))) dX4_readStep_19 sc_1 (by decide) md_X4_fail ml_X4_102 im_X4_fail se_X4_fail (tX4_fail (by omega)  hc17) (by omega) rfl rfl (Nat.le_of_ble_eq_true rfl) ⟨[], (List.append_nil _).symm⟩ ?_
  refine EV.eqS (st2 := [.inl (r19)]) rfl ?_
  obtain ⟨g20, hf⟩ := pv_gd hf
  exact FV.zret dX4_readStep_22 g20 hf

set_option maxHeartbeats 4000000 in
set_option maxRecDepth 20000 in
theorem tX4_readStep_78 {d N : Nat}  {a1 : Int}  {h h' : pv_H} {r : Int} (hd : 4 ≤ d)    (hf : fX4_readStep_78 N  a1  h = some (h', r)) : EV RX4 cX4_readStep 5 (some .boolean) false d pv_SC (MC h') (some (.inl r)) 78 [none, none, none, none, none] [] pv_SC (MC h) := by
  unfold fX4_readStep_78 at hf
  refine EV.iconst dX4_readStep_78 (by decide) (by decide) ?_
  exact FV.zret dX4_readStep_79 (by decide) hf

set_option maxHeartbeats 4000000 in
set_option maxRecDepth 20000 in
theorem tX4_readStep_113 {d N : Nat}  {a1 : Int}  {h h' : pv_H} {r : Int} (hd : 4 ≤ d)    (hf : fX4_readStep_113 N  a1  h = some (h', r)) : EV RX4 cX4_readStep 5 (some .boolean) false d pv_SC (MC h') (some (.inl r)) 113 [none, none, none, none, none] [] pv_SC (MC h) := by
  unfold fX4_readStep_113 at hf
  refine EV.iconst dX4_readStep_113 (by decide) (by decide) ?_
  exact FV.zret dX4_readStep_114 (by decide) hf

set_option maxHeartbeats 4000000 in
set_option maxRecDepth 20000 in
theorem tX4_readStep_63 {d N : Nat}  {a1 : Int} {v2 : Int} {s0 : Int} {h h' : pv_H} {r : Int} (hd : 4 ≤ d)    (hf : fX4_readStep_63 N  a1 v2 s0 h = some (h', r)) : EV RX4 cX4_readStep 5 (some .boolean) false d pv_SC (MC h') (some (.inl r)) 63 [some (.inr (.inr (1))), none, some (.inl (v2)), none, none] [.inl (s0)] pv_SC (MC h) := by
  unfold fX4_readStep_63 at hf
  refine FV.sti (L2 := [some (.inr (.inr (1))), none, some (.inl (v2)), some (.inl (s0)), none]) dX4_readStep_63 rfl (Nat.le_of_ble_eq_true rfl) rfl rfl ?_
  refine EV.iload_n dX4_readStep_64 rfl rfl ?_
  refine EV.iconst dX4_readStep_65 (by decide) (by decide) ?_
  refine EV.icmp_eq (tgt := 78) dX4_readStep_66 (by decide) (fun q21 => ?_) (fun q21 => ?_)
  · have hf := pv_gp hf q21
    refine EV.weak (L2 := [none, none, none, none, none]) trivial ?_
    exact tX4_readStep_78 hd    hf
  · have hf := pv_gn hf q21
    refine EV.aload_n dX4_readStep_69 rfl rfl ?_
    refine EV.bipush dX4_readStep_70 (by decide) (by decide) ?_
    obtain ⟨h23, r24, hc22, hf⟩ := pv_c2o hf
    refine EV.invV (As := [.inl (13)]) (st := []) (d1 := d - 1) (sh1 := pv_SC) (h1 := MC h23) (r1 := (some (.inl r24))) dX4_readStep_72 sc_1 (by decide) md_X4_expect ml_X4_108 im_X4_expect se_X4_expect (tX4_expect (by omega)  hc22) (by omega) rfl rfl (Nat.le_of_ble_eq_true rfl) ⟨[], (List.append_nil _).symm⟩ ?_
    refine EV.eqS (st2 := [.inl (r24)]) rfl ?_
    refine EV.if_ne (tgt := 80) dX4_readStep_75 (by decide) (fun q25 => ?_) (fun q25 => ?_)
    · have hf := pv_gn hf q25
      refine EV.aload_n dX4_readStep_80 rfl rfl ?_
      refine EV.gets1 dX4_readStep_81 fn_X4_111 ?_
      refine EV.bipush dX4_readStep_84 (by decide) (by decide) ?_
      refine EV.tald1 dX4_readStep_86 (by decide) (by decide) ?_
      refine EV.gets2 dX4_readStep_87 fn_X4_115 ?_
      refine EV.bipush dX4_readStep_90 (by decide) (by decide) ?_
      refine EV.tald2 dX4_readStep_92 (by decide) (by decide) ?_
      obtain ⟨h27, r28, hc26, hf⟩ := pv_c2o hf
      refine EV.invV (As := [.inl (pv_t1.getD (Int.toNat 13) 0), .inl (pv_t2.getD (Int.toNat 13) 0)]) (st := []) (d1 := d - 1) (sh1 := pv_SC) (h1 := MC h27) (r1 := (some (.inl r28))) dX4_readStep_93 sc_1 (by decide) md_X4_numberWithin ml_X4_118 im_X4_numberWithin se_X4_numberWithin (tX4_numberWithin (by omega)  hc26) (by omega) rfl rfl (Nat.le_of_ble_eq_true rfl) ⟨[], (List.append_nil _).symm⟩ ?_
      refine EV.eqS (st2 := [.inl (r28)]) rfl ?_
      refine FV.stiw (L2 := [some (.inr (.inr (1))), none, some (.inl (v2)), some (.inl (s0)), some (.inl (r28))]) dX4_readStep_96 (Nat.le_of_ble_eq_true rfl) rfl rfl ?_
      refine EV.iload dX4_readStep_98 rfl ?_
      refine EV.iconst dX4_readStep_100 (by decide) (by decide) ?_
      refine EV.icmp_eq (tgt := 113) dX4_readStep_101 (by decide) (fun q29 => ?_) (fun q29 => ?_)
      · have hf := pv_gp hf q29
        refine EV.weak (L2 := [none, none, none, none, none]) trivial ?_
        exact tX4_readStep_113 hd    hf
      · have hf := pv_gn hf q29
        refine EV.aload_n dX4_readStep_104 rfl rfl ?_
        refine EV.bipush dX4_readStep_105 (by decide) (by decide) ?_
        obtain ⟨h31, r32, hc30, hf⟩ := pv_c2o hf
        refine EV.invV (As := [.inl (42)]) (st := []) (d1 := d - 1) (sh1 := pv_SC) (h1 := MC h31) (r1 := (some (.inl r32))) dX4_readStep_107 sc_1 (by decide) md_X4_expect ml_X4_108 im_X4_expect se_X4_expect (tX4_expect (by omega)  hc30) (by omega) rfl rfl (Nat.le_of_ble_eq_true rfl) ⟨[], (List.append_nil _).symm⟩ ?_
        refine EV.eqS (st2 := [.inl (r32)]) rfl ?_
        refine EV.if_ne (tgt := 115) dX4_readStep_110 (by decide) (fun q33 => ?_) (fun q33 => ?_)
        · have hf := pv_gn hf q33
          refine EV.aload_n dX4_readStep_115 rfl rfl ?_
          refine FV.getF (v := 8) dX4_readStep_116 sc_1 fl_4_25 rfl rfl hvc_1_4 ?_
          refine EV.iload_n dX4_readStep_119 rfl rfl ?_
          refine EV.iload_n dX4_readStep_120 rfl rfl ?_
          refine EV.iload dX4_readStep_121 rfl ?_
          obtain ⟨h35, hc34, hf⟩ := pv_c1o hf
          refine EV.invV (As := [.inl (v2), .inl (s0), .inl (r28)]) (st := []) (d1 := d - 1) (sh1 := pv_SC) (h1 := MC h35) (r1 := none) dX4_readStep_123 sc_8 (by decide) md_X0_tell ml_X4_148 im_X0_tell se_X0_tell (tX0_tell (by omega) ((by decide : 8 ∈ pv_l0)) hc34) (by omega) rfl rfl (Nat.le_of_ble_eq_true rfl) ⟨[], (List.append_nil _).symm⟩ ?_
          refine EV.iconst dX4_readStep_126 (by decide) (by decide) ?_
          exact FV.zret dX4_readStep_127 (by decide) hf
        · have hf := pv_gp hf q33
          refine EV.weak (L2 := [none, none, none, none, none]) trivial ?_
          exact tX4_readStep_113 hd    hf
    · have hf := pv_gp hf q25
      refine EV.weak (L2 := [none, none, none, none, none]) trivial ?_
      exact tX4_readStep_78 hd    hf

set_option maxHeartbeats 4000000 in
set_option maxRecDepth 20000 in
theorem tX4_readStep {d N : Nat} {a1 : Int} {h h' : pv_H} {r : Int} (hd : 4 ≤ d)  (hf : fX4_readStep N a1 h = some (h', r)) : CALL yX4_readStep cX4_readStep 5 (some .boolean) d pv_SC (MC h) [.inr (.inr (1)), .inl (a1)] pv_SC (MC h') (some (.inl r)) := by
  unfold fX4_readStep at hf
  refine EV.call (own := RX4) (ini := false) rfl rfl (fun q => by cases q) ⟨[], (List.append_nil _).symm⟩ (Nat.le_of_ble_eq_true rfl) ?_
  refine EV.eqL (L2 := [some (.inr (.inr (1))), some (.inl (a1)), none, none, none]) rfl ?_
  refine EV.aload_n dX4_readStep_0 rfl rfl ?_
  refine FV.getI dX4_readStep_1 sc_1 fl_4_83 rfl ?_
  obtain ⟨x1, ex1, hf⟩ := pv_bo hf
  refine FV.sti (L2 := [some (.inr (.inr (1))), some (.inl (a1)), some (.inl (x1)), none, none]) dX4_readStep_4 rfl (Nat.le_of_ble_eq_true rfl) ex1 rfl ?_
  refine EV.iload_n dX4_readStep_5 rfl rfl ?_
  refine EV.bipush dX4_readStep_6 (by decide) (by decide) ?_
  refine EV.icmp_lt (tgt := 17) dX4_readStep_8 (by decide) (fun q2 => ?_) (fun q2 => ?_)
  · have hf := pv_gp hf q2
    refine EV.weak (L2 := [some (.inr (.inr (1))), none, none, none, none]) (And.intro rfl trivial) ?_
    exact tX4_readStep_17 hd    hf
  · have hf := pv_gn hf q2
    refine EV.iload_n dX4_readStep_11 rfl rfl ?_
    refine EV.bipush dX4_readStep_12 (by decide) (by decide) ?_
    refine EV.icmp_le (tgt := 23) dX4_readStep_14 (by decide) (fun q3 => ?_) (fun q3 => ?_)
    · have hf := pv_gp hf q3
      refine EV.iload_n dX4_readStep_23 rfl rfl ?_
      refine EV.bipush dX4_readStep_24 (by decide) (by decide) ?_
      refine EV.icmp_ne (tgt := 35) dX4_readStep_26 (by decide) (fun q4 => ?_) (fun q4 => ?_)
      · have hf := pv_gn hf q4
        refine EV.aload_n dX4_readStep_35 rfl rfl ?_
        obtain ⟨h6, hc5, hf⟩ := pv_c1o hf
        refine EV.invV (As := []) (st := []) (d1 := d - 1) (sh1 := pv_SC) (h1 := MC h6) (r1 := none) dX4_readStep_36 sc_1 (by decide) md_X4_next ml_X4_77 im_X4_next se_X4_next (tX4_next (by omega)  hc5) (by omega) rfl rfl (Nat.le_of_ble_eq_true rfl) ⟨[], (List.append_nil _).symm⟩ ?_
        refine EV.iload_n dX4_readStep_39 rfl rfl ?_
        refine EV.bipush dX4_readStep_40 (by decide) (by decide) ?_
        refine EV.icmp_ne (tgt := 49) dX4_readStep_42 (by decide) (fun q7 => ?_) (fun q7 => ?_)
        · have hf := pv_gn hf q7
          refine EV.aload_n dX4_readStep_49 rfl rfl ?_
          refine EV.gets1 dX4_readStep_50 fn_X4_111 ?_
          refine EV.iload_n dX4_readStep_53 rfl rfl ?_
          obtain ⟨g8, hf⟩ := pv_gd hf
          refine EV.tald1 dX4_readStep_54 g8.1 g8.2 ?_
          refine EV.gets2 dX4_readStep_55 fn_X4_115 ?_
          refine EV.iload_n dX4_readStep_58 rfl rfl ?_
          obtain ⟨g9, hf⟩ := pv_gd hf
          refine EV.tald2 dX4_readStep_59 g9.1 g9.2 ?_
          obtain ⟨h11, r12, hc10, hf⟩ := pv_c2o hf
          refine EV.invV (As := [.inl (pv_t1.getD (Int.toNat x1) 0), .inl (pv_t2.getD (Int.toNat x1) 0)]) (st := []) (d1 := d - 1) (sh1 := pv_SC) (h1 := MC h11) (r1 := (some (.inl r12))) dX4_readStep_60 sc_1 (by decide) md_X4_numberWithin ml_X4_118 im_X4_numberWithin se_X4_numberWithin (tX4_numberWithin (by omega)  hc10) (by omega) rfl rfl (Nat.le_of_ble_eq_true rfl) ⟨[], (List.append_nil _).symm⟩ ?_
          refine EV.eqS (st2 := [.inl (r12)]) rfl ?_
          refine EV.weak (L2 := [some (.inr (.inr (1))), none, some (.inl (x1)), none, none]) (And.intro rfl (And.intro rfl trivial)) ?_
          exact tX4_readStep_63 hd    hf
        · have hf := pv_gp hf q7
          refine EV.iconst dX4_readStep_45 (by decide) (by decide) ?_
          refine EV.goto (tgt := 63) dX4_readStep_46 (by decide) ?_
          refine EV.weak (L2 := [some (.inr (.inr (1))), none, some (.inl (x1)), none, none]) (And.intro rfl (And.intro rfl trivial)) ?_
          exact tX4_readStep_63 hd    hf
      · have hf := pv_gp hf q4
        refine EV.aload_n dX4_readStep_29 rfl rfl ?_
        refine EV.iconst dX4_readStep_30 (by decide) (by decide) ?_
        obtain ⟨h14, r15, hc13, hf⟩ := pv_c2o hf
        refine EV.invV (As := [.inl (4)]) (st := []) (d1 := d - 1) (sh1 := pv_SC) (h1 := MC h14) (r1 := (some (.inl r15))) dX4_readStep_31 sc_1 (by decide) md_X4_fail ml_X4_102 im_X4_fail se_X4_fail (tX4_fail (by omega)  hc13) (by omega) rfl rfl (Nat.le_of_ble_eq_true rfl) ⟨[], (List.append_nil _).symm⟩ ?_
        refine EV.eqS (st2 := [.inl (r15)]) rfl ?_
        obtain ⟨g16, hf⟩ := pv_gd hf
        exact FV.zret dX4_readStep_34 g16 hf
    · have hf := pv_gn hf q3
      refine EV.weak (L2 := [some (.inr (.inr (1))), none, none, none, none]) (And.intro rfl trivial) ?_
      exact tX4_readStep_17 hd    hf

noncomputable def fX4_readDoings_10 (N : Nat)   : Nat → Int → pv_H → Option (pv_H × Int)
  | 0, _, _ => none
  | n + 1, v1, h => if 12 < v1 then (some (h, 0)) else (if (h 1 11) = 45 then (some (h, v1)) else (pv_c2b (fX4_readStep N v1 h) fun h5 r6 => if r6 = 0 then (some (h5, 0)) else (pv_b (pv_w (v1 + 1)) fun x8 => fX4_readDoings_10 N   n (x8) h5)))

noncomputable def fX4_readDoings (N : Nat)  (h : pv_H) : Option (pv_H × Int) :=
  pv_b (pv_up h 8 0 0) fun h1 => fX4_readDoings_10 N   N (0) h1

set_option maxHeartbeats 4000000 in
set_option maxRecDepth 20000 in
theorem tX4_readDoings_10 {d N : Nat}   {h' : pv_H} {r : Int} (hd : 5 ≤ d)   : ∀ (n : Nat) (v1 : Int)  (h : pv_H), fX4_readDoings_10 N   n v1 h = some (h', r) → EV RX4 cX4_readDoings 2 (some .int) false d pv_SC (MC h') (some (.inl r)) 10 [some (.inr (.inr (1))), some (.inl (v1))] [] pv_SC (MC h) := by
  intro n
  induction n with
  | zero =>
    intro v1  h hf
    cases hf
  | succ n ih =>
    intro v1  h hf
    rw [fX4_readDoings_10] at hf
    refine EV.iload_n dX4_readDoings_10 rfl rfl ?_
    refine EV.bipush dX4_readDoings_11 (by decide) (by decide) ?_
    refine EV.icmp_gt (tgt := 43) dX4_readDoings_13 (by decide) (fun q2 => ?_) (fun q2 => ?_)
    · have hf := pv_gp hf q2
      refine EV.iconst dX4_readDoings_43 (by decide) (by decide) ?_
      exact FV.iret dX4_readDoings_44 hf
    · have hf := pv_gn hf q2
      refine EV.aload_n dX4_readDoings_16 rfl rfl ?_
      refine FV.getI dX4_readDoings_17 sc_1 fl_4_83 rfl ?_
      refine EV.bipush dX4_readDoings_20 (by decide) (by decide) ?_
      refine EV.icmp_ne (tgt := 27) dX4_readDoings_22 (by decide) (fun q3 => ?_) (fun q3 => ?_)
      · have hf := pv_gn hf q3
        refine EV.aload_n dX4_readDoings_27 rfl rfl ?_
        refine EV.iload_n dX4_readDoings_28 rfl rfl ?_
        obtain ⟨h5, r6, hc4, hf⟩ := pv_c2o hf
        refine EV.invV (As := [.inl (v1)]) (st := []) (d1 := d - 1) (sh1 := pv_SC) (h1 := MC h5) (r1 := (some (.inl r6))) dX4_readDoings_29 sc_1 (by decide) md_X4_readStep ml_X4_145 im_X4_readStep se_X4_readStep (tX4_readStep (by omega)  hc4) (by omega) rfl rfl (Nat.le_of_ble_eq_true rfl) ⟨[], (List.append_nil _).symm⟩ ?_
        refine EV.eqS (st2 := [.inl (r6)]) rfl ?_
        refine EV.if_ne (tgt := 37) dX4_readDoings_32 (by decide) (fun q7 => ?_) (fun q7 => ?_)
        · have hf := pv_gn hf q7
          obtain ⟨x8, ex8, hf⟩ := pv_bo hf
          refine FV.inc (L2 := [some (.inr (.inr (1))), some (.inl (x8))]) dX4_readDoings_37 rfl (Nat.le_of_ble_eq_true rfl) ex8 rfl ?_
          refine EV.goto (tgt := 10) dX4_readDoings_40 (by decide) ?_
          refine EV.weak (L2 := [some (.inr (.inr (1))), some (.inl (x8))]) (And.intro rfl (And.intro rfl trivial)) ?_
          exact ih _  _ hf
        · have hf := pv_gp hf q7
          refine EV.iconst dX4_readDoings_35 (by decide) (by decide) ?_
          exact FV.iret dX4_readDoings_36 hf
      · have hf := pv_gp hf q3
        refine EV.iload_n dX4_readDoings_25 rfl rfl ?_
        exact FV.iret dX4_readDoings_26 hf

set_option maxHeartbeats 4000000 in
set_option maxRecDepth 20000 in
theorem tX4_readDoings {d N : Nat}  {h h' : pv_H} {r : Int} (hd : 5 ≤ d)  (hf : fX4_readDoings N  h = some (h', r)) : CALL yX4_readDoings cX4_readDoings 2 (some .int) d pv_SC (MC h) [.inr (.inr (1))] pv_SC (MC h') (some (.inl r)) := by
  unfold fX4_readDoings at hf
  refine EV.call (own := RX4) (ini := false) rfl rfl (fun q => by cases q) ⟨[], (List.append_nil _).symm⟩ (Nat.le_of_ble_eq_true rfl) ?_
  refine EV.eqL (L2 := [some (.inr (.inr (1))), none]) rfl ?_
  refine EV.aload_n dX4_readDoings_0 rfl rfl ?_
  refine FV.getF (v := 8) dX4_readDoings_1 sc_1 fl_4_25 rfl rfl hvc_1_4 ?_
  refine EV.iconst dX4_readDoings_4 (by decide) (by decide) ?_
  obtain ⟨h1, eh1, hf⟩ := pv_bo hf
  refine FV.putI dX4_readDoings_5 sc_8 fl_4_142 rfl rfl eh1 ?_
  refine EV.iconst dX4_readDoings_8 (by decide) (by decide) ?_
  refine FV.sti (L2 := [some (.inr (.inr (1))), some (.inl (0))]) dX4_readDoings_9 rfl (Nat.le_of_ble_eq_true rfl) rfl rfl ?_
  refine EV.weak (L2 := [some (.inr (.inr (1))), some (.inl (0))]) (And.intro rfl (And.intro rfl trivial)) ?_
  exact tX4_readDoings_10 hd   _ _  _ hf

noncomputable def fX4_readLawLine_17 (N : Nat)  (a1 : Int)  (h : pv_H) : Option (pv_H × Int) :=
  pv_c2b (fX4_fail N 2 h) fun h24 r25 => if r25 = 0 ∨ r25 = 1 then (some (h24, r25)) else none

noncomputable def fX4_readLawLine (N : Nat) (a1 : Int) (h : pv_H) : Option (pv_H × Int) :=
  pv_b (h 1 11) fun x1 => if x1 < 14 then (fX4_readLawLine_17 N  a1  h) else (if x1 ≤ 21 then (if a1 = 24 then (pv_c2b (fX4_fail N 4 h) fun h20 r21 => if r21 = 0 ∨ r21 = 1 then (some (h20, r21)) else none) else (pv_c1 (fX4_next N  h) fun h6 => if 0 ≤ x1 ∧ x1 < 37 then (if 0 ≤ x1 ∧ x1 < 37 then (pv_c2b (fX4_numberWithin N (pv_t1.getD (Int.toNat x1) 0) (pv_t2.getD (Int.toNat x1) 0) h6) fun h10 r11 => if r11 = (-1) then (some (h10, 0)) else (if 0 ≤ pv_w (x1 - 14) ∧ pv_w (x1 - 14) < 8 then (pv_b (pv_up h10 13 (Int.toNat (pv_w (x1 - 14))) r11) fun h14 => pv_c2b (fX4_expect N 42 h14) fun h16 r17 => if r17 = 0 ∨ r17 = 1 then (some (h16, r17)) else none) else none)) else none) else none)) else (fX4_readLawLine_17 N  a1  h))

set_option maxHeartbeats 4000000 in
set_option maxRecDepth 20000 in
theorem tX4_readLawLine_17 {d N : Nat}  {a1 : Int}  {h h' : pv_H} {r : Int} (hd : 4 ≤ d)    (hf : fX4_readLawLine_17 N  a1  h = some (h', r)) : EV RX4 cX4_readLawLine 4 (some .boolean) false d pv_SC (MC h') (some (.inl r)) 17 [some (.inr (.inr (1))), none, none, none] [] pv_SC (MC h) := by
  unfold fX4_readLawLine_17 at hf
  refine EV.aload_n dX4_readLawLine_17 rfl rfl ?_
  refine EV.iconst dX4_readLawLine_18 (by decide) (by decide) ?_
  obtain ⟨h24, r25, hc23, hf⟩ := pv_c2o hf
  refine EV.invV (As := [.inl (2)]) (st := []) (d1 := d - 1) (sh1 := pv_SC) (h1 := MC h24) (r1 := (some (.inl r25))) dX4_readLawLine_19 sc_1 (by decide) md_X4_fail ml_X4_102 im_X4_fail se_X4_fail (tX4_fail (by omega)  hc23) (by omega) rfl rfl (Nat.le_of_ble_eq_true rfl) ⟨[], (List.append_nil _).symm⟩ ?_
  refine EV.eqS (st2 := [.inl (r25)]) rfl ?_
  obtain ⟨g26, hf⟩ := pv_gd hf
  exact FV.zret dX4_readLawLine_22 g26 hf

set_option maxHeartbeats 4000000 in
set_option maxRecDepth 20000 in
theorem tX4_readLawLine {d N : Nat} {a1 : Int} {h h' : pv_H} {r : Int} (hd : 4 ≤ d)  (hf : fX4_readLawLine N a1 h = some (h', r)) : CALL yX4_readLawLine cX4_readLawLine 4 (some .boolean) d pv_SC (MC h) [.inr (.inr (1)), .inl (a1)] pv_SC (MC h') (some (.inl r)) := by
  unfold fX4_readLawLine at hf
  refine EV.call (own := RX4) (ini := false) rfl rfl (fun q => by cases q) ⟨[], (List.append_nil _).symm⟩ (Nat.le_of_ble_eq_true rfl) ?_
  refine EV.eqL (L2 := [some (.inr (.inr (1))), some (.inl (a1)), none, none]) rfl ?_
  refine EV.aload_n dX4_readLawLine_0 rfl rfl ?_
  refine FV.getI dX4_readLawLine_1 sc_1 fl_4_83 rfl ?_
  obtain ⟨x1, ex1, hf⟩ := pv_bo hf
  refine FV.sti (L2 := [some (.inr (.inr (1))), some (.inl (a1)), some (.inl (x1)), none]) dX4_readLawLine_4 rfl (Nat.le_of_ble_eq_true rfl) ex1 rfl ?_
  refine EV.iload_n dX4_readLawLine_5 rfl rfl ?_
  refine EV.bipush dX4_readLawLine_6 (by decide) (by decide) ?_
  refine EV.icmp_lt (tgt := 17) dX4_readLawLine_8 (by decide) (fun q2 => ?_) (fun q2 => ?_)
  · have hf := pv_gp hf q2
    refine EV.weak (L2 := [some (.inr (.inr (1))), none, none, none]) (And.intro rfl trivial) ?_
    exact tX4_readLawLine_17 hd    hf
  · have hf := pv_gn hf q2
    refine EV.iload_n dX4_readLawLine_11 rfl rfl ?_
    refine EV.bipush dX4_readLawLine_12 (by decide) (by decide) ?_
    refine EV.icmp_le (tgt := 23) dX4_readLawLine_14 (by decide) (fun q3 => ?_) (fun q3 => ?_)
    · have hf := pv_gp hf q3
      refine EV.iload_n dX4_readLawLine_23 rfl rfl ?_
      refine EV.bipush dX4_readLawLine_24 (by decide) (by decide) ?_
      refine EV.icmp_ne (tgt := 35) dX4_readLawLine_26 (by decide) (fun q4 => ?_) (fun q4 => ?_)
      · have hf := pv_gn hf q4
        refine EV.aload_n dX4_readLawLine_35 rfl rfl ?_
        obtain ⟨h6, hc5, hf⟩ := pv_c1o hf
        refine EV.invV (As := []) (st := []) (d1 := d - 1) (sh1 := pv_SC) (h1 := MC h6) (r1 := none) dX4_readLawLine_36 sc_1 (by decide) md_X4_next ml_X4_77 im_X4_next se_X4_next (tX4_next (by omega)  hc5) (by omega) rfl rfl (Nat.le_of_ble_eq_true rfl) ⟨[], (List.append_nil _).symm⟩ ?_
        refine EV.aload_n dX4_readLawLine_39 rfl rfl ?_
        refine EV.gets1 dX4_readLawLine_40 fn_X4_111 ?_
        refine EV.iload_n dX4_readLawLine_43 rfl rfl ?_
        obtain ⟨g7, hf⟩ := pv_gd hf
        refine EV.tald1 dX4_readLawLine_44 g7.1 g7.2 ?_
        refine EV.gets2 dX4_readLawLine_45 fn_X4_115 ?_
        refine EV.iload_n dX4_readLawLine_48 rfl rfl ?_
        obtain ⟨g8, hf⟩ := pv_gd hf
        refine EV.tald2 dX4_readLawLine_49 g8.1 g8.2 ?_
        obtain ⟨h10, r11, hc9, hf⟩ := pv_c2o hf
        refine EV.invV (As := [.inl (pv_t1.getD (Int.toNat x1) 0), .inl (pv_t2.getD (Int.toNat x1) 0)]) (st := []) (d1 := d - 1) (sh1 := pv_SC) (h1 := MC h10) (r1 := (some (.inl r11))) dX4_readLawLine_50 sc_1 (by decide) md_X4_numberWithin ml_X4_118 im_X4_numberWithin se_X4_numberWithin (tX4_numberWithin (by omega)  hc9) (by omega) rfl rfl (Nat.le_of_ble_eq_true rfl) ⟨[], (List.append_nil _).symm⟩ ?_
        refine EV.eqS (st2 := [.inl (r11)]) rfl ?_
        refine FV.sti (L2 := [some (.inr (.inr (1))), some (.inl (a1)), some (.inl (x1)), some (.inl (r11))]) dX4_readLawLine_53 rfl (Nat.le_of_ble_eq_true rfl) rfl rfl ?_
        refine EV.iload_n dX4_readLawLine_54 rfl rfl ?_
        refine EV.iconst dX4_readLawLine_55 (by decide) (by decide) ?_
        refine EV.icmp_ne (tgt := 61) dX4_readLawLine_56 (by decide) (fun q12 => ?_) (fun q12 => ?_)
        · have hf := pv_gn hf q12
          refine EV.aload_n dX4_readLawLine_61 rfl rfl ?_
          refine FV.getF (v := 12) dX4_readLawLine_62 sc_1 fl_4_32 rfl rfl hvc_1_5 ?_
          refine FV.getF (v := 13) dX4_readLawLine_65 sc_12 fl_4_157 rfl rfl hvc_12_1 ?_
          refine EV.iload_n dX4_readLawLine_68 rfl rfl ?_
          refine EV.bipush dX4_readLawLine_69 (by decide) (by decide) ?_
          refine EV.isub dX4_readLawLine_71 ?_
          refine EV.iload_n dX4_readLawLine_72 rfl rfl ?_
          obtain ⟨g13, hf⟩ := pv_gd hf
          obtain ⟨h14, eh14, hf⟩ := pv_bo hf
          refine FV.iast dX4_readLawLine_73 sc_13 g13.1 g13.2 (j := (Int.toNat (pv_w (x1 - 14)))) rfl eh14 ?_
          refine EV.aload_n dX4_readLawLine_74 rfl rfl ?_
          refine EV.bipush dX4_readLawLine_75 (by decide) (by decide) ?_
          obtain ⟨h16, r17, hc15, hf⟩ := pv_c2o hf
          refine EV.invV (As := [.inl (42)]) (st := []) (d1 := d - 1) (sh1 := pv_SC) (h1 := MC h16) (r1 := (some (.inl r17))) dX4_readLawLine_77 sc_1 (by decide) md_X4_expect ml_X4_108 im_X4_expect se_X4_expect (tX4_expect (by omega)  hc15) (by omega) rfl rfl (Nat.le_of_ble_eq_true rfl) ⟨[], (List.append_nil _).symm⟩ ?_
          refine EV.eqS (st2 := [.inl (r17)]) rfl ?_
          obtain ⟨g18, hf⟩ := pv_gd hf
          exact FV.zret dX4_readLawLine_80 g18 hf
        · have hf := pv_gp hf q12
          refine EV.iconst dX4_readLawLine_59 (by decide) (by decide) ?_
          exact FV.zret dX4_readLawLine_60 (by decide) hf
      · have hf := pv_gp hf q4
        refine EV.aload_n dX4_readLawLine_29 rfl rfl ?_
        refine EV.iconst dX4_readLawLine_30 (by decide) (by decide) ?_
        obtain ⟨h20, r21, hc19, hf⟩ := pv_c2o hf
        refine EV.invV (As := [.inl (4)]) (st := []) (d1 := d - 1) (sh1 := pv_SC) (h1 := MC h20) (r1 := (some (.inl r21))) dX4_readLawLine_31 sc_1 (by decide) md_X4_fail ml_X4_102 im_X4_fail se_X4_fail (tX4_fail (by omega)  hc19) (by omega) rfl rfl (Nat.le_of_ble_eq_true rfl) ⟨[], (List.append_nil _).symm⟩ ?_
        refine EV.eqS (st2 := [.inl (r21)]) rfl ?_
        obtain ⟨g22, hf⟩ := pv_gd hf
        exact FV.zret dX4_readLawLine_34 g22 hf
    · have hf := pv_gn hf q3
      refine EV.weak (L2 := [some (.inr (.inr (1))), none, none, none]) (And.intro rfl trivial) ?_
      exact tX4_readLawLine_17 hd    hf

noncomputable def fX4_readLaw_9 (N : Nat)   : Nat → Int → pv_H → Option (pv_H × Int)
  | 0, _, _ => none
  | n + 1, v1, h => if 24 < v1 then (some (h, 0)) else (if (h 1 11) = 45 then (pv_b (pv_up h 12 0 v1) fun h10 => some (h10, v1)) else (pv_c2b (fX4_readLawLine N v1 h) fun h6 r7 => if r7 = 0 then (some (h6, 0)) else (pv_b (pv_w (v1 + 1)) fun x9 => fX4_readLaw_9 N   n (x9) h6)))

noncomputable def fX4_readLaw (N : Nat)  (h : pv_H) : Option (pv_H × Int) :=
  pv_c1 (fX2_begin N 12 h) fun h2 => fX4_readLaw_9 N   N (0) h2

set_option maxHeartbeats 4000000 in
set_option maxRecDepth 20000 in
theorem tX4_readLaw_9 {d N : Nat}   {h' : pv_H} {r : Int} (hd : 5 ≤ d)   : ∀ (n : Nat) (v1 : Int)  (h : pv_H), fX4_readLaw_9 N   n v1 h = some (h', r) → EV RX4 cX4_readLaw 2 (some .int) false d pv_SC (MC h') (some (.inl r)) 9 [some (.inr (.inr (1))), some (.inl (v1))] [] pv_SC (MC h) := by
  intro n
  induction n with
  | zero =>
    intro v1  h hf
    cases hf
  | succ n ih =>
    intro v1  h hf
    rw [fX4_readLaw_9] at hf
    refine EV.iload_n dX4_readLaw_9 rfl rfl ?_
    refine EV.bipush dX4_readLaw_10 (by decide) (by decide) ?_
    refine EV.icmp_gt (tgt := 50) dX4_readLaw_12 (by decide) (fun q3 => ?_) (fun q3 => ?_)
    · have hf := pv_gp hf q3
      refine EV.iconst dX4_readLaw_50 (by decide) (by decide) ?_
      exact FV.iret dX4_readLaw_51 hf
    · have hf := pv_gn hf q3
      refine EV.aload_n dX4_readLaw_15 rfl rfl ?_
      refine FV.getI dX4_readLaw_16 sc_1 fl_4_83 rfl ?_
      refine EV.bipush dX4_readLaw_19 (by decide) (by decide) ?_
      refine EV.icmp_ne (tgt := 34) dX4_readLaw_21 (by decide) (fun q4 => ?_) (fun q4 => ?_)
      · have hf := pv_gn hf q4
        refine EV.aload_n dX4_readLaw_34 rfl rfl ?_
        refine EV.iload_n dX4_readLaw_35 rfl rfl ?_
        obtain ⟨h6, r7, hc5, hf⟩ := pv_c2o hf
        refine EV.invV (As := [.inl (v1)]) (st := []) (d1 := d - 1) (sh1 := pv_SC) (h1 := MC h6) (r1 := (some (.inl r7))) dX4_readLaw_36 sc_1 (by decide) md_X4_readLawLine ml_X4_154 im_X4_readLawLine se_X4_readLawLine (tX4_readLawLine (by omega)  hc5) (by omega) rfl rfl (Nat.le_of_ble_eq_true rfl) ⟨[], (List.append_nil _).symm⟩ ?_
        refine EV.eqS (st2 := [.inl (r7)]) rfl ?_
        refine EV.if_ne (tgt := 44) dX4_readLaw_39 (by decide) (fun q8 => ?_) (fun q8 => ?_)
        · have hf := pv_gn hf q8
          obtain ⟨x9, ex9, hf⟩ := pv_bo hf
          refine FV.inc (L2 := [some (.inr (.inr (1))), some (.inl (x9))]) dX4_readLaw_44 rfl (Nat.le_of_ble_eq_true rfl) ex9 rfl ?_
          refine EV.goto (tgt := 9) dX4_readLaw_47 (by decide) ?_
          refine EV.weak (L2 := [some (.inr (.inr (1))), some (.inl (x9))]) (And.intro rfl (And.intro rfl trivial)) ?_
          exact ih _  _ hf
        · have hf := pv_gp hf q8
          refine EV.iconst dX4_readLaw_42 (by decide) (by decide) ?_
          exact FV.iret dX4_readLaw_43 hf
      · have hf := pv_gp hf q4
        refine EV.aload_n dX4_readLaw_24 rfl rfl ?_
        refine FV.getF (v := 12) dX4_readLaw_25 sc_1 fl_4_32 rfl rfl hvc_1_5 ?_
        refine EV.iload_n dX4_readLaw_28 rfl rfl ?_
        obtain ⟨h10, eh10, hf⟩ := pv_bo hf
        refine FV.putI dX4_readLaw_29 sc_12 fl_4_153 rfl rfl eh10 ?_
        refine EV.iload_n dX4_readLaw_32 rfl rfl ?_
        exact FV.iret dX4_readLaw_33 hf

set_option maxHeartbeats 4000000 in
set_option maxRecDepth 20000 in
theorem tX4_readLaw {d N : Nat}  {h h' : pv_H} {r : Int} (hd : 5 ≤ d)  (hf : fX4_readLaw N  h = some (h', r)) : CALL yX4_readLaw cX4_readLaw 2 (some .int) d pv_SC (MC h) [.inr (.inr (1))] pv_SC (MC h') (some (.inl r)) := by
  unfold fX4_readLaw at hf
  refine EV.call (own := RX4) (ini := false) rfl rfl (fun q => by cases q) ⟨[], (List.append_nil _).symm⟩ (Nat.le_of_ble_eq_true rfl) ?_
  refine EV.eqL (L2 := [some (.inr (.inr (1))), none]) rfl ?_
  refine EV.aload_n dX4_readLaw_0 rfl rfl ?_
  refine FV.getF (v := 12) dX4_readLaw_1 sc_1 fl_4_32 rfl rfl hvc_1_5 ?_
  obtain ⟨h2, hc1, hf⟩ := pv_c1o hf
  refine EV.invV (As := []) (st := []) (d1 := d - 1) (sh1 := pv_SC) (h1 := MC h2) (r1 := none) dX4_readLaw_4 sc_12 (by decide) md_X2_begin ml_X4_151 im_X2_begin se_X2_begin (tX2_begin (by omega) ((by decide : 12 ∈ pv_l2)) hc1) (by omega) rfl rfl (Nat.le_of_ble_eq_true rfl) ⟨[], (List.append_nil _).symm⟩ ?_
  refine EV.iconst dX4_readLaw_7 (by decide) (by decide) ?_
  refine FV.sti (L2 := [some (.inr (.inr (1))), some (.inl (0))]) dX4_readLaw_8 rfl (Nat.le_of_ble_eq_true rfl) rfl rfl ?_
  refine EV.weak (L2 := [some (.inr (.inr (1))), some (.inl (0))]) (And.intro rfl (And.intro rfl trivial)) ?_
  exact tX4_readLaw_9 hd   _ _  _ hf

noncomputable def fX4_readAnyOf_54 (N : Nat) (rc : Nat → Int → pv_H → Option (pv_H × Int))  (a1 : Int) (v2 : Int) (h : pv_H) : Option (pv_H × Int) :=
  if v2 = 0 ∨ v2 = 1 then (some (h, v2)) else none

noncomputable def fX4_readAnyOf_8 (N : Nat) (rc : Nat → Int → pv_H → Option (pv_H × Int))  (a1 : Int) : Nat → Int → Int → pv_H → Option (pv_H × Int)
  | 0, _, _, _ => none
  | n + 1, v2, v3, h => if 400 ≤ v3 then (fX4_readAnyOf_54 N rc  a1 (v2) h) else (if v2 = 0 then (fX4_readAnyOf_54 N rc  a1 (v2) h) else (if (h 1 11) = 24 then (pv_c1 (fX4_next N  h) fun h8 => pv_c2b (rc 1 a1 h8) fun h10 r11 => pv_c1 (fX3_tell N 14 24 0 h10) fun h13 => pv_b (pv_w (v3 + 1)) fun x14 => fX4_readAnyOf_8 N rc  a1 n (r11) (x14) h13) else (fX4_readAnyOf_54 N rc  a1 (v2) h)))

noncomputable def fX4_readAnyOf (N : Nat) (rc : Nat → Int → pv_H → Option (pv_H × Int)) (a1 : Int) (h : pv_H) : Option (pv_H × Int) :=
  pv_c2b (rc 1 a1 h) fun h2 r3 => fX4_readAnyOf_8 N rc  a1 N (r3) (0) h2

set_option maxHeartbeats 4000000 in
set_option maxRecDepth 20000 in
theorem tX4_readAnyOf_54 {d N : Nat} {rc : Nat → Int → pv_H → Option (pv_H × Int)}  {a1 : Int} {v2 : Int} {h h' : pv_H} {r : Int} (hd : 3 ≤ d) (hrc0 : ∀ {x1 : Int} {z1 z2 : pv_H} {y1 : Int}, rc 0 x1 z1 = some (z2, y1) → CALL yX4_readAnyOf cX4_readAnyOf 4 (some .boolean) (d - 1) pv_SC (MC z1) [.inr (.inr 1), .inl x1] pv_SC (MC z2) (some (.inl y1))) (hrc1 : ∀ {x1 : Int} {z1 z2 : pv_H} {y1 : Int}, rc 1 x1 z1 = some (z2, y1) → CALL yX4_readAllOf cX4_readAllOf 4 (some .boolean) (d - 1) pv_SC (MC z1) [.inr (.inr 1), .inl x1] pv_SC (MC z2) (some (.inl y1))) (hrc2 : ∀ {x1 : Int} {z1 z2 : pv_H} {y1 : Int}, rc 2 x1 z1 = some (z2, y1) → CALL yX4_readFact cX4_readFact 4 (some .boolean) (d - 1) pv_SC (MC z1) [.inr (.inr 1), .inl x1] pv_SC (MC z2) (some (.inl y1)))    (hf : fX4_readAnyOf_54 N rc  a1 v2 h = some (h', r)) : EV RX4 cX4_readAnyOf 4 (some .boolean) false d pv_SC (MC h') (some (.inl r)) 54 [none, none, some (.inl (v2)), none] [] pv_SC (MC h) := by
  unfold fX4_readAnyOf_54 at hf
  refine EV.iload_n dX4_readAnyOf_54 rfl rfl ?_
  obtain ⟨g15, hf⟩ := pv_gd hf
  exact FV.zret dX4_readAnyOf_55 g15 hf

set_option maxHeartbeats 4000000 in
set_option maxRecDepth 20000 in
theorem tX4_readAnyOf_8 {d N : Nat} {rc : Nat → Int → pv_H → Option (pv_H × Int)}  {a1 : Int} {h' : pv_H} {r : Int} (hd : 3 ≤ d) (hrc0 : ∀ {x1 : Int} {z1 z2 : pv_H} {y1 : Int}, rc 0 x1 z1 = some (z2, y1) → CALL yX4_readAnyOf cX4_readAnyOf 4 (some .boolean) (d - 1) pv_SC (MC z1) [.inr (.inr 1), .inl x1] pv_SC (MC z2) (some (.inl y1))) (hrc1 : ∀ {x1 : Int} {z1 z2 : pv_H} {y1 : Int}, rc 1 x1 z1 = some (z2, y1) → CALL yX4_readAllOf cX4_readAllOf 4 (some .boolean) (d - 1) pv_SC (MC z1) [.inr (.inr 1), .inl x1] pv_SC (MC z2) (some (.inl y1))) (hrc2 : ∀ {x1 : Int} {z1 z2 : pv_H} {y1 : Int}, rc 2 x1 z1 = some (z2, y1) → CALL yX4_readFact cX4_readFact 4 (some .boolean) (d - 1) pv_SC (MC z1) [.inr (.inr 1), .inl x1] pv_SC (MC z2) (some (.inl y1)))   : ∀ (n : Nat) (v2 : Int) (v3 : Int)  (h : pv_H), fX4_readAnyOf_8 N rc  a1 n v2 v3 h = some (h', r) → EV RX4 cX4_readAnyOf 4 (some .boolean) false d pv_SC (MC h') (some (.inl r)) 8 [some (.inr (.inr (1))), some (.inl (a1)), some (.inl (v2)), some (.inl (v3))] [] pv_SC (MC h) := by
  intro n
  induction n with
  | zero =>
    intro v2 v3  h hf
    cases hf
  | succ n ih =>
    intro v2 v3  h hf
    rw [fX4_readAnyOf_8] at hf
    refine EV.iload_n dX4_readAnyOf_8 rfl rfl ?_
    refine EV.sipush dX4_readAnyOf_9 (by decide) (by decide) ?_
    refine EV.icmp_ge (tgt := 54) dX4_readAnyOf_12 (by decide) (fun q4 => ?_) (fun q4 => ?_)
    · have hf := pv_gp hf q4
      refine EV.weak (L2 := [none, none, some (.inl (v2)), none]) (And.intro rfl trivial) ?_
      exact tX4_readAnyOf_54 hd hrc0 hrc1 hrc2    hf
    · have hf := pv_gn hf q4
      refine EV.iload_n dX4_readAnyOf_15 rfl rfl ?_
      refine EV.if_eq (tgt := 54) dX4_readAnyOf_16 (by decide) (fun q5 => ?_) (fun q5 => ?_)
      · have hf := pv_gp hf q5
        refine EV.weak (L2 := [none, none, some (.inl (v2)), none]) (And.intro rfl trivial) ?_
        exact tX4_readAnyOf_54 hd hrc0 hrc1 hrc2    hf
      · have hf := pv_gn hf q5
        refine EV.aload_n dX4_readAnyOf_19 rfl rfl ?_
        refine FV.getI dX4_readAnyOf_20 sc_1 fl_4_83 rfl ?_
        refine EV.bipush dX4_readAnyOf_23 (by decide) (by decide) ?_
        refine EV.icmp_ne (tgt := 54) dX4_readAnyOf_25 (by decide) (fun q6 => ?_) (fun q6 => ?_)
        · have hf := pv_gn hf q6
          refine EV.weak (L2 := [none, none, some (.inl (v2)), none]) (And.intro rfl trivial) ?_
          exact tX4_readAnyOf_54 hd hrc0 hrc1 hrc2    hf
        · have hf := pv_gp hf q6
          refine EV.aload_n dX4_readAnyOf_28 rfl rfl ?_
          obtain ⟨h8, hc7, hf⟩ := pv_c1o hf
          refine EV.invV (As := []) (st := []) (d1 := d - 1) (sh1 := pv_SC) (h1 := MC h8) (r1 := none) dX4_readAnyOf_29 sc_1 (by decide) md_X4_next ml_X4_77 im_X4_next se_X4_next (tX4_next (by omega)  hc7) (by omega) rfl rfl (Nat.le_of_ble_eq_true rfl) ⟨[], (List.append_nil _).symm⟩ ?_
          refine EV.aload_n dX4_readAnyOf_32 rfl rfl ?_
          refine EV.iload_n dX4_readAnyOf_33 rfl rfl ?_
          obtain ⟨h10, r11, hc9, hf⟩ := pv_c2o hf
          refine EV.invV (As := [.inl (a1)]) (st := []) (d1 := d - 1) (sh1 := pv_SC) (h1 := MC h10) (r1 := (some (.inl r11))) dX4_readAnyOf_34 sc_1 (by decide) md_X4_readAllOf ml_X4_168 im_X4_readAllOf se_X4_readAllOf (hrc1 hc9) (by omega) rfl rfl (Nat.le_of_ble_eq_true rfl) ⟨[], (List.append_nil _).symm⟩ ?_
          refine EV.eqS (st2 := [.inl (r11)]) rfl ?_
          refine FV.sti (L2 := [some (.inr (.inr (1))), some (.inl (a1)), some (.inl (r11)), some (.inl (v3))]) dX4_readAnyOf_37 rfl (Nat.le_of_ble_eq_true rfl) rfl rfl ?_
          refine EV.aload_n dX4_readAnyOf_38 rfl rfl ?_
          refine FV.getF (v := 14) dX4_readAnyOf_39 sc_1 fl_4_39 rfl rfl hvc_1_6 ?_
          refine EV.bipush dX4_readAnyOf_42 (by decide) (by decide) ?_
          refine EV.iconst dX4_readAnyOf_44 (by decide) (by decide) ?_
          obtain ⟨h13, hc12, hf⟩ := pv_c1o hf
          refine EV.invV (As := [.inl (24), .inl (0)]) (st := []) (d1 := d - 1) (sh1 := pv_SC) (h1 := MC h13) (r1 := none) dX4_readAnyOf_45 sc_14 (by decide) md_X3_tell ml_X4_171 im_X3_tell se_X3_tell (tX3_tell (by omega) ((by decide : 14 ∈ pv_l3)) hc12) (by omega) rfl rfl (Nat.le_of_ble_eq_true rfl) ⟨[], (List.append_nil _).symm⟩ ?_
          obtain ⟨x14, ex14, hf⟩ := pv_bo hf
          refine FV.inc (L2 := [some (.inr (.inr (1))), some (.inl (a1)), some (.inl (r11)), some (.inl (x14))]) dX4_readAnyOf_48 rfl (Nat.le_of_ble_eq_true rfl) ex14 rfl ?_
          refine EV.goto (tgt := 8) dX4_readAnyOf_51 (by decide) ?_
          refine EV.weak (L2 := [some (.inr (.inr (1))), some (.inl (a1)), some (.inl (r11)), some (.inl (x14))]) (And.intro rfl (And.intro rfl (And.intro rfl (And.intro rfl trivial)))) ?_
          exact ih _ _  _ hf

set_option maxHeartbeats 4000000 in
set_option maxRecDepth 20000 in
theorem tX4_readAnyOf {d N : Nat} {rc : Nat → Int → pv_H → Option (pv_H × Int)} {a1 : Int} {h h' : pv_H} {r : Int} (hd : 3 ≤ d) (hrc0 : ∀ {x1 : Int} {z1 z2 : pv_H} {y1 : Int}, rc 0 x1 z1 = some (z2, y1) → CALL yX4_readAnyOf cX4_readAnyOf 4 (some .boolean) (d - 1) pv_SC (MC z1) [.inr (.inr 1), .inl x1] pv_SC (MC z2) (some (.inl y1))) (hrc1 : ∀ {x1 : Int} {z1 z2 : pv_H} {y1 : Int}, rc 1 x1 z1 = some (z2, y1) → CALL yX4_readAllOf cX4_readAllOf 4 (some .boolean) (d - 1) pv_SC (MC z1) [.inr (.inr 1), .inl x1] pv_SC (MC z2) (some (.inl y1))) (hrc2 : ∀ {x1 : Int} {z1 z2 : pv_H} {y1 : Int}, rc 2 x1 z1 = some (z2, y1) → CALL yX4_readFact cX4_readFact 4 (some .boolean) (d - 1) pv_SC (MC z1) [.inr (.inr 1), .inl x1] pv_SC (MC z2) (some (.inl y1)))  (hf : fX4_readAnyOf N rc a1 h = some (h', r)) : CALL yX4_readAnyOf cX4_readAnyOf 4 (some .boolean) d pv_SC (MC h) [.inr (.inr (1)), .inl (a1)] pv_SC (MC h') (some (.inl r)) := by
  unfold fX4_readAnyOf at hf
  refine EV.call (own := RX4) (ini := false) rfl rfl (fun q => by cases q) ⟨[], (List.append_nil _).symm⟩ (Nat.le_of_ble_eq_true rfl) ?_
  refine EV.eqL (L2 := [some (.inr (.inr (1))), some (.inl (a1)), none, none]) rfl ?_
  refine EV.aload_n dX4_readAnyOf_0 rfl rfl ?_
  refine EV.iload_n dX4_readAnyOf_1 rfl rfl ?_
  obtain ⟨h2, r3, hc1, hf⟩ := pv_c2o hf
  refine EV.invV (As := [.inl (a1)]) (st := []) (d1 := d - 1) (sh1 := pv_SC) (h1 := MC h2) (r1 := (some (.inl r3))) dX4_readAnyOf_2 sc_1 (by decide) md_X4_readAllOf ml_X4_168 im_X4_readAllOf se_X4_readAllOf (hrc1 hc1) (by omega) rfl rfl (Nat.le_of_ble_eq_true rfl) ⟨[], (List.append_nil _).symm⟩ ?_
  refine EV.eqS (st2 := [.inl (r3)]) rfl ?_
  refine FV.sti (L2 := [some (.inr (.inr (1))), some (.inl (a1)), some (.inl (r3)), none]) dX4_readAnyOf_5 rfl (Nat.le_of_ble_eq_true rfl) rfl rfl ?_
  refine EV.iconst dX4_readAnyOf_6 (by decide) (by decide) ?_
  refine FV.sti (L2 := [some (.inr (.inr (1))), some (.inl (a1)), some (.inl (r3)), some (.inl (0))]) dX4_readAnyOf_7 rfl (Nat.le_of_ble_eq_true rfl) rfl rfl ?_
  refine EV.weak (L2 := [some (.inr (.inr (1))), some (.inl (a1)), some (.inl (r3)), some (.inl (0))]) (And.intro rfl (And.intro rfl (And.intro rfl (And.intro rfl trivial)))) ?_
  exact tX4_readAnyOf_8 hd hrc0 hrc1 hrc2   _ _ _  _ hf

noncomputable def fX4_readAllOf_54 (N : Nat) (rc : Nat → Int → pv_H → Option (pv_H × Int))  (a1 : Int) (v2 : Int) (h : pv_H) : Option (pv_H × Int) :=
  if v2 = 0 ∨ v2 = 1 then (some (h, v2)) else none

noncomputable def fX4_readAllOf_8 (N : Nat) (rc : Nat → Int → pv_H → Option (pv_H × Int))  (a1 : Int) : Nat → Int → Int → pv_H → Option (pv_H × Int)
  | 0, _, _, _ => none
  | n + 1, v2, v3, h => if 400 ≤ v3 then (fX4_readAllOf_54 N rc  a1 (v2) h) else (if v2 = 0 then (fX4_readAllOf_54 N rc  a1 (v2) h) else (if (h 1 11) = 25 then (pv_c1 (fX4_next N  h) fun h8 => pv_c2b (rc 2 a1 h8) fun h10 r11 => pv_c1 (fX3_tell N 14 25 0 h10) fun h13 => pv_b (pv_w (v3 + 1)) fun x14 => fX4_readAllOf_8 N rc  a1 n (r11) (x14) h13) else (fX4_readAllOf_54 N rc  a1 (v2) h)))

noncomputable def fX4_readAllOf (N : Nat) (rc : Nat → Int → pv_H → Option (pv_H × Int)) (a1 : Int) (h : pv_H) : Option (pv_H × Int) :=
  pv_c2b (rc 2 a1 h) fun h2 r3 => fX4_readAllOf_8 N rc  a1 N (r3) (0) h2

set_option maxHeartbeats 4000000 in
set_option maxRecDepth 20000 in
theorem tX4_readAllOf_54 {d N : Nat} {rc : Nat → Int → pv_H → Option (pv_H × Int)}  {a1 : Int} {v2 : Int} {h h' : pv_H} {r : Int} (hd : 3 ≤ d) (hrc0 : ∀ {x1 : Int} {z1 z2 : pv_H} {y1 : Int}, rc 0 x1 z1 = some (z2, y1) → CALL yX4_readAnyOf cX4_readAnyOf 4 (some .boolean) (d - 1) pv_SC (MC z1) [.inr (.inr 1), .inl x1] pv_SC (MC z2) (some (.inl y1))) (hrc1 : ∀ {x1 : Int} {z1 z2 : pv_H} {y1 : Int}, rc 1 x1 z1 = some (z2, y1) → CALL yX4_readAllOf cX4_readAllOf 4 (some .boolean) (d - 1) pv_SC (MC z1) [.inr (.inr 1), .inl x1] pv_SC (MC z2) (some (.inl y1))) (hrc2 : ∀ {x1 : Int} {z1 z2 : pv_H} {y1 : Int}, rc 2 x1 z1 = some (z2, y1) → CALL yX4_readFact cX4_readFact 4 (some .boolean) (d - 1) pv_SC (MC z1) [.inr (.inr 1), .inl x1] pv_SC (MC z2) (some (.inl y1)))    (hf : fX4_readAllOf_54 N rc  a1 v2 h = some (h', r)) : EV RX4 cX4_readAllOf 4 (some .boolean) false d pv_SC (MC h') (some (.inl r)) 54 [none, none, some (.inl (v2)), none] [] pv_SC (MC h) := by
  unfold fX4_readAllOf_54 at hf
  refine EV.iload_n dX4_readAllOf_54 rfl rfl ?_
  obtain ⟨g15, hf⟩ := pv_gd hf
  exact FV.zret dX4_readAllOf_55 g15 hf

set_option maxHeartbeats 4000000 in
set_option maxRecDepth 20000 in
theorem tX4_readAllOf_8 {d N : Nat} {rc : Nat → Int → pv_H → Option (pv_H × Int)}  {a1 : Int} {h' : pv_H} {r : Int} (hd : 3 ≤ d) (hrc0 : ∀ {x1 : Int} {z1 z2 : pv_H} {y1 : Int}, rc 0 x1 z1 = some (z2, y1) → CALL yX4_readAnyOf cX4_readAnyOf 4 (some .boolean) (d - 1) pv_SC (MC z1) [.inr (.inr 1), .inl x1] pv_SC (MC z2) (some (.inl y1))) (hrc1 : ∀ {x1 : Int} {z1 z2 : pv_H} {y1 : Int}, rc 1 x1 z1 = some (z2, y1) → CALL yX4_readAllOf cX4_readAllOf 4 (some .boolean) (d - 1) pv_SC (MC z1) [.inr (.inr 1), .inl x1] pv_SC (MC z2) (some (.inl y1))) (hrc2 : ∀ {x1 : Int} {z1 z2 : pv_H} {y1 : Int}, rc 2 x1 z1 = some (z2, y1) → CALL yX4_readFact cX4_readFact 4 (some .boolean) (d - 1) pv_SC (MC z1) [.inr (.inr 1), .inl x1] pv_SC (MC z2) (some (.inl y1)))   : ∀ (n : Nat) (v2 : Int) (v3 : Int)  (h : pv_H), fX4_readAllOf_8 N rc  a1 n v2 v3 h = some (h', r) → EV RX4 cX4_readAllOf 4 (some .boolean) false d pv_SC (MC h') (some (.inl r)) 8 [some (.inr (.inr (1))), some (.inl (a1)), some (.inl (v2)), some (.inl (v3))] [] pv_SC (MC h) := by
  intro n
  induction n with
  | zero =>
    intro v2 v3  h hf
    cases hf
  | succ n ih =>
    intro v2 v3  h hf
    rw [fX4_readAllOf_8] at hf
    refine EV.iload_n dX4_readAllOf_8 rfl rfl ?_
    refine EV.sipush dX4_readAllOf_9 (by decide) (by decide) ?_
    refine EV.icmp_ge (tgt := 54) dX4_readAllOf_12 (by decide) (fun q4 => ?_) (fun q4 => ?_)
    · have hf := pv_gp hf q4
      refine EV.weak (L2 := [none, none, some (.inl (v2)), none]) (And.intro rfl trivial) ?_
      exact tX4_readAllOf_54 hd hrc0 hrc1 hrc2    hf
    · have hf := pv_gn hf q4
      refine EV.iload_n dX4_readAllOf_15 rfl rfl ?_
      refine EV.if_eq (tgt := 54) dX4_readAllOf_16 (by decide) (fun q5 => ?_) (fun q5 => ?_)
      · have hf := pv_gp hf q5
        refine EV.weak (L2 := [none, none, some (.inl (v2)), none]) (And.intro rfl trivial) ?_
        exact tX4_readAllOf_54 hd hrc0 hrc1 hrc2    hf
      · have hf := pv_gn hf q5
        refine EV.aload_n dX4_readAllOf_19 rfl rfl ?_
        refine FV.getI dX4_readAllOf_20 sc_1 fl_4_83 rfl ?_
        refine EV.bipush dX4_readAllOf_23 (by decide) (by decide) ?_
        refine EV.icmp_ne (tgt := 54) dX4_readAllOf_25 (by decide) (fun q6 => ?_) (fun q6 => ?_)
        · have hf := pv_gn hf q6
          refine EV.weak (L2 := [none, none, some (.inl (v2)), none]) (And.intro rfl trivial) ?_
          exact tX4_readAllOf_54 hd hrc0 hrc1 hrc2    hf
        · have hf := pv_gp hf q6
          refine EV.aload_n dX4_readAllOf_28 rfl rfl ?_
          obtain ⟨h8, hc7, hf⟩ := pv_c1o hf
          refine EV.invV (As := []) (st := []) (d1 := d - 1) (sh1 := pv_SC) (h1 := MC h8) (r1 := none) dX4_readAllOf_29 sc_1 (by decide) md_X4_next ml_X4_77 im_X4_next se_X4_next (tX4_next (by omega)  hc7) (by omega) rfl rfl (Nat.le_of_ble_eq_true rfl) ⟨[], (List.append_nil _).symm⟩ ?_
          refine EV.aload_n dX4_readAllOf_32 rfl rfl ?_
          refine EV.iload_n dX4_readAllOf_33 rfl rfl ?_
          obtain ⟨h10, r11, hc9, hf⟩ := pv_c2o hf
          refine EV.invV (As := [.inl (a1)]) (st := []) (d1 := d - 1) (sh1 := pv_SC) (h1 := MC h10) (r1 := (some (.inl r11))) dX4_readAllOf_34 sc_1 (by decide) md_X4_readFact ml_X4_174 im_X4_readFact se_X4_readFact (hrc2 hc9) (by omega) rfl rfl (Nat.le_of_ble_eq_true rfl) ⟨[], (List.append_nil _).symm⟩ ?_
          refine EV.eqS (st2 := [.inl (r11)]) rfl ?_
          refine FV.sti (L2 := [some (.inr (.inr (1))), some (.inl (a1)), some (.inl (r11)), some (.inl (v3))]) dX4_readAllOf_37 rfl (Nat.le_of_ble_eq_true rfl) rfl rfl ?_
          refine EV.aload_n dX4_readAllOf_38 rfl rfl ?_
          refine FV.getF (v := 14) dX4_readAllOf_39 sc_1 fl_4_39 rfl rfl hvc_1_6 ?_
          refine EV.bipush dX4_readAllOf_42 (by decide) (by decide) ?_
          refine EV.iconst dX4_readAllOf_44 (by decide) (by decide) ?_
          obtain ⟨h13, hc12, hf⟩ := pv_c1o hf
          refine EV.invV (As := [.inl (25), .inl (0)]) (st := []) (d1 := d - 1) (sh1 := pv_SC) (h1 := MC h13) (r1 := none) dX4_readAllOf_45 sc_14 (by decide) md_X3_tell ml_X4_171 im_X3_tell se_X3_tell (tX3_tell (by omega) ((by decide : 14 ∈ pv_l3)) hc12) (by omega) rfl rfl (Nat.le_of_ble_eq_true rfl) ⟨[], (List.append_nil _).symm⟩ ?_
          obtain ⟨x14, ex14, hf⟩ := pv_bo hf
          refine FV.inc (L2 := [some (.inr (.inr (1))), some (.inl (a1)), some (.inl (r11)), some (.inl (x14))]) dX4_readAllOf_48 rfl (Nat.le_of_ble_eq_true rfl) ex14 rfl ?_
          refine EV.goto (tgt := 8) dX4_readAllOf_51 (by decide) ?_
          refine EV.weak (L2 := [some (.inr (.inr (1))), some (.inl (a1)), some (.inl (r11)), some (.inl (x14))]) (And.intro rfl (And.intro rfl (And.intro rfl (And.intro rfl trivial)))) ?_
          exact ih _ _  _ hf

set_option maxHeartbeats 4000000 in
set_option maxRecDepth 20000 in
theorem tX4_readAllOf {d N : Nat} {rc : Nat → Int → pv_H → Option (pv_H × Int)} {a1 : Int} {h h' : pv_H} {r : Int} (hd : 3 ≤ d) (hrc0 : ∀ {x1 : Int} {z1 z2 : pv_H} {y1 : Int}, rc 0 x1 z1 = some (z2, y1) → CALL yX4_readAnyOf cX4_readAnyOf 4 (some .boolean) (d - 1) pv_SC (MC z1) [.inr (.inr 1), .inl x1] pv_SC (MC z2) (some (.inl y1))) (hrc1 : ∀ {x1 : Int} {z1 z2 : pv_H} {y1 : Int}, rc 1 x1 z1 = some (z2, y1) → CALL yX4_readAllOf cX4_readAllOf 4 (some .boolean) (d - 1) pv_SC (MC z1) [.inr (.inr 1), .inl x1] pv_SC (MC z2) (some (.inl y1))) (hrc2 : ∀ {x1 : Int} {z1 z2 : pv_H} {y1 : Int}, rc 2 x1 z1 = some (z2, y1) → CALL yX4_readFact cX4_readFact 4 (some .boolean) (d - 1) pv_SC (MC z1) [.inr (.inr 1), .inl x1] pv_SC (MC z2) (some (.inl y1)))  (hf : fX4_readAllOf N rc a1 h = some (h', r)) : CALL yX4_readAllOf cX4_readAllOf 4 (some .boolean) d pv_SC (MC h) [.inr (.inr (1)), .inl (a1)] pv_SC (MC h') (some (.inl r)) := by
  unfold fX4_readAllOf at hf
  refine EV.call (own := RX4) (ini := false) rfl rfl (fun q => by cases q) ⟨[], (List.append_nil _).symm⟩ (Nat.le_of_ble_eq_true rfl) ?_
  refine EV.eqL (L2 := [some (.inr (.inr (1))), some (.inl (a1)), none, none]) rfl ?_
  refine EV.aload_n dX4_readAllOf_0 rfl rfl ?_
  refine EV.iload_n dX4_readAllOf_1 rfl rfl ?_
  obtain ⟨h2, r3, hc1, hf⟩ := pv_c2o hf
  refine EV.invV (As := [.inl (a1)]) (st := []) (d1 := d - 1) (sh1 := pv_SC) (h1 := MC h2) (r1 := (some (.inl r3))) dX4_readAllOf_2 sc_1 (by decide) md_X4_readFact ml_X4_174 im_X4_readFact se_X4_readFact (hrc2 hc1) (by omega) rfl rfl (Nat.le_of_ble_eq_true rfl) ⟨[], (List.append_nil _).symm⟩ ?_
  refine EV.eqS (st2 := [.inl (r3)]) rfl ?_
  refine FV.sti (L2 := [some (.inr (.inr (1))), some (.inl (a1)), some (.inl (r3)), none]) dX4_readAllOf_5 rfl (Nat.le_of_ble_eq_true rfl) rfl rfl ?_
  refine EV.iconst dX4_readAllOf_6 (by decide) (by decide) ?_
  refine FV.sti (L2 := [some (.inr (.inr (1))), some (.inl (a1)), some (.inl (r3)), some (.inl (0))]) dX4_readAllOf_7 rfl (Nat.le_of_ble_eq_true rfl) rfl rfl ?_
  refine EV.weak (L2 := [some (.inr (.inr (1))), some (.inl (a1)), some (.inl (r3)), some (.inl (0))]) (And.intro rfl (And.intro rfl (And.intro rfl (And.intro rfl trivial)))) ?_
  exact tX4_readAllOf_8 hd hrc0 hrc1 hrc2   _ _ _  _ hf

noncomputable def fX4_readFact_63 (N : Nat) (rc : Nat → Int → pv_H → Option (pv_H × Int))  (a1 : Int) (s0 : Int) (h : pv_H) : Option (pv_H × Int) :=
  if s0 = 0 ∨ s0 = 1 then (some (h, s0)) else none

noncomputable def fX4_readFact_62 (N : Nat) (rc : Nat → Int → pv_H → Option (pv_H × Int))  (a1 : Int)  (h : pv_H) : Option (pv_H × Int) :=
  fX4_readFact_63 N rc  a1 (0) h

noncomputable def fX4_readFact_17 (N : Nat) (rc : Nat → Int → pv_H → Option (pv_H × Int))  (a1 : Int) (v2 : Int) (h : pv_H) : Option (pv_H × Int) :=
  if a1 < 8 then (pv_c1 (fX4_next N  h) fun h16 => if v2 = 43 then (pv_c2b (rc 0 (pv_w (a1 + 1)) h16) fun h25 r26 => if r26 = 0 then (fX4_readFact_62 N rc  a1  h25) else (pv_c2b (fX4_expect N 44 h25) fun h29 r30 => if r30 = 0 then (fX4_readFact_62 N rc  a1  h29) else (fX4_readFact_63 N rc  a1 (1) h29))) else (pv_c2b (rc 2 (pv_w (a1 + 1)) h16) fun h19 r20 => pv_c1 (fX3_tell N 14 26 0 h19) fun h22 => if r20 = 0 ∨ r20 = 1 then (some (h22, r20)) else none)) else (pv_c2b (fX4_fail N 5 h) fun h33 r34 => if r34 = 0 ∨ r34 = 1 then (some (h33, r34)) else none)

noncomputable def fX4_readFact_96 (N : Nat) (rc : Nat → Int → pv_H → Option (pv_H × Int))  (a1 : Int)  (h : pv_H) : Option (pv_H × Int) :=
  pv_c2b (fX4_fail N 2 h) fun h37 r38 => if r38 = 0 ∨ r38 = 1 then (some (h37, r38)) else none

noncomputable def fX4_readFact_130 (N : Nat) (rc : Nat → Int → pv_H → Option (pv_H × Int))  (a1 : Int) (v2 : Int) (s0 : Int) (h : pv_H) : Option (pv_H × Int) :=
  if s0 = (-1) then (some (h, 0)) else (pv_c1 (fX3_tell N 14 v2 s0 h) fun h42 => some (h42, 1))

noncomputable def fX4_readFact (N : Nat) (rc : Nat → Int → pv_H → Option (pv_H × Int)) (a1 : Int) (h : pv_H) : Option (pv_H × Int) :=
  pv_b (h 1 11) fun x1 => if x1 = 26 then (fX4_readFact_17 N rc  a1 (x1) h) else (if x1 = 43 then (fX4_readFact_17 N rc  a1 (x1) h) else (if x1 < 27 then (fX4_readFact_96 N rc  a1  h) else (if x1 ≤ 36 then (pv_c1 (fX4_next N  h) fun h7 => if 28 < x1 then (if 0 ≤ x1 ∧ x1 < 37 then (if 0 ≤ x1 ∧ x1 < 37 then (pv_c2b (fX4_numberWithin N (pv_t1.getD (Int.toNat x1) 0) (pv_t2.getD (Int.toNat x1) 0) h7) fun h12 r13 => fX4_readFact_130 N rc  a1 (x1) (r13) h12) else none) else none) else (fX4_readFact_130 N rc  a1 (x1) (0) h7)) else (fX4_readFact_96 N rc  a1  h))))

set_option maxHeartbeats 4000000 in
set_option maxRecDepth 20000 in
theorem tX4_readFact_63 {d N : Nat} {rc : Nat → Int → pv_H → Option (pv_H × Int)}  {a1 : Int} {s0 : Int} {h h' : pv_H} {r : Int} (hd : 4 ≤ d) (hrc0 : ∀ {x1 : Int} {z1 z2 : pv_H} {y1 : Int}, rc 0 x1 z1 = some (z2, y1) → CALL yX4_readAnyOf cX4_readAnyOf 4 (some .boolean) (d - 1) pv_SC (MC z1) [.inr (.inr 1), .inl x1] pv_SC (MC z2) (some (.inl y1))) (hrc1 : ∀ {x1 : Int} {z1 z2 : pv_H} {y1 : Int}, rc 1 x1 z1 = some (z2, y1) → CALL yX4_readAllOf cX4_readAllOf 4 (some .boolean) (d - 1) pv_SC (MC z1) [.inr (.inr 1), .inl x1] pv_SC (MC z2) (some (.inl y1))) (hrc2 : ∀ {x1 : Int} {z1 z2 : pv_H} {y1 : Int}, rc 2 x1 z1 = some (z2, y1) → CALL yX4_readFact cX4_readFact 4 (some .boolean) (d - 1) pv_SC (MC z1) [.inr (.inr 1), .inl x1] pv_SC (MC z2) (some (.inl y1)))    (hf : fX4_readFact_63 N rc  a1 s0 h = some (h', r)) : EV RX4 cX4_readFact 4 (some .boolean) false d pv_SC (MC h') (some (.inl r)) 63 [none, none, none, none] [.inl (s0)] pv_SC (MC h) := by
  unfold fX4_readFact_63 at hf
  obtain ⟨g43, hf⟩ := pv_gd hf
  exact FV.zret dX4_readFact_63 g43 hf

set_option maxHeartbeats 4000000 in
set_option maxRecDepth 20000 in
theorem tX4_readFact_62 {d N : Nat} {rc : Nat → Int → pv_H → Option (pv_H × Int)}  {a1 : Int}  {h h' : pv_H} {r : Int} (hd : 4 ≤ d) (hrc0 : ∀ {x1 : Int} {z1 z2 : pv_H} {y1 : Int}, rc 0 x1 z1 = some (z2, y1) → CALL yX4_readAnyOf cX4_readAnyOf 4 (some .boolean) (d - 1) pv_SC (MC z1) [.inr (.inr 1), .inl x1] pv_SC (MC z2) (some (.inl y1))) (hrc1 : ∀ {x1 : Int} {z1 z2 : pv_H} {y1 : Int}, rc 1 x1 z1 = some (z2, y1) → CALL yX4_readAllOf cX4_readAllOf 4 (some .boolean) (d - 1) pv_SC (MC z1) [.inr (.inr 1), .inl x1] pv_SC (MC z2) (some (.inl y1))) (hrc2 : ∀ {x1 : Int} {z1 z2 : pv_H} {y1 : Int}, rc 2 x1 z1 = some (z2, y1) → CALL yX4_readFact cX4_readFact 4 (some .boolean) (d - 1) pv_SC (MC z1) [.inr (.inr 1), .inl x1] pv_SC (MC z2) (some (.inl y1)))    (hf : fX4_readFact_62 N rc  a1  h = some (h', r)) : EV RX4 cX4_readFact 4 (some .boolean) false d pv_SC (MC h') (some (.inl r)) 62 [none, none, none, none] [] pv_SC (MC h) := by
  unfold fX4_readFact_62 at hf
  refine EV.iconst dX4_readFact_62 (by decide) (by decide) ?_
  refine EV.weak (L2 := [none, none, none, none]) trivial ?_
  exact tX4_readFact_63 hd hrc0 hrc1 hrc2    hf

set_option maxHeartbeats 4000000 in
set_option maxRecDepth 20000 in
theorem tX4_readFact_17 {d N : Nat} {rc : Nat → Int → pv_H → Option (pv_H × Int)}  {a1 : Int} {v2 : Int} {h h' : pv_H} {r : Int} (hd : 4 ≤ d) (hrc0 : ∀ {x1 : Int} {z1 z2 : pv_H} {y1 : Int}, rc 0 x1 z1 = some (z2, y1) → CALL yX4_readAnyOf cX4_readAnyOf 4 (some .boolean) (d - 1) pv_SC (MC z1) [.inr (.inr 1), .inl x1] pv_SC (MC z2) (some (.inl y1))) (hrc1 : ∀ {x1 : Int} {z1 z2 : pv_H} {y1 : Int}, rc 1 x1 z1 = some (z2, y1) → CALL yX4_readAllOf cX4_readAllOf 4 (some .boolean) (d - 1) pv_SC (MC z1) [.inr (.inr 1), .inl x1] pv_SC (MC z2) (some (.inl y1))) (hrc2 : ∀ {x1 : Int} {z1 z2 : pv_H} {y1 : Int}, rc 2 x1 z1 = some (z2, y1) → CALL yX4_readFact cX4_readFact 4 (some .boolean) (d - 1) pv_SC (MC z1) [.inr (.inr 1), .inl x1] pv_SC (MC z2) (some (.inl y1)))    (hf : fX4_readFact_17 N rc  a1 v2 h = some (h', r)) : EV RX4 cX4_readFact 4 (some .boolean) false d pv_SC (MC h') (some (.inl r)) 17 [some (.inr (.inr (1))), some (.inl (a1)), some (.inl (v2)), none] [] pv_SC (MC h) := by
  unfold fX4_readFact_17 at hf
  refine EV.iload_n dX4_readFact_17 rfl rfl ?_
  refine EV.bipush dX4_readFact_18 (by decide) (by decide) ?_
  refine EV.icmp_lt (tgt := 29) dX4_readFact_20 (by decide) (fun q14 => ?_) (fun q14 => ?_)
  · have hf := pv_gp hf q14
    refine EV.aload_n dX4_readFact_29 rfl rfl ?_
    obtain ⟨h16, hc15, hf⟩ := pv_c1o hf
    refine EV.invV (As := []) (st := []) (d1 := d - 1) (sh1 := pv_SC) (h1 := MC h16) (r1 := none) dX4_readFact_30 sc_1 (by decide) md_X4_next ml_X4_77 im_X4_next se_X4_next (tX4_next (by omega)  hc15) (by omega) rfl rfl (Nat.le_of_ble_eq_true rfl) ⟨[], (List.append_nil _).symm⟩ ?_
    refine EV.iload_n dX4_readFact_33 rfl rfl ?_
    refine EV.bipush dX4_readFact_34 (by decide) (by decide) ?_
    refine EV.icmp_ne (tgt := 64) dX4_readFact_36 (by decide) (fun q17 => ?_) (fun q17 => ?_)
    · have hf := pv_gn hf q17
      refine EV.aload_n dX4_readFact_64 rfl rfl ?_
      refine EV.iload_n dX4_readFact_65 rfl rfl ?_
      refine EV.iconst dX4_readFact_66 (by decide) (by decide) ?_
      refine EV.iadd dX4_readFact_67 ?_
      obtain ⟨h19, r20, hc18, hf⟩ := pv_c2o hf
      refine EV.invV (As := [.inl (pv_w (a1 + 1))]) (st := []) (d1 := d - 1) (sh1 := pv_SC) (h1 := MC h19) (r1 := (some (.inl r20))) dX4_readFact_68 sc_1 (by decide) md_X4_readFact ml_X4_174 im_X4_readFact se_X4_readFact (hrc2 hc18) (by omega) rfl rfl (Nat.le_of_ble_eq_true rfl) ⟨[], (List.append_nil _).symm⟩ ?_
      refine EV.eqS (st2 := [.inl (r20)]) rfl ?_
      refine FV.sti (L2 := [some (.inr (.inr (1))), some (.inl (a1)), some (.inl (v2)), some (.inl (r20))]) dX4_readFact_71 rfl (Nat.le_of_ble_eq_true rfl) rfl rfl ?_
      refine EV.aload_n dX4_readFact_72 rfl rfl ?_
      refine FV.getF (v := 14) dX4_readFact_73 sc_1 fl_4_39 rfl rfl hvc_1_6 ?_
      refine EV.bipush dX4_readFact_76 (by decide) (by decide) ?_
      refine EV.iconst dX4_readFact_78 (by decide) (by decide) ?_
      obtain ⟨h22, hc21, hf⟩ := pv_c1o hf
      refine EV.invV (As := [.inl (26), .inl (0)]) (st := []) (d1 := d - 1) (sh1 := pv_SC) (h1 := MC h22) (r1 := none) dX4_readFact_79 sc_14 (by decide) md_X3_tell ml_X4_171 im_X3_tell se_X3_tell (tX3_tell (by omega) ((by decide : 14 ∈ pv_l3)) hc21) (by omega) rfl rfl (Nat.le_of_ble_eq_true rfl) ⟨[], (List.append_nil _).symm⟩ ?_
      refine EV.iload_n dX4_readFact_82 rfl rfl ?_
      obtain ⟨g23, hf⟩ := pv_gd hf
      exact FV.zret dX4_readFact_83 g23 hf
    · have hf := pv_gp hf q17
      refine EV.aload_n dX4_readFact_39 rfl rfl ?_
      refine EV.iload_n dX4_readFact_40 rfl rfl ?_
      refine EV.iconst dX4_readFact_41 (by decide) (by decide) ?_
      refine EV.iadd dX4_readFact_42 ?_
      obtain ⟨h25, r26, hc24, hf⟩ := pv_c2o hf
      refine EV.invV (As := [.inl (pv_w (a1 + 1))]) (st := []) (d1 := d - 1) (sh1 := pv_SC) (h1 := MC h25) (r1 := (some (.inl r26))) dX4_readFact_43 sc_1 (by decide) md_X4_readAnyOf ml_X4_164 im_X4_readAnyOf se_X4_readAnyOf (hrc0 hc24) (by omega) rfl rfl (Nat.le_of_ble_eq_true rfl) ⟨[], (List.append_nil _).symm⟩ ?_
      refine EV.eqS (st2 := [.inl (r26)]) rfl ?_
      refine EV.if_eq (tgt := 62) dX4_readFact_46 (by decide) (fun q27 => ?_) (fun q27 => ?_)
      · have hf := pv_gp hf q27
        refine EV.weak (L2 := [none, none, none, none]) trivial ?_
        exact tX4_readFact_62 hd hrc0 hrc1 hrc2    hf
      · have hf := pv_gn hf q27
        refine EV.aload_n dX4_readFact_49 rfl rfl ?_
        refine EV.bipush dX4_readFact_50 (by decide) (by decide) ?_
        obtain ⟨h29, r30, hc28, hf⟩ := pv_c2o hf
        refine EV.invV (As := [.inl (44)]) (st := []) (d1 := d - 1) (sh1 := pv_SC) (h1 := MC h29) (r1 := (some (.inl r30))) dX4_readFact_52 sc_1 (by decide) md_X4_expect ml_X4_108 im_X4_expect se_X4_expect (tX4_expect (by omega)  hc28) (by omega) rfl rfl (Nat.le_of_ble_eq_true rfl) ⟨[], (List.append_nil _).symm⟩ ?_
        refine EV.eqS (st2 := [.inl (r30)]) rfl ?_
        refine EV.if_eq (tgt := 62) dX4_readFact_55 (by decide) (fun q31 => ?_) (fun q31 => ?_)
        · have hf := pv_gp hf q31
          refine EV.weak (L2 := [none, none, none, none]) trivial ?_
          exact tX4_readFact_62 hd hrc0 hrc1 hrc2    hf
        · have hf := pv_gn hf q31
          refine EV.iconst dX4_readFact_58 (by decide) (by decide) ?_
          refine EV.goto (tgt := 63) dX4_readFact_59 (by decide) ?_
          refine EV.weak (L2 := [none, none, none, none]) trivial ?_
          exact tX4_readFact_63 hd hrc0 hrc1 hrc2    hf
  · have hf := pv_gn hf q14
    refine EV.aload_n dX4_readFact_23 rfl rfl ?_
    refine EV.iconst dX4_readFact_24 (by decide) (by decide) ?_
    obtain ⟨h33, r34, hc32, hf⟩ := pv_c2o hf
    refine EV.invV (As := [.inl (5)]) (st := []) (d1 := d - 1) (sh1 := pv_SC) (h1 := MC h33) (r1 := (some (.inl r34))) dX4_readFact_25 sc_1 (by decide) md_X4_fail ml_X4_102 im_X4_fail se_X4_fail (tX4_fail (by omega)  hc32) (by omega) rfl rfl (Nat.le_of_ble_eq_true rfl) ⟨[], (List.append_nil _).symm⟩ ?_
    refine EV.eqS (st2 := [.inl (r34)]) rfl ?_
    obtain ⟨g35, hf⟩ := pv_gd hf
    exact FV.zret dX4_readFact_28 g35 hf

set_option maxHeartbeats 4000000 in
set_option maxRecDepth 20000 in
theorem tX4_readFact_96 {d N : Nat} {rc : Nat → Int → pv_H → Option (pv_H × Int)}  {a1 : Int}  {h h' : pv_H} {r : Int} (hd : 4 ≤ d) (hrc0 : ∀ {x1 : Int} {z1 z2 : pv_H} {y1 : Int}, rc 0 x1 z1 = some (z2, y1) → CALL yX4_readAnyOf cX4_readAnyOf 4 (some .boolean) (d - 1) pv_SC (MC z1) [.inr (.inr 1), .inl x1] pv_SC (MC z2) (some (.inl y1))) (hrc1 : ∀ {x1 : Int} {z1 z2 : pv_H} {y1 : Int}, rc 1 x1 z1 = some (z2, y1) → CALL yX4_readAllOf cX4_readAllOf 4 (some .boolean) (d - 1) pv_SC (MC z1) [.inr (.inr 1), .inl x1] pv_SC (MC z2) (some (.inl y1))) (hrc2 : ∀ {x1 : Int} {z1 z2 : pv_H} {y1 : Int}, rc 2 x1 z1 = some (z2, y1) → CALL yX4_readFact cX4_readFact 4 (some .boolean) (d - 1) pv_SC (MC z1) [.inr (.inr 1), .inl x1] pv_SC (MC z2) (some (.inl y1)))    (hf : fX4_readFact_96 N rc  a1  h = some (h', r)) : EV RX4 cX4_readFact 4 (some .boolean) false d pv_SC (MC h') (some (.inl r)) 96 [some (.inr (.inr (1))), none, none, none] [] pv_SC (MC h) := by
  unfold fX4_readFact_96 at hf
  refine EV.aload_n dX4_readFact_96 rfl rfl ?_
  refine EV.iconst dX4_readFact_97 (by decide) (by decide) ?_
  obtain ⟨h37, r38, hc36, hf⟩ := pv_c2o hf
  refine EV.invV (As := [.inl (2)]) (st := []) (d1 := d - 1) (sh1 := pv_SC) (h1 := MC h37) (r1 := (some (.inl r38))) dX4_readFact_98 sc_1 (by decide) md_X4_fail ml_X4_102 im_X4_fail se_X4_fail (tX4_fail (by omega)  hc36) (by omega) rfl rfl (Nat.le_of_ble_eq_true rfl) ⟨[], (List.append_nil _).symm⟩ ?_
  refine EV.eqS (st2 := [.inl (r38)]) rfl ?_
  obtain ⟨g39, hf⟩ := pv_gd hf
  exact FV.zret dX4_readFact_101 g39 hf

set_option maxHeartbeats 4000000 in
set_option maxRecDepth 20000 in
theorem tX4_readFact_130 {d N : Nat} {rc : Nat → Int → pv_H → Option (pv_H × Int)}  {a1 : Int} {v2 : Int} {s0 : Int} {h h' : pv_H} {r : Int} (hd : 4 ≤ d) (hrc0 : ∀ {x1 : Int} {z1 z2 : pv_H} {y1 : Int}, rc 0 x1 z1 = some (z2, y1) → CALL yX4_readAnyOf cX4_readAnyOf 4 (some .boolean) (d - 1) pv_SC (MC z1) [.inr (.inr 1), .inl x1] pv_SC (MC z2) (some (.inl y1))) (hrc1 : ∀ {x1 : Int} {z1 z2 : pv_H} {y1 : Int}, rc 1 x1 z1 = some (z2, y1) → CALL yX4_readAllOf cX4_readAllOf 4 (some .boolean) (d - 1) pv_SC (MC z1) [.inr (.inr 1), .inl x1] pv_SC (MC z2) (some (.inl y1))) (hrc2 : ∀ {x1 : Int} {z1 z2 : pv_H} {y1 : Int}, rc 2 x1 z1 = some (z2, y1) → CALL yX4_readFact cX4_readFact 4 (some .boolean) (d - 1) pv_SC (MC z1) [.inr (.inr 1), .inl x1] pv_SC (MC z2) (some (.inl y1)))    (hf : fX4_readFact_130 N rc  a1 v2 s0 h = some (h', r)) : EV RX4 cX4_readFact 4 (some .boolean) false d pv_SC (MC h') (some (.inl r)) 130 [some (.inr (.inr (1))), none, some (.inl (v2)), none] [.inl (s0)] pv_SC (MC h) := by
  unfold fX4_readFact_130 at hf
  refine FV.sti (L2 := [some (.inr (.inr (1))), none, some (.inl (v2)), some (.inl (s0))]) dX4_readFact_130 rfl (Nat.le_of_ble_eq_true rfl) rfl rfl ?_
  refine EV.iload_n dX4_readFact_131 rfl rfl ?_
  refine EV.iconst dX4_readFact_132 (by decide) (by decide) ?_
  refine EV.icmp_ne (tgt := 138) dX4_readFact_133 (by decide) (fun q40 => ?_) (fun q40 => ?_)
  · have hf := pv_gn hf q40
    refine EV.aload_n dX4_readFact_138 rfl rfl ?_
    refine FV.getF (v := 14) dX4_readFact_139 sc_1 fl_4_39 rfl rfl hvc_1_6 ?_
    refine EV.iload_n dX4_readFact_142 rfl rfl ?_
    refine EV.iload_n dX4_readFact_143 rfl rfl ?_
    obtain ⟨h42, hc41, hf⟩ := pv_c1o hf
    refine EV.invV (As := [.inl (v2), .inl (s0)]) (st := []) (d1 := d - 1) (sh1 := pv_SC) (h1 := MC h42) (r1 := none) dX4_readFact_144 sc_14 (by decide) md_X3_tell ml_X4_171 im_X3_tell se_X3_tell (tX3_tell (by omega) ((by decide : 14 ∈ pv_l3)) hc41) (by omega) rfl rfl (Nat.le_of_ble_eq_true rfl) ⟨[], (List.append_nil _).symm⟩ ?_
    refine EV.iconst dX4_readFact_147 (by decide) (by decide) ?_
    exact FV.zret dX4_readFact_148 (by decide) hf
  · have hf := pv_gp hf q40
    refine EV.iconst dX4_readFact_136 (by decide) (by decide) ?_
    exact FV.zret dX4_readFact_137 (by decide) hf

set_option maxHeartbeats 4000000 in
set_option maxRecDepth 20000 in
theorem tX4_readFact {d N : Nat} {rc : Nat → Int → pv_H → Option (pv_H × Int)} {a1 : Int} {h h' : pv_H} {r : Int} (hd : 4 ≤ d) (hrc0 : ∀ {x1 : Int} {z1 z2 : pv_H} {y1 : Int}, rc 0 x1 z1 = some (z2, y1) → CALL yX4_readAnyOf cX4_readAnyOf 4 (some .boolean) (d - 1) pv_SC (MC z1) [.inr (.inr 1), .inl x1] pv_SC (MC z2) (some (.inl y1))) (hrc1 : ∀ {x1 : Int} {z1 z2 : pv_H} {y1 : Int}, rc 1 x1 z1 = some (z2, y1) → CALL yX4_readAllOf cX4_readAllOf 4 (some .boolean) (d - 1) pv_SC (MC z1) [.inr (.inr 1), .inl x1] pv_SC (MC z2) (some (.inl y1))) (hrc2 : ∀ {x1 : Int} {z1 z2 : pv_H} {y1 : Int}, rc 2 x1 z1 = some (z2, y1) → CALL yX4_readFact cX4_readFact 4 (some .boolean) (d - 1) pv_SC (MC z1) [.inr (.inr 1), .inl x1] pv_SC (MC z2) (some (.inl y1)))  (hf : fX4_readFact N rc a1 h = some (h', r)) : CALL yX4_readFact cX4_readFact 4 (some .boolean) d pv_SC (MC h) [.inr (.inr (1)), .inl (a1)] pv_SC (MC h') (some (.inl r)) := by
  unfold fX4_readFact at hf
  refine EV.call (own := RX4) (ini := false) rfl rfl (fun q => by cases q) ⟨[], (List.append_nil _).symm⟩ (Nat.le_of_ble_eq_true rfl) ?_
  refine EV.eqL (L2 := [some (.inr (.inr (1))), some (.inl (a1)), none, none]) rfl ?_
  refine EV.aload_n dX4_readFact_0 rfl rfl ?_
  refine FV.getI dX4_readFact_1 sc_1 fl_4_83 rfl ?_
  obtain ⟨x1, ex1, hf⟩ := pv_bo hf
  refine FV.sti (L2 := [some (.inr (.inr (1))), some (.inl (a1)), some (.inl (x1)), none]) dX4_readFact_4 rfl (Nat.le_of_ble_eq_true rfl) ex1 rfl ?_
  refine EV.iload_n dX4_readFact_5 rfl rfl ?_
  refine EV.bipush dX4_readFact_6 (by decide) (by decide) ?_
  refine EV.icmp_eq (tgt := 17) dX4_readFact_8 (by decide) (fun q2 => ?_) (fun q2 => ?_)
  · have hf := pv_gp hf q2
    refine EV.weak (L2 := [some (.inr (.inr (1))), some (.inl (a1)), some (.inl (x1)), none]) (And.intro rfl (And.intro rfl (And.intro rfl trivial))) ?_
    exact tX4_readFact_17 hd hrc0 hrc1 hrc2    hf
  · have hf := pv_gn hf q2
    refine EV.iload_n dX4_readFact_11 rfl rfl ?_
    refine EV.bipush dX4_readFact_12 (by decide) (by decide) ?_
    refine EV.icmp_ne (tgt := 84) dX4_readFact_14 (by decide) (fun q3 => ?_) (fun q3 => ?_)
    · have hf := pv_gn hf q3
      refine EV.iload_n dX4_readFact_84 rfl rfl ?_
      refine EV.bipush dX4_readFact_85 (by decide) (by decide) ?_
      refine EV.icmp_lt (tgt := 96) dX4_readFact_87 (by decide) (fun q4 => ?_) (fun q4 => ?_)
      · have hf := pv_gp hf q4
        refine EV.weak (L2 := [some (.inr (.inr (1))), none, none, none]) (And.intro rfl trivial) ?_
        exact tX4_readFact_96 hd hrc0 hrc1 hrc2    hf
      · have hf := pv_gn hf q4
        refine EV.iload_n dX4_readFact_90 rfl rfl ?_
        refine EV.bipush dX4_readFact_91 (by decide) (by decide) ?_
        refine EV.icmp_le (tgt := 102) dX4_readFact_93 (by decide) (fun q5 => ?_) (fun q5 => ?_)
        · have hf := pv_gp hf q5
          refine EV.aload_n dX4_readFact_102 rfl rfl ?_
          obtain ⟨h7, hc6, hf⟩ := pv_c1o hf
          refine EV.invV (As := []) (st := []) (d1 := d - 1) (sh1 := pv_SC) (h1 := MC h7) (r1 := none) dX4_readFact_103 sc_1 (by decide) md_X4_next ml_X4_77 im_X4_next se_X4_next (tX4_next (by omega)  hc6) (by omega) rfl rfl (Nat.le_of_ble_eq_true rfl) ⟨[], (List.append_nil _).symm⟩ ?_
          refine EV.iload_n dX4_readFact_106 rfl rfl ?_
          refine EV.bipush dX4_readFact_107 (by decide) (by decide) ?_
          refine EV.icmp_gt (tgt := 116) dX4_readFact_109 (by decide) (fun q8 => ?_) (fun q8 => ?_)
          · have hf := pv_gp hf q8
            refine EV.aload_n dX4_readFact_116 rfl rfl ?_
            refine EV.gets1 dX4_readFact_117 fn_X4_111 ?_
            refine EV.iload_n dX4_readFact_120 rfl rfl ?_
            obtain ⟨g9, hf⟩ := pv_gd hf
            refine EV.tald1 dX4_readFact_121 g9.1 g9.2 ?_
            refine EV.gets2 dX4_readFact_122 fn_X4_115 ?_
            refine EV.iload_n dX4_readFact_125 rfl rfl ?_
            obtain ⟨g10, hf⟩ := pv_gd hf
            refine EV.tald2 dX4_readFact_126 g10.1 g10.2 ?_
            obtain ⟨h12, r13, hc11, hf⟩ := pv_c2o hf
            refine EV.invV (As := [.inl (pv_t1.getD (Int.toNat x1) 0), .inl (pv_t2.getD (Int.toNat x1) 0)]) (st := []) (d1 := d - 1) (sh1 := pv_SC) (h1 := MC h12) (r1 := (some (.inl r13))) dX4_readFact_127 sc_1 (by decide) md_X4_numberWithin ml_X4_118 im_X4_numberWithin se_X4_numberWithin (tX4_numberWithin (by omega)  hc11) (by omega) rfl rfl (Nat.le_of_ble_eq_true rfl) ⟨[], (List.append_nil _).symm⟩ ?_
            refine EV.eqS (st2 := [.inl (r13)]) rfl ?_
            refine EV.weak (L2 := [some (.inr (.inr (1))), none, some (.inl (x1)), none]) (And.intro rfl (And.intro rfl trivial)) ?_
            exact tX4_readFact_130 hd hrc0 hrc1 hrc2    hf
          · have hf := pv_gn hf q8
            refine EV.iconst dX4_readFact_112 (by decide) (by decide) ?_
            refine EV.goto (tgt := 130) dX4_readFact_113 (by decide) ?_
            refine EV.weak (L2 := [some (.inr (.inr (1))), none, some (.inl (x1)), none]) (And.intro rfl (And.intro rfl trivial)) ?_
            exact tX4_readFact_130 hd hrc0 hrc1 hrc2    hf
        · have hf := pv_gn hf q5
          refine EV.weak (L2 := [some (.inr (.inr (1))), none, none, none]) (And.intro rfl trivial) ?_
          exact tX4_readFact_96 hd hrc0 hrc1 hrc2    hf
    · have hf := pv_gp hf q3
      refine EV.weak (L2 := [some (.inr (.inr (1))), some (.inl (a1)), some (.inl (x1)), none]) (And.intro rfl (And.intro rfl (And.intro rfl trivial))) ?_
      exact tX4_readFact_17 hd hrc0 hrc1 hrc2    hf

noncomputable def fr_C (N : Nat) : Nat → Nat → Int → pv_H → Option (pv_H × Int)
  | 0, _, _, _ => none
  | n + 1, w, x, h => if w = 0 then fX4_readAnyOf N (fr_C N n) x h else if w = 1 then fX4_readAllOf N (fr_C N n) x h else fX4_readFact N (fr_C N n) x h
theorem tr_C (N : Nat) : ∀ (n d : Nat), 4 + n ≤ d → (∀ {x : Int} {z1 z2 : pv_H} {y1 : Int}, fr_C N n 0 x z1 = some (z2, y1) → CALL yX4_readAnyOf cX4_readAnyOf 4 (some .boolean) d pv_SC (MC z1) [.inr (.inr 1), .inl x] pv_SC (MC z2) (some (.inl y1))) ∧ (∀ {x : Int} {z1 z2 : pv_H} {y1 : Int}, fr_C N n 1 x z1 = some (z2, y1) → CALL yX4_readAllOf cX4_readAllOf 4 (some .boolean) d pv_SC (MC z1) [.inr (.inr 1), .inl x] pv_SC (MC z2) (some (.inl y1))) ∧ (∀ {x : Int} {z1 z2 : pv_H} {y1 : Int}, fr_C N n 2 x z1 = some (z2, y1) → CALL yX4_readFact cX4_readFact 4 (some .boolean) d pv_SC (MC z1) [.inr (.inr 1), .inl x] pv_SC (MC z2) (some (.inl y1))) := by
  intro n
  induction n with
  | zero =>
    intro d hd
    refine ⟨?_, ?_, ?_⟩ <;> intros <;> rename_i hf <;> cases hf
  | succ n ih =>
    intro d hd
    obtain ⟨i0, i1, i2⟩ := ih (d - 1) (by omega)
    refine ⟨?_, ?_, ?_⟩
    · intro x z1 z2 y1 hf
      rw [fr_C] at hf
      rw [if_pos rfl] at hf
      exact tX4_readAnyOf (by omega) i0 i1 i2 hf
    · intro x z1 z2 y1 hf
      rw [fr_C] at hf
      rw [if_neg (by decide), if_pos rfl] at hf
      exact tX4_readAllOf (by omega) i0 i1 i2 hf
    · intro x z1 z2 y1 hf
      rw [fr_C] at hf
      rw [if_neg (by decide), if_neg (by decide)] at hf
      exact tX4_readFact (by omega) i0 i1 i2 hf
theorem tr_C0 {d N : Nat} {x : Int} {z1 z2 : pv_H} {y1 : Int} (hd : 44 ≤ d) (hf : fr_C N 40 0 x z1 = some (z2, y1)) : CALL yX4_readAnyOf cX4_readAnyOf 4 (some .boolean) d pv_SC (MC z1) [.inr (.inr 1), .inl x] pv_SC (MC z2) (some (.inl y1)) := (tr_C N _ d hd).1 hf
theorem tr_C1 {d N : Nat} {x : Int} {z1 z2 : pv_H} {y1 : Int} (hd : 44 ≤ d) (hf : fr_C N 40 1 x z1 = some (z2, y1)) : CALL yX4_readAllOf cX4_readAllOf 4 (some .boolean) d pv_SC (MC z1) [.inr (.inr 1), .inl x] pv_SC (MC z2) (some (.inl y1)) := (tr_C N _ d hd).2.1 hf
theorem tr_C2 {d N : Nat} {x : Int} {z1 z2 : pv_H} {y1 : Int} (hd : 44 ≤ d) (hf : fr_C N 40 2 x z1 = some (z2, y1)) : CALL yX4_readFact cX4_readFact 4 (some .boolean) d pv_SC (MC z1) [.inr (.inr 1), .inl x] pv_SC (MC z2) (some (.inl y1)) := (tr_C N _ d hd).2.2 hf

noncomputable def fX4_readLooks_67 (N : Nat)    (h : pv_H) : Option (pv_H × Int) :=
  some (h, 0)

noncomputable def fX4_readLooks_106 (N : Nat)    (h : pv_H) : Option (pv_H × Int) :=
  some (h, 0)

noncomputable def fX4_readLooks_49 (N : Nat) (k9 : Int → pv_H → Option (pv_H × Int))  (v1 : Int) (h : pv_H) : Option (pv_H × Int) :=
  pv_c2b (fX4_expect N 22 h) fun h11 r12 => if r12 = 0 then (fX4_readLooks_67 N    h11) else (pv_c2b (fX4_expect N 23 h11) fun h15 r16 => if r16 = 0 then (fX4_readLooks_67 N    h15) else (if 0 ≤ v1 ∧ v1 < 9 then (if 0 ≤ pv_w (v1 + 1) ∧ pv_w (v1 + 1) < 9 then (pv_b (pv_up h15 15 (Int.toNat (pv_w (v1 + 1))) (h15 15 (Int.toNat (v1)))) fun h20 => pv_c2b (fr_C N 40 0 0 h20) fun h22 r23 => if r23 = 0 then (fX4_readLooks_106 N    h22) else (pv_c2b (fX4_expect N 42 h22) fun h26 r27 => if r27 = 0 then (fX4_readLooks_106 N    h26) else (pv_b (pv_up h26 14 0 (pv_w ((h26 14 0) + 1))) fun h29 => pv_b (pv_w (v1 + 1)) fun x30 => k9 (x30) h29))) else none) else none))

noncomputable def fX4_readLooks_9 (N : Nat)   : Nat → Int → pv_H → Option (pv_H × Int)
  | 0, _, _ => none
  | n + 1, v1, h => if 8 < v1 then (some (h, 0)) else (if (h 1 11) = 45 then (some (h, v1)) else (if (h 1 11) = 22 then (if v1 = 8 then (pv_c2b (fX4_fail N 4 h) fun h8 r9 => some (h8, 0)) else (fX4_readLooks_49 N (fun v1_ hh => fX4_readLooks_9 N   n v1_ hh)  (v1) h)) else (fX4_readLooks_49 N (fun v1_ hh => fX4_readLooks_9 N   n v1_ hh)  (v1) h)))

noncomputable def fX4_readLooks (N : Nat)  (h : pv_H) : Option (pv_H × Int) :=
  pv_c1 (fX3_begin N 14 h) fun h2 => fX4_readLooks_9 N   N (0) h2

set_option maxHeartbeats 4000000 in
set_option maxRecDepth 20000 in
theorem tX4_readLooks_67 {d N : Nat}    {h h' : pv_H} {r : Int} (hd : 46 ≤ d)    (hf : fX4_readLooks_67 N    h = some (h', r)) : EV RX4 cX4_readLooks 2 (some .int) false d pv_SC (MC h') (some (.inl r)) 67 [none, none] [] pv_SC (MC h) := by
  unfold fX4_readLooks_67 at hf
  refine EV.iconst dX4_readLooks_67 (by decide) (by decide) ?_
  exact FV.iret dX4_readLooks_68 hf

set_option maxHeartbeats 4000000 in
set_option maxRecDepth 20000 in
theorem tX4_readLooks_106 {d N : Nat}    {h h' : pv_H} {r : Int} (hd : 46 ≤ d)    (hf : fX4_readLooks_106 N    h = some (h', r)) : EV RX4 cX4_readLooks 2 (some .int) false d pv_SC (MC h') (some (.inl r)) 106 [none, none] [] pv_SC (MC h) := by
  unfold fX4_readLooks_106 at hf
  refine EV.iconst dX4_readLooks_106 (by decide) (by decide) ?_
  exact FV.iret dX4_readLooks_107 hf

set_option maxHeartbeats 4000000 in
set_option maxRecDepth 20000 in
theorem tX4_readLooks_49 {d N : Nat} {k9 : Int → pv_H → Option (pv_H × Int)}  {v1 : Int} {h h' : pv_H} {r : Int} (hd : 46 ≤ d) (hk9 : ∀ (v1 : Int)  (hh : pv_H), k9 v1 hh = some (h', r) → EV RX4 cX4_readLooks 2 (some .int) false d pv_SC (MC h') (some (.inl r)) 9 [some (.inr (.inr (1))), some (.inl (v1))] [] pv_SC (MC hh))   (hf : fX4_readLooks_49 N k9  v1 h = some (h', r)) : EV RX4 cX4_readLooks 2 (some .int) false d pv_SC (MC h') (some (.inl r)) 49 [some (.inr (.inr (1))), some (.inl (v1))] [] pv_SC (MC h) := by
  unfold fX4_readLooks_49 at hf
  refine EV.aload_n dX4_readLooks_49 rfl rfl ?_
  refine EV.bipush dX4_readLooks_50 (by decide) (by decide) ?_
  obtain ⟨h11, r12, hc10, hf⟩ := pv_c2o hf
  refine EV.invV (As := [.inl (22)]) (st := []) (d1 := d - 1) (sh1 := pv_SC) (h1 := MC h11) (r1 := (some (.inl r12))) dX4_readLooks_52 sc_1 (by decide) md_X4_expect ml_X4_108 im_X4_expect se_X4_expect (tX4_expect (by omega)  hc10) (by omega) rfl rfl (Nat.le_of_ble_eq_true rfl) ⟨[], (List.append_nil _).symm⟩ ?_
  refine EV.eqS (st2 := [.inl (r12)]) rfl ?_
  refine EV.if_eq (tgt := 67) dX4_readLooks_55 (by decide) (fun q13 => ?_) (fun q13 => ?_)
  · have hf := pv_gp hf q13
    refine EV.weak (L2 := [none, none]) trivial ?_
    exact tX4_readLooks_67 hd    hf
  · have hf := pv_gn hf q13
    refine EV.aload_n dX4_readLooks_58 rfl rfl ?_
    refine EV.bipush dX4_readLooks_59 (by decide) (by decide) ?_
    obtain ⟨h15, r16, hc14, hf⟩ := pv_c2o hf
    refine EV.invV (As := [.inl (23)]) (st := []) (d1 := d - 1) (sh1 := pv_SC) (h1 := MC h15) (r1 := (some (.inl r16))) dX4_readLooks_61 sc_1 (by decide) md_X4_expect ml_X4_108 im_X4_expect se_X4_expect (tX4_expect (by omega)  hc14) (by omega) rfl rfl (Nat.le_of_ble_eq_true rfl) ⟨[], (List.append_nil _).symm⟩ ?_
    refine EV.eqS (st2 := [.inl (r16)]) rfl ?_
    refine EV.if_ne (tgt := 69) dX4_readLooks_64 (by decide) (fun q17 => ?_) (fun q17 => ?_)
    · have hf := pv_gn hf q17
      refine EV.aload_n dX4_readLooks_69 rfl rfl ?_
      refine FV.getF (v := 14) dX4_readLooks_70 sc_1 fl_4_39 rfl rfl hvc_1_6 ?_
      refine FV.getF (v := 15) dX4_readLooks_73 sc_14 fl_4_161 rfl rfl hvc_14_1 ?_
      refine EV.iload_n dX4_readLooks_76 rfl rfl ?_
      refine EV.iconst dX4_readLooks_77 (by decide) (by decide) ?_
      refine EV.iadd dX4_readLooks_78 ?_
      refine EV.aload_n dX4_readLooks_79 rfl rfl ?_
      refine FV.getF (v := 14) dX4_readLooks_80 sc_1 fl_4_39 rfl rfl hvc_1_6 ?_
      refine FV.getF (v := 15) dX4_readLooks_83 sc_14 fl_4_161 rfl rfl hvc_14_1 ?_
      refine EV.iload_n dX4_readLooks_86 rfl rfl ?_
      obtain ⟨g18, hf⟩ := pv_gd hf
      refine FV.iald dX4_readLooks_87 sc_15 g18.1 g18.2 (j := (Int.toNat (v1))) rfl ?_
      obtain ⟨g19, hf⟩ := pv_gd hf
      obtain ⟨h20, eh20, hf⟩ := pv_bo hf
      refine FV.iast dX4_readLooks_88 sc_15 g19.1 g19.2 (j := (Int.toNat (pv_w (v1 + 1)))) rfl eh20 ?_
      refine EV.aload_n dX4_readLooks_89 rfl rfl ?_
      refine EV.iconst dX4_readLooks_90 (by decide) (by decide) ?_
      obtain ⟨h22, r23, hc21, hf⟩ := pv_c2o hf
      refine EV.invV (As := [.inl (0)]) (st := []) (d1 := d - 1) (sh1 := pv_SC) (h1 := MC h22) (r1 := (some (.inl r23))) dX4_readLooks_91 sc_1 (by decide) md_X4_readAnyOf ml_X4_164 im_X4_readAnyOf se_X4_readAnyOf (tr_C0 (by omega) hc21) (by omega) rfl rfl (Nat.le_of_ble_eq_true rfl) ⟨[], (List.append_nil _).symm⟩ ?_
      refine EV.eqS (st2 := [.inl (r23)]) rfl ?_
      refine EV.if_eq (tgt := 106) dX4_readLooks_94 (by decide) (fun q24 => ?_) (fun q24 => ?_)
      · have hf := pv_gp hf q24
        refine EV.weak (L2 := [none, none]) trivial ?_
        exact tX4_readLooks_106 hd    hf
      · have hf := pv_gn hf q24
        refine EV.aload_n dX4_readLooks_97 rfl rfl ?_
        refine EV.bipush dX4_readLooks_98 (by decide) (by decide) ?_
        obtain ⟨h26, r27, hc25, hf⟩ := pv_c2o hf
        refine EV.invV (As := [.inl (42)]) (st := []) (d1 := d - 1) (sh1 := pv_SC) (h1 := MC h26) (r1 := (some (.inl r27))) dX4_readLooks_100 sc_1 (by decide) md_X4_expect ml_X4_108 im_X4_expect se_X4_expect (tX4_expect (by omega)  hc25) (by omega) rfl rfl (Nat.le_of_ble_eq_true rfl) ⟨[], (List.append_nil _).symm⟩ ?_
        refine EV.eqS (st2 := [.inl (r27)]) rfl ?_
        refine EV.if_ne (tgt := 108) dX4_readLooks_103 (by decide) (fun q28 => ?_) (fun q28 => ?_)
        · have hf := pv_gn hf q28
          refine EV.aload_n dX4_readLooks_108 rfl rfl ?_
          refine FV.getF (v := 14) dX4_readLooks_109 sc_1 fl_4_39 rfl rfl hvc_1_6 ?_
          refine EV.dup dX4_readLooks_112 rfl ?_
          refine FV.getI dX4_readLooks_113 sc_14 fl_4_167 rfl ?_
          refine EV.iconst dX4_readLooks_116 (by decide) (by decide) ?_
          refine EV.iadd dX4_readLooks_117 ?_
          obtain ⟨h29, eh29, hf⟩ := pv_bo hf
          refine FV.putI dX4_readLooks_118 sc_14 fl_4_167 rfl rfl eh29 ?_
          obtain ⟨x30, ex30, hf⟩ := pv_bo hf
          refine FV.inc (L2 := [some (.inr (.inr (1))), some (.inl (x30))]) dX4_readLooks_121 rfl (Nat.le_of_ble_eq_true rfl) ex30 rfl ?_
          refine EV.goto (tgt := 9) dX4_readLooks_124 (by decide) ?_
          refine EV.weak (L2 := [some (.inr (.inr (1))), some (.inl (x30))]) (And.intro rfl (And.intro rfl trivial)) ?_
          exact hk9 _  _ hf
        · have hf := pv_gp hf q28
          refine EV.weak (L2 := [none, none]) trivial ?_
          exact tX4_readLooks_106 hd    hf
    · have hf := pv_gp hf q17
      refine EV.weak (L2 := [none, none]) trivial ?_
      exact tX4_readLooks_67 hd    hf

set_option maxHeartbeats 4000000 in
set_option maxRecDepth 20000 in
theorem tX4_readLooks_9 {d N : Nat}   {h' : pv_H} {r : Int} (hd : 46 ≤ d)   : ∀ (n : Nat) (v1 : Int)  (h : pv_H), fX4_readLooks_9 N   n v1 h = some (h', r) → EV RX4 cX4_readLooks 2 (some .int) false d pv_SC (MC h') (some (.inl r)) 9 [some (.inr (.inr (1))), some (.inl (v1))] [] pv_SC (MC h) := by
  intro n
  induction n with
  | zero =>
    intro v1  h hf
    cases hf
  | succ n ih =>
    intro v1  h hf
    rw [fX4_readLooks_9] at hf
    refine EV.iload_n dX4_readLooks_9 rfl rfl ?_
    refine EV.bipush dX4_readLooks_10 (by decide) (by decide) ?_
    refine EV.icmp_gt (tgt := 127) dX4_readLooks_12 (by decide) (fun q3 => ?_) (fun q3 => ?_)
    · have hf := pv_gp hf q3
      refine EV.iconst dX4_readLooks_127 (by decide) (by decide) ?_
      exact FV.iret dX4_readLooks_128 hf
    · have hf := pv_gn hf q3
      refine EV.aload_n dX4_readLooks_15 rfl rfl ?_
      refine FV.getI dX4_readLooks_16 sc_1 fl_4_83 rfl ?_
      refine EV.bipush dX4_readLooks_19 (by decide) (by decide) ?_
      refine EV.icmp_ne (tgt := 26) dX4_readLooks_21 (by decide) (fun q4 => ?_) (fun q4 => ?_)
      · have hf := pv_gn hf q4
        refine EV.aload_n dX4_readLooks_26 rfl rfl ?_
        refine FV.getI dX4_readLooks_27 sc_1 fl_4_83 rfl ?_
        refine EV.bipush dX4_readLooks_30 (by decide) (by decide) ?_
        refine EV.icmp_ne (tgt := 49) dX4_readLooks_32 (by decide) (fun q5 => ?_) (fun q5 => ?_)
        · have hf := pv_gn hf q5
          refine EV.weak (L2 := [some (.inr (.inr (1))), some (.inl (v1))]) (And.intro rfl (And.intro rfl trivial)) ?_
          exact tX4_readLooks_49 hd (ih)   hf
        · have hf := pv_gp hf q5
          refine EV.iload_n dX4_readLooks_35 rfl rfl ?_
          refine EV.bipush dX4_readLooks_36 (by decide) (by decide) ?_
          refine EV.icmp_ne (tgt := 49) dX4_readLooks_38 (by decide) (fun q6 => ?_) (fun q6 => ?_)
          · have hf := pv_gn hf q6
            refine EV.weak (L2 := [some (.inr (.inr (1))), some (.inl (v1))]) (And.intro rfl (And.intro rfl trivial)) ?_
            exact tX4_readLooks_49 hd (ih)   hf
          · have hf := pv_gp hf q6
            refine EV.aload_n dX4_readLooks_41 rfl rfl ?_
            refine EV.iconst dX4_readLooks_42 (by decide) (by decide) ?_
            obtain ⟨h8, r9, hc7, hf⟩ := pv_c2o hf
            refine EV.invV (As := [.inl (4)]) (st := []) (d1 := d - 1) (sh1 := pv_SC) (h1 := MC h8) (r1 := (some (.inl r9))) dX4_readLooks_43 sc_1 (by decide) md_X4_fail ml_X4_102 im_X4_fail se_X4_fail (tX4_fail (by omega)  hc7) (by omega) rfl rfl (Nat.le_of_ble_eq_true rfl) ⟨[], (List.append_nil _).symm⟩ ?_
            refine EV.eqS (st2 := [.inl (r9)]) rfl ?_
            refine EV.pop dX4_readLooks_46 rfl ?_
            refine EV.iconst dX4_readLooks_47 (by decide) (by decide) ?_
            exact FV.iret dX4_readLooks_48 hf
      · have hf := pv_gp hf q4
        refine EV.iload_n dX4_readLooks_24 rfl rfl ?_
        exact FV.iret dX4_readLooks_25 hf

set_option maxHeartbeats 4000000 in
set_option maxRecDepth 20000 in
theorem tX4_readLooks {d N : Nat}  {h h' : pv_H} {r : Int} (hd : 46 ≤ d)  (hf : fX4_readLooks N  h = some (h', r)) : CALL yX4_readLooks cX4_readLooks 2 (some .int) d pv_SC (MC h) [.inr (.inr (1))] pv_SC (MC h') (some (.inl r)) := by
  unfold fX4_readLooks at hf
  refine EV.call (own := RX4) (ini := false) rfl rfl (fun q => by cases q) ⟨[], (List.append_nil _).symm⟩ (Nat.le_of_ble_eq_true rfl) ?_
  refine EV.eqL (L2 := [some (.inr (.inr (1))), none]) rfl ?_
  refine EV.aload_n dX4_readLooks_0 rfl rfl ?_
  refine FV.getF (v := 14) dX4_readLooks_1 sc_1 fl_4_39 rfl rfl hvc_1_6 ?_
  obtain ⟨h2, hc1, hf⟩ := pv_c1o hf
  refine EV.invV (As := []) (st := []) (d1 := d - 1) (sh1 := pv_SC) (h1 := MC h2) (r1 := none) dX4_readLooks_4 sc_14 (by decide) md_X3_begin ml_X4_160 im_X3_begin se_X3_begin (tX3_begin (by omega) ((by decide : 14 ∈ pv_l3)) hc1) (by omega) rfl rfl (Nat.le_of_ble_eq_true rfl) ⟨[], (List.append_nil _).symm⟩ ?_
  refine EV.iconst dX4_readLooks_7 (by decide) (by decide) ?_
  refine FV.sti (L2 := [some (.inr (.inr (1))), some (.inl (0))]) dX4_readLooks_8 rfl (Nat.le_of_ble_eq_true rfl) rfl rfl ?_
  refine EV.weak (L2 := [some (.inr (.inr (1))), some (.inl (0))]) (And.intro rfl (And.intro rfl trivial)) ?_
  exact tX4_readLooks_9 hd   _ _  _ hf
