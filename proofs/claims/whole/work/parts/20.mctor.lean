def pv_sm : pv_Sh := [(0, 10), (1, 8), (1, 9159), (3, 2), (1, 400), (1, 417), (1, 60), (1, 60), (1, 60), (1, 60), (1, 60), (1, 60), (1, 4000), (1, 4000), (1, 12), (1, 12), (1, 12), (3, 60), (3, 60), (3, 200), (1, 60), (1, 60), (1, 60), (1, 60), (1, 61), (1, 200), (1, 200), (1, 200), (1, 200), (1, 200), (1, 200), (1, 200), (3, 220), (1, 4), (1, 4), (2, 240)]
def pv_SM : pv_Sh := pv_sm
def pv_muM (_ _ : Nat) : Bool := false
def hM_0 : pv_H := pv_ur (fun _ _ => 0) 0 (pv_nr 10)
def hM_1 : pv_H := pv_ur hM_0 1 (fun _ => 0)
def hM_2 : pv_H := pv_up hM_1 0 1 (1)
def hM_3 : pv_H := pv_ur hM_2 2 (fun _ => 0)
def hM_4 : pv_H := pv_up hM_3 0 2 (2)
def hM_5 : pv_H := pv_ur hM_4 3 (fun _ => 0)
def hM_6 : pv_H := pv_up hM_5 0 3 (3)
def hM_7 : pv_H := pv_ur hM_6 4 (fun _ => 0)
def hM_8 : pv_H := pv_up hM_7 0 4 (4)
def hM_9 : pv_H := pv_ur hM_8 5 (fun _ => 0)
def hM_10 : pv_H := pv_up hM_9 0 5 (5)
def hM_11 : pv_H := pv_up hM_10 0 16 (-1)
def hM_12 : pv_H := pv_ur hM_11 6 (fun _ => 0)
def hM_13 : pv_H := pv_up hM_12 0 21 (6)
def hM_14 : pv_H := pv_ur hM_13 7 (fun _ => 0)
def hM_15 : pv_H := pv_up hM_14 0 22 (7)
def hM_16 : pv_H := pv_ur hM_15 8 (fun _ => 0)
def hM_17 : pv_H := pv_up hM_16 0 23 (8)
def hM_18 : pv_H := pv_ur hM_17 9 (fun _ => 0)
def hM_19 : pv_H := pv_up hM_18 0 24 (9)
def hM_20 : pv_H := pv_ur hM_19 10 (fun _ => 0)
def hM_21 : pv_H := pv_up hM_20 0 25 (10)
def hM_22 : pv_H := pv_ur hM_21 11 (fun _ => 0)
def hM_23 : pv_H := pv_up hM_22 0 26 (11)
def hM_24 : pv_H := pv_ur hM_23 12 (fun _ => 0)
def hM_25 : pv_H := pv_up hM_24 0 31 (12)
def hM_26 : pv_H := pv_ur hM_25 13 (fun _ => 0)
def hM_27 : pv_H := pv_up hM_26 0 32 (13)
def hM_28 : pv_H := pv_ur hM_27 14 (fun _ => 0)
def hM_29 : pv_H := pv_up hM_28 0 33 (14)
def hM_30 : pv_H := pv_ur hM_29 15 (fun _ => 0)
def hM_31 : pv_H := pv_up hM_30 0 34 (15)
def hM_32 : pv_H := pv_ur hM_31 16 (fun _ => 0)
def hM_33 : pv_H := pv_up hM_32 0 35 (16)
def hM_34 : pv_H := pv_ur hM_33 17 (fun _ => 0)
def hM_35 : pv_H := pv_up hM_34 0 44 (17)
def hM_36 : pv_H := pv_ur hM_35 18 (fun _ => 0)
def hM_37 : pv_H := pv_up hM_36 0 45 (18)
def hM_38 : pv_H := pv_ur hM_37 19 (fun _ => 0)
def hM_39 : pv_H := pv_up hM_38 0 46 (19)
def hM_40 : pv_H := pv_ur hM_39 20 (fun _ => 0)
def hM_41 : pv_H := pv_up hM_40 0 47 (20)
def hM_42 : pv_H := pv_ur hM_41 21 (fun _ => 0)
def hM_43 : pv_H := pv_up hM_42 0 48 (21)
def hM_44 : pv_H := pv_ur hM_43 22 (fun _ => 0)
def hM_45 : pv_H := pv_up hM_44 0 49 (22)
def hM_46 : pv_H := pv_ur hM_45 23 (fun _ => 0)
def hM_47 : pv_H := pv_up hM_46 0 50 (23)
def hM_48 : pv_H := pv_ur hM_47 24 (fun _ => 0)
def hM_49 : pv_H := pv_up hM_48 0 51 (24)
def hM_50 : pv_H := pv_ur hM_49 25 (fun _ => 0)
def hM_51 : pv_H := pv_up hM_50 0 52 (25)
def hM_52 : pv_H := pv_ur hM_51 26 (fun _ => 0)
def hM_53 : pv_H := pv_up hM_52 0 53 (26)
def hM_54 : pv_H := pv_ur hM_53 27 (fun _ => 0)
def hM_55 : pv_H := pv_up hM_54 0 54 (27)
def hM_56 : pv_H := pv_ur hM_55 28 (fun _ => 0)
def hM_57 : pv_H := pv_up hM_56 0 55 (28)
def hM_58 : pv_H := pv_ur hM_57 29 (fun _ => 0)
def hM_59 : pv_H := pv_up hM_58 0 56 (29)
def hM_60 : pv_H := pv_ur hM_59 30 (fun _ => 0)
def hM_61 : pv_H := pv_up hM_60 0 57 (30)
def hM_62 : pv_H := pv_ur hM_61 31 (fun _ => 0)
def hM_63 : pv_H := pv_up hM_62 0 58 (31)
def hM_64 : pv_H := pv_ur hM_63 32 (fun _ => 0)
def hM_65 : pv_H := pv_up hM_64 0 62 (32)
def hM_66 : pv_H := pv_ur hM_65 33 (fun _ => 0)
def hM_67 : pv_H := pv_up hM_66 33 0 (-1)
def hM_68 : pv_H := pv_up hM_67 33 1 (-1)
def hM_69 : pv_H := pv_up hM_68 33 2 (-1)
def hM_70 : pv_H := pv_up hM_69 33 3 (-1)
def hM_71 : pv_H := pv_up hM_70 0 63 (33)
def hM_72 : pv_H := pv_ur hM_71 34 (fun _ => 0)
def hM_73 : pv_H := pv_up hM_72 0 64 (34)
def hM_74 : pv_H := pv_ur hM_73 35 (fun _ => 0)
def hM_75 : pv_H := pv_up hM_74 0 65 (35)
abbrev MM (h : pv_H) : pv_H := pv_mx pv_SM pv_muM hM_75 h
theorem sm_0 : pv_SM[0]? = some (0, 10) := by decide +kernel
theorem sm_1 : pv_SM[1]? = some (1, 8) := by decide +kernel
theorem sm_2 : pv_SM[2]? = some (1, 9159) := by decide +kernel
theorem sm_3 : pv_SM[3]? = some (3, 2) := by decide +kernel
theorem sm_4 : pv_SM[4]? = some (1, 400) := by decide +kernel
theorem sm_5 : pv_SM[5]? = some (1, 417) := by decide +kernel
theorem sm_6 : pv_SM[6]? = some (1, 60) := by decide +kernel
theorem sm_7 : pv_SM[7]? = some (1, 60) := by decide +kernel
theorem sm_8 : pv_SM[8]? = some (1, 60) := by decide +kernel
theorem sm_9 : pv_SM[9]? = some (1, 60) := by decide +kernel
theorem sm_10 : pv_SM[10]? = some (1, 60) := by decide +kernel
theorem sm_11 : pv_SM[11]? = some (1, 60) := by decide +kernel
theorem sm_12 : pv_SM[12]? = some (1, 4000) := by decide +kernel
theorem sm_13 : pv_SM[13]? = some (1, 4000) := by decide +kernel
theorem sm_14 : pv_SM[14]? = some (1, 12) := by decide +kernel
theorem sm_15 : pv_SM[15]? = some (1, 12) := by decide +kernel
theorem sm_16 : pv_SM[16]? = some (1, 12) := by decide +kernel
theorem sm_17 : pv_SM[17]? = some (3, 60) := by decide +kernel
theorem sm_18 : pv_SM[18]? = some (3, 60) := by decide +kernel
theorem sm_19 : pv_SM[19]? = some (3, 200) := by decide +kernel
theorem sm_20 : pv_SM[20]? = some (1, 60) := by decide +kernel
theorem sm_21 : pv_SM[21]? = some (1, 60) := by decide +kernel
theorem sm_22 : pv_SM[22]? = some (1, 60) := by decide +kernel
theorem sm_23 : pv_SM[23]? = some (1, 60) := by decide +kernel
theorem sm_24 : pv_SM[24]? = some (1, 61) := by decide +kernel
theorem sm_25 : pv_SM[25]? = some (1, 200) := by decide +kernel
theorem sm_26 : pv_SM[26]? = some (1, 200) := by decide +kernel
theorem sm_27 : pv_SM[27]? = some (1, 200) := by decide +kernel
theorem sm_28 : pv_SM[28]? = some (1, 200) := by decide +kernel
theorem sm_29 : pv_SM[29]? = some (1, 200) := by decide +kernel
theorem sm_30 : pv_SM[30]? = some (1, 200) := by decide +kernel
theorem sm_31 : pv_SM[31]? = some (1, 200) := by decide +kernel
theorem sm_32 : pv_SM[32]? = some (3, 220) := by decide +kernel
theorem sm_33 : pv_SM[33]? = some (1, 4) := by decide +kernel
theorem sm_34 : pv_SM[34]? = some (1, 4) := by decide +kernel
theorem sm_35 : pv_SM[35]? = some (2, 240) := by decide +kernel
theorem hvm_0_1 : hM_75 0 1 = ((1 : Nat) : Int) := by decide +kernel
theorem hvm_0_2 : hM_75 0 2 = ((2 : Nat) : Int) := by decide +kernel
theorem hvm_0_3 : hM_75 0 3 = ((3 : Nat) : Int) := by decide +kernel
theorem hvm_0_4 : hM_75 0 4 = ((4 : Nat) : Int) := by decide +kernel
theorem hvm_0_5 : hM_75 0 5 = ((5 : Nat) : Int) := by decide +kernel
theorem hvm_0_21 : hM_75 0 21 = ((6 : Nat) : Int) := by decide +kernel
theorem hvm_0_22 : hM_75 0 22 = ((7 : Nat) : Int) := by decide +kernel
theorem hvm_0_23 : hM_75 0 23 = ((8 : Nat) : Int) := by decide +kernel
theorem hvm_0_24 : hM_75 0 24 = ((9 : Nat) : Int) := by decide +kernel
theorem hvm_0_25 : hM_75 0 25 = ((10 : Nat) : Int) := by decide +kernel
theorem hvm_0_26 : hM_75 0 26 = ((11 : Nat) : Int) := by decide +kernel
theorem hvm_0_31 : hM_75 0 31 = ((12 : Nat) : Int) := by decide +kernel
theorem hvm_0_32 : hM_75 0 32 = ((13 : Nat) : Int) := by decide +kernel
theorem hvm_0_33 : hM_75 0 33 = ((14 : Nat) : Int) := by decide +kernel
theorem hvm_0_34 : hM_75 0 34 = ((15 : Nat) : Int) := by decide +kernel
theorem hvm_0_35 : hM_75 0 35 = ((16 : Nat) : Int) := by decide +kernel
theorem hvm_0_44 : hM_75 0 44 = ((17 : Nat) : Int) := by decide +kernel
theorem hvm_0_45 : hM_75 0 45 = ((18 : Nat) : Int) := by decide +kernel
theorem hvm_0_46 : hM_75 0 46 = ((19 : Nat) : Int) := by decide +kernel
theorem hvm_0_47 : hM_75 0 47 = ((20 : Nat) : Int) := by decide +kernel
theorem hvm_0_48 : hM_75 0 48 = ((21 : Nat) : Int) := by decide +kernel
theorem hvm_0_49 : hM_75 0 49 = ((22 : Nat) : Int) := by decide +kernel
theorem hvm_0_50 : hM_75 0 50 = ((23 : Nat) : Int) := by decide +kernel
theorem hvm_0_51 : hM_75 0 51 = ((24 : Nat) : Int) := by decide +kernel
theorem hvm_0_52 : hM_75 0 52 = ((25 : Nat) : Int) := by decide +kernel
theorem hvm_0_53 : hM_75 0 53 = ((26 : Nat) : Int) := by decide +kernel
theorem hvm_0_54 : hM_75 0 54 = ((27 : Nat) : Int) := by decide +kernel
theorem hvm_0_55 : hM_75 0 55 = ((28 : Nat) : Int) := by decide +kernel
theorem hvm_0_56 : hM_75 0 56 = ((29 : Nat) : Int) := by decide +kernel
theorem hvm_0_57 : hM_75 0 57 = ((30 : Nat) : Int) := by decide +kernel
theorem hvm_0_58 : hM_75 0 58 = ((31 : Nat) : Int) := by decide +kernel
theorem hvm_0_62 : hM_75 0 62 = ((32 : Nat) : Int) := by decide +kernel
theorem hvm_0_63 : hM_75 0 63 = ((33 : Nat) : Int) := by decide +kernel
theorem hvm_0_64 : hM_75 0 64 = ((34 : Nat) : Int) := by decide +kernel
theorem hvm_0_65 : hM_75 0 65 = ((35 : Nat) : Int) := by decide +kernel
noncomputable def fX10_plainLaw_107 (N : Nat) (k4 : Int → pv_H → Option (pv_H)) (a1 : Int) (v2 : Int) (h : pv_H) : Option (pv_H) :=
  pv_b (pv_w (v2 + 1)) fun x13 => k4 (x13) h

noncomputable def fX10_plainLaw_81 (N : Nat) (k4 : Int → pv_H → Option (pv_H)) (a1 : Int) (v2 : Int) (s0 : Int) (h : pv_H) : Option (pv_H) :=
  if a1 = 0 then (if 0 ≤ v2 ∧ v2 < 9159 then (pv_b (pv_up h 2 (Int.toNat (v2)) s0) fun h12 => fX10_plainLaw_107 N (k4) a1 (v2) h12) else none) else (if 0 ≤ pv_w (v2 - 1116) ∧ pv_w (v2 - 1116) < 417 then (pv_b (pv_up h 5 (Int.toNat (pv_w (v2 - 1116))) s0) fun h10 => fX10_plainLaw_107 N (k4) a1 (v2) h10) else none)

noncomputable def fX10_plainLaw_4 (N : Nat)  (a1 : Int) : Nat → Int → pv_H → Option (pv_H)
  | 0, _, _ => none
  | n + 1, v2, h => if 1124 < v2 then (some h) else (if v2 = 1116 then (fX10_plainLaw_81 N (fun v2_ hh => fX10_plainLaw_4 N  a1 n v2_ hh) a1 (v2) (100) h) else (if v2 = 1117 then (fX10_plainLaw_81 N (fun v2_ hh => fX10_plainLaw_4 N  a1 n v2_ hh) a1 (v2) (5) h) else (if v2 = 1118 then (fX10_plainLaw_81 N (fun v2_ hh => fX10_plainLaw_4 N  a1 n v2_ hh) a1 (v2) (2) h) else (if v2 = 1119 then (fX10_plainLaw_81 N (fun v2_ hh => fX10_plainLaw_4 N  a1 n v2_ hh) a1 (v2) (1) h) else (if v2 = 1120 then (fX10_plainLaw_81 N (fun v2_ hh => fX10_plainLaw_4 N  a1 n v2_ hh) a1 (v2) (50) h) else (if v2 = 1122 then (fX10_plainLaw_81 N (fun v2_ hh => fX10_plainLaw_4 N  a1 n v2_ hh) a1 (v2) (20) h) else (fX10_plainLaw_81 N (fun v2_ hh => fX10_plainLaw_4 N  a1 n v2_ hh) a1 (v2) (0) h)))))))

noncomputable def fX10_plainLaw (N : Nat) (a1 : Int) (h : pv_H) : Option (pv_H) :=
  fX10_plainLaw_4 N  a1 N (1116) h

set_option maxHeartbeats 4000000 in
set_option maxRecDepth 20000 in
theorem tX10_plainLaw_107 {d N : Nat} {k4 : Int → pv_H → Option (pv_H)} {a1 : Int} {v2 : Int} {h h' : pv_H}  (hd : 1 ≤ d) (hk4 : ∀ (v2 : Int)  (hh : pv_H), k4 v2 hh = some h' → EV RX10 cX10_plainLaw 4 none false d pv_SM (MM h') none 4 [some (.inr (.inr (0))), some (.inl (a1)), some (.inl (v2)), none] [] pv_SM (MM hh))   (hf : fX10_plainLaw_107 N k4 a1 v2 h = some h') : EV RX10 cX10_plainLaw 4 none false d pv_SM (MM h') none 107 [some (.inr (.inr (0))), some (.inl (a1)), some (.inl (v2)), none] [] pv_SM (MM h) := by
  unfold fX10_plainLaw_107 at hf
  obtain ⟨x13, ex13, hf⟩ := pv_bo hf
  refine FV.inc (L2 := [some (.inr (.inr (0))), some (.inl (a1)), some (.inl (x13)), none]) dX10_plainLaw_107 rfl (Nat.le_of_ble_eq_true rfl) ex13 rfl ?_
  refine EV.goto (tgt := 4) dX10_plainLaw_110 (by decide) ?_
  refine EV.weak (L2 := [some (.inr (.inr (0))), some (.inl (a1)), some (.inl (x13)), none]) (And.intro rfl (And.intro rfl (And.intro rfl trivial))) ?_
  exact hk4 _  _ hf

set_option maxHeartbeats 4000000 in
set_option maxRecDepth 20000 in
theorem tX10_plainLaw_81 {d N : Nat} {k4 : Int → pv_H → Option (pv_H)} {a1 : Int} {v2 : Int} {s0 : Int} {h h' : pv_H}  (hd : 1 ≤ d) (hk4 : ∀ (v2 : Int)  (hh : pv_H), k4 v2 hh = some h' → EV RX10 cX10_plainLaw 4 none false d pv_SM (MM h') none 4 [some (.inr (.inr (0))), some (.inl (a1)), some (.inl (v2)), none] [] pv_SM (MM hh))   (hf : fX10_plainLaw_81 N k4 a1 v2 s0 h = some h') : EV RX10 cX10_plainLaw 4 none false d pv_SM (MM h') none 81 [some (.inr (.inr (0))), some (.inl (a1)), some (.inl (v2)), none] [.inl (s0)] pv_SM (MM h) := by
  unfold fX10_plainLaw_81 at hf
  refine FV.sti (L2 := [some (.inr (.inr (0))), some (.inl (a1)), some (.inl (v2)), some (.inl (s0))]) dX10_plainLaw_81 rfl (Nat.le_of_ble_eq_true rfl) rfl rfl ?_
  refine EV.iload_n dX10_plainLaw_82 rfl rfl ?_
  refine EV.if_ne (tgt := 96) dX10_plainLaw_83 (by decide) (fun q8 => ?_) (fun q8 => ?_)
  · have hf := pv_gn hf q8
    refine EV.aload_n dX10_plainLaw_96 rfl rfl ?_
    refine FV.getF (v := 5) dX10_plainLaw_97 sm_0 fl_10_27 rfl rfl hvm_0_5 ?_
    refine EV.iload_n dX10_plainLaw_100 rfl rfl ?_
    refine EV.sipush dX10_plainLaw_101 (by decide) (by decide) ?_
    refine EV.isub dX10_plainLaw_104 ?_
    refine EV.iload_n dX10_plainLaw_105 rfl rfl ?_
    obtain ⟨g9, hf⟩ := pv_gd hf
    obtain ⟨h10, eh10, hf⟩ := pv_bo hf
    refine FV.iast dX10_plainLaw_106 sm_5 g9.1 g9.2 (j := (Int.toNat (pv_w (v2 - 1116)))) rfl eh10 ?_
    refine EV.weak (L2 := [some (.inr (.inr (0))), some (.inl (a1)), some (.inl (v2)), none]) (And.intro rfl (And.intro rfl (And.intro rfl trivial))) ?_
    exact tX10_plainLaw_107 hd (hk4)   hf
  · have hf := pv_gp hf q8
    refine EV.aload_n dX10_plainLaw_86 rfl rfl ?_
    refine FV.getF (v := 2) dX10_plainLaw_87 sm_0 fl_10_17 rfl rfl hvm_0_2 ?_
    refine EV.iload_n dX10_plainLaw_90 rfl rfl ?_
    refine EV.iload_n dX10_plainLaw_91 rfl rfl ?_
    obtain ⟨g11, hf⟩ := pv_gd hf
    obtain ⟨h12, eh12, hf⟩ := pv_bo hf
    refine FV.iast dX10_plainLaw_92 sm_2 g11.1 g11.2 (j := (Int.toNat (v2))) rfl eh12 ?_
    refine EV.goto (tgt := 107) dX10_plainLaw_93 (by decide) ?_
    refine EV.weak (L2 := [some (.inr (.inr (0))), some (.inl (a1)), some (.inl (v2)), none]) (And.intro rfl (And.intro rfl (And.intro rfl trivial))) ?_
    exact tX10_plainLaw_107 hd (hk4)   hf

set_option maxHeartbeats 4000000 in
set_option maxRecDepth 20000 in
theorem tX10_plainLaw_4 {d N : Nat}  {a1 : Int} {h' : pv_H}  (hd : 1 ≤ d)   : ∀ (n : Nat) (v2 : Int)  (h : pv_H), fX10_plainLaw_4 N  a1 n v2 h = some h' → EV RX10 cX10_plainLaw 4 none false d pv_SM (MM h') none 4 [some (.inr (.inr (0))), some (.inl (a1)), some (.inl (v2)), none] [] pv_SM (MM h) := by
  intro n
  induction n with
  | zero =>
    intro v2  h hf
    cases hf
  | succ n ih =>
    intro v2  h hf
    rw [fX10_plainLaw_4] at hf
    refine EV.iload_n dX10_plainLaw_4 rfl rfl ?_
    refine EV.sipush dX10_plainLaw_5 (by decide) (by decide) ?_
    refine EV.icmp_gt (tgt := 113) dX10_plainLaw_8 (by decide) (fun q1 => ?_) (fun q1 => ?_)
    · have hf := pv_gp hf q1
      exact FV.vret dX10_plainLaw_113 hf
    · have hf := pv_gn hf q1
      refine EV.iload_n dX10_plainLaw_11 rfl rfl ?_
      refine EV.sipush dX10_plainLaw_12 (by decide) (by decide) ?_
      refine EV.icmp_ne (tgt := 23) dX10_plainLaw_15 (by decide) (fun q2 => ?_) (fun q2 => ?_)
      · have hf := pv_gn hf q2
        refine EV.iload_n dX10_plainLaw_23 rfl rfl ?_
        refine EV.sipush dX10_plainLaw_24 (by decide) (by decide) ?_
        refine EV.icmp_ne (tgt := 34) dX10_plainLaw_27 (by decide) (fun q3 => ?_) (fun q3 => ?_)
        · have hf := pv_gn hf q3
          refine EV.iload_n dX10_plainLaw_34 rfl rfl ?_
          refine EV.sipush dX10_plainLaw_35 (by decide) (by decide) ?_
          refine EV.icmp_ne (tgt := 45) dX10_plainLaw_38 (by decide) (fun q4 => ?_) (fun q4 => ?_)
          · have hf := pv_gn hf q4
            refine EV.iload_n dX10_plainLaw_45 rfl rfl ?_
            refine EV.sipush dX10_plainLaw_46 (by decide) (by decide) ?_
            refine EV.icmp_ne (tgt := 56) dX10_plainLaw_49 (by decide) (fun q5 => ?_) (fun q5 => ?_)
            · have hf := pv_gn hf q5
              refine EV.iload_n dX10_plainLaw_56 rfl rfl ?_
              refine EV.sipush dX10_plainLaw_57 (by decide) (by decide) ?_
              refine EV.icmp_ne (tgt := 68) dX10_plainLaw_60 (by decide) (fun q6 => ?_) (fun q6 => ?_)
              · have hf := pv_gn hf q6
                refine EV.iload_n dX10_plainLaw_68 rfl rfl ?_
                refine EV.sipush dX10_plainLaw_69 (by decide) (by decide) ?_
                refine EV.icmp_ne (tgt := 80) dX10_plainLaw_72 (by decide) (fun q7 => ?_) (fun q7 => ?_)
                · have hf := pv_gn hf q7
                  refine EV.iconst dX10_plainLaw_80 (by decide) (by decide) ?_
                  refine EV.weak (L2 := [some (.inr (.inr (0))), some (.inl (a1)), some (.inl (v2)), none]) (And.intro rfl (And.intro rfl (And.intro rfl trivial))) ?_
                  exact tX10_plainLaw_81 hd (ih)   hf
                · have hf := pv_gp hf q7
                  refine EV.bipush dX10_plainLaw_75 (by decide) (by decide) ?_
                  refine EV.goto (tgt := 81) dX10_plainLaw_77 (by decide) ?_
                  refine EV.weak (L2 := [some (.inr (.inr (0))), some (.inl (a1)), some (.inl (v2)), none]) (And.intro rfl (And.intro rfl (And.intro rfl trivial))) ?_
                  exact tX10_plainLaw_81 hd (ih)   hf
              · have hf := pv_gp hf q6
                refine EV.bipush dX10_plainLaw_63 (by decide) (by decide) ?_
                refine EV.goto (tgt := 81) dX10_plainLaw_65 (by decide) ?_
                refine EV.weak (L2 := [some (.inr (.inr (0))), some (.inl (a1)), some (.inl (v2)), none]) (And.intro rfl (And.intro rfl (And.intro rfl trivial))) ?_
                exact tX10_plainLaw_81 hd (ih)   hf
            · have hf := pv_gp hf q5
              refine EV.iconst dX10_plainLaw_52 (by decide) (by decide) ?_
              refine EV.goto (tgt := 81) dX10_plainLaw_53 (by decide) ?_
              refine EV.weak (L2 := [some (.inr (.inr (0))), some (.inl (a1)), some (.inl (v2)), none]) (And.intro rfl (And.intro rfl (And.intro rfl trivial))) ?_
              exact tX10_plainLaw_81 hd (ih)   hf
          · have hf := pv_gp hf q4
            refine EV.iconst dX10_plainLaw_41 (by decide) (by decide) ?_
            refine EV.goto (tgt := 81) dX10_plainLaw_42 (by decide) ?_
            refine EV.weak (L2 := [some (.inr (.inr (0))), some (.inl (a1)), some (.inl (v2)), none]) (And.intro rfl (And.intro rfl (And.intro rfl trivial))) ?_
            exact tX10_plainLaw_81 hd (ih)   hf
        · have hf := pv_gp hf q3
          refine EV.iconst dX10_plainLaw_30 (by decide) (by decide) ?_
          refine EV.goto (tgt := 81) dX10_plainLaw_31 (by decide) ?_
          refine EV.weak (L2 := [some (.inr (.inr (0))), some (.inl (a1)), some (.inl (v2)), none]) (And.intro rfl (And.intro rfl (And.intro rfl trivial))) ?_
          exact tX10_plainLaw_81 hd (ih)   hf
      · have hf := pv_gp hf q2
        refine EV.bipush dX10_plainLaw_18 (by decide) (by decide) ?_
        refine EV.goto (tgt := 81) dX10_plainLaw_20 (by decide) ?_
        refine EV.weak (L2 := [some (.inr (.inr (0))), some (.inl (a1)), some (.inl (v2)), none]) (And.intro rfl (And.intro rfl (And.intro rfl trivial))) ?_
        exact tX10_plainLaw_81 hd (ih)   hf

set_option maxHeartbeats 4000000 in
set_option maxRecDepth 20000 in
theorem tX10_plainLaw {d N : Nat} {a1 : Int} {h h' : pv_H}  (hd : 1 ≤ d)  (hf : fX10_plainLaw N a1 h = some h') : CALL yX10_plainLaw cX10_plainLaw 4 none d pv_SM (MM h) [.inr (.inr (0)), .inl (a1)] pv_SM (MM h') none := by
  unfold fX10_plainLaw at hf
  refine EV.call (own := RX10) (ini := false) rfl rfl (fun q => by cases q) ⟨[], (List.append_nil _).symm⟩ (Nat.le_of_ble_eq_true rfl) ?_
  refine EV.eqL (L2 := [some (.inr (.inr (0))), some (.inl (a1)), none, none]) rfl ?_
  refine EV.sipush dX10_plainLaw_0 (by decide) (by decide) ?_
  refine FV.sti (L2 := [some (.inr (.inr (0))), some (.inl (a1)), some (.inl (1116)), none]) dX10_plainLaw_3 rfl (Nat.le_of_ble_eq_true rfl) rfl rfl ?_
  refine EV.weak (L2 := [some (.inr (.inr (0))), some (.inl (a1)), some (.inl (1116)), none]) (And.intro rfl (And.intro rfl (And.intro rfl trivial))) ?_
  exact tX10_plainLaw_4 hd   _ _  _ hf

theorem pv_mx_self {sh : pv_Sh} {mu : Nat → Nat → Bool} {h : pv_H} : pv_mx sh mu h h = h := by
  funext i k
  unfold pv_mx
  cases pv_fx sh mu i k <;> rfl
noncomputable def hM_fin : pv_H := (fX10_plainLaw 100 0 hM_75).getD hM_75
set_option maxRecDepth 20000 in
theorem hM_fin_ok : fX10_plainLaw 100 0 hM_75 = some hM_fin := by
  have h : (fX10_plainLaw 100 0 hM_75).isSome = true := by decide +kernel
  unfold hM_fin
  cases e : fX10_plainLaw 100 0 hM_75 with
  | none => rw [e] at h; cases h
  | some x => rfl
theorem ct_plain {d : Nat} (hd : 1 ≤ d) : CALL yX10_plainLaw cX10_plainLaw 4 none d (pv_sm.take 36) hM_75 [.inr (.inr 0), .inl 0] (pv_sm.take 36) (MM hM_fin) none := by
  have e : pv_sm.take 36 = pv_SM := by decide +kernel
  have c := tX10_plainLaw hd hM_fin_ok
  rw [e]
  have e2 : MM hM_75 = hM_75 := pv_mx_self
  rw [e2] at c
  exact c
theorem ct_hM_0 {d : Nat} (hd : 3 ≤ d) : CALL yX10_init cX10_init 1 none d (pv_sm.take 1) hM_0 [.inr (.inr 0)] (pv_sm.take 36) (MM hM_fin) none := by
  refine EV.call (own := RX10) (ini := true) rfl rfl (fun _ => rfl) ⟨(pv_sm.take 36).drop 1, by decide +kernel⟩ (Nat.le_of_ble_eq_true rfl) ?_
  refine EV.eqL (L2 := [some (.inr (.inr 0))]) rfl ?_
  refine EV.aload_n dX10_init_0 rfl rfl ?_
  refine EV.obj dX10_init_1 ml_X10_11 w_oii w_oic (by omega) (Nat.le_of_ble_eq_true rfl) ?_
  refine EV.aload_n dX10_init_4 rfl rfl ?_
  refine EV.bipush dX10_init_5 (by decide) (by decide) ?_
  refine EV.newaC1 (n := 1) (m := 8) (sh2 := (pv_sm.take 2)) (by decide +kernel) rfl (by decide +kernel) dX10_init_7 w_ar_int (by decide) (by decide) (by decide) ⟨(pv_sm.take 36).drop 2, by decide +kernel⟩ ?_
  refine EV.eqH (h2 := hM_1) rfl ?_
  refine EV.putF dX10_init_9 (by decide +kernel) fl_10_7 rfl rfl rfl ⟨rfl, by decide +kernel, rfl⟩ ?_
  refine EV.eqH (h2 := hM_2) rfl ?_
  refine EV.aload_n dX10_init_12 rfl rfl ?_
  refine EV.sipush dX10_init_13 (by decide) (by decide) ?_
  refine EV.newaC1 (n := 2) (m := 9159) (sh2 := (pv_sm.take 3)) (by decide +kernel) rfl (by decide +kernel) dX10_init_16 w_ar_int (by decide) (by decide) (by decide) ⟨(pv_sm.take 36).drop 3, by decide +kernel⟩ ?_
  refine EV.eqH (h2 := hM_3) rfl ?_
  refine EV.putF dX10_init_18 (by decide +kernel) fl_10_17 rfl rfl rfl ⟨rfl, by decide +kernel, rfl⟩ ?_
  refine EV.eqH (h2 := hM_4) rfl ?_
  refine EV.aload_n dX10_init_21 rfl rfl ?_
  refine EV.iconst dX10_init_22 (by decide) (by decide) ?_
  refine EV.newaC3 (n := 3) (m := 2) (sh2 := (pv_sm.take 4)) (by decide +kernel) rfl (by decide +kernel) dX10_init_23 w_ar_boolean (by decide) (by decide) (by decide) ⟨(pv_sm.take 36).drop 4, by decide +kernel⟩ ?_
  refine EV.eqH (h2 := hM_5) rfl ?_
  refine EV.putF dX10_init_25 (by decide +kernel) fl_10_20 rfl rfl rfl ⟨rfl, by decide +kernel, rfl⟩ ?_
  refine EV.eqH (h2 := hM_6) rfl ?_
  refine EV.aload_n dX10_init_28 rfl rfl ?_
  refine EV.sipush dX10_init_29 (by decide) (by decide) ?_
  refine EV.newaC1 (n := 4) (m := 400) (sh2 := (pv_sm.take 5)) (by decide +kernel) rfl (by decide +kernel) dX10_init_32 w_ar_int (by decide) (by decide) (by decide) ⟨(pv_sm.take 36).drop 5, by decide +kernel⟩ ?_
  refine EV.eqH (h2 := hM_7) rfl ?_
  refine EV.putF dX10_init_34 (by decide +kernel) fl_10_24 rfl rfl rfl ⟨rfl, by decide +kernel, rfl⟩ ?_
  refine EV.eqH (h2 := hM_8) rfl ?_
  refine EV.aload_n dX10_init_37 rfl rfl ?_
  refine EV.sipush dX10_init_38 (by decide) (by decide) ?_
  refine EV.newaC1 (n := 5) (m := 417) (sh2 := (pv_sm.take 6)) (by decide +kernel) rfl (by decide +kernel) dX10_init_41 w_ar_int (by decide) (by decide) (by decide) ⟨(pv_sm.take 36).drop 6, by decide +kernel⟩ ?_
  refine EV.eqH (h2 := hM_9) rfl ?_
  refine EV.putF dX10_init_43 (by decide +kernel) fl_10_27 rfl rfl rfl ⟨rfl, by decide +kernel, rfl⟩ ?_
  refine EV.eqH (h2 := hM_10) rfl ?_
  refine EV.aload_n dX10_init_46 rfl rfl ?_
  refine EV.iconst dX10_init_47 (by decide) (by decide) ?_
  refine EV.put dX10_init_48 (by decide +kernel) fl_10_30 rfl ⟨rfl, Or.inl rfl⟩ ?_
  refine EV.eqH (h2 := hM_11) rfl ?_
  refine EV.aload_n dX10_init_51 rfl rfl ?_
  refine EV.bipush dX10_init_52 (by decide) (by decide) ?_
  refine EV.newaC1 (n := 6) (m := 60) (sh2 := (pv_sm.take 7)) (by decide +kernel) rfl (by decide +kernel) dX10_init_54 w_ar_int (by decide) (by decide) (by decide) ⟨(pv_sm.take 36).drop 7, by decide +kernel⟩ ?_
  refine EV.eqH (h2 := hM_12) rfl ?_
  refine EV.putF dX10_init_56 (by decide +kernel) fl_10_33 rfl rfl rfl ⟨rfl, by decide +kernel, rfl⟩ ?_
  refine EV.eqH (h2 := hM_13) rfl ?_
  refine EV.aload_n dX10_init_59 rfl rfl ?_
  refine EV.bipush dX10_init_60 (by decide) (by decide) ?_
  refine EV.newaC1 (n := 7) (m := 60) (sh2 := (pv_sm.take 8)) (by decide +kernel) rfl (by decide +kernel) dX10_init_62 w_ar_int (by decide) (by decide) (by decide) ⟨(pv_sm.take 36).drop 8, by decide +kernel⟩ ?_
  refine EV.eqH (h2 := hM_14) rfl ?_
  refine EV.putF dX10_init_64 (by decide +kernel) fl_10_36 rfl rfl rfl ⟨rfl, by decide +kernel, rfl⟩ ?_
  refine EV.eqH (h2 := hM_15) rfl ?_
  refine EV.aload_n dX10_init_67 rfl rfl ?_
  refine EV.bipush dX10_init_68 (by decide) (by decide) ?_
  refine EV.newaC1 (n := 8) (m := 60) (sh2 := (pv_sm.take 9)) (by decide +kernel) rfl (by decide +kernel) dX10_init_70 w_ar_int (by decide) (by decide) (by decide) ⟨(pv_sm.take 36).drop 9, by decide +kernel⟩ ?_
  refine EV.eqH (h2 := hM_16) rfl ?_
  refine EV.putF dX10_init_72 (by decide +kernel) fl_10_39 rfl rfl rfl ⟨rfl, by decide +kernel, rfl⟩ ?_
  refine EV.eqH (h2 := hM_17) rfl ?_
  refine EV.aload_n dX10_init_75 rfl rfl ?_
  refine EV.bipush dX10_init_76 (by decide) (by decide) ?_
  refine EV.newaC1 (n := 9) (m := 60) (sh2 := (pv_sm.take 10)) (by decide +kernel) rfl (by decide +kernel) dX10_init_78 w_ar_int (by decide) (by decide) (by decide) ⟨(pv_sm.take 36).drop 10, by decide +kernel⟩ ?_
  refine EV.eqH (h2 := hM_18) rfl ?_
  refine EV.putF dX10_init_80 (by decide +kernel) fl_10_42 rfl rfl rfl ⟨rfl, by decide +kernel, rfl⟩ ?_
  refine EV.eqH (h2 := hM_19) rfl ?_
  refine EV.aload_n dX10_init_83 rfl rfl ?_
  refine EV.bipush dX10_init_84 (by decide) (by decide) ?_
  refine EV.newaC1 (n := 10) (m := 60) (sh2 := (pv_sm.take 11)) (by decide +kernel) rfl (by decide +kernel) dX10_init_86 w_ar_int (by decide) (by decide) (by decide) ⟨(pv_sm.take 36).drop 11, by decide +kernel⟩ ?_
  refine EV.eqH (h2 := hM_20) rfl ?_
  refine EV.putF dX10_init_88 (by decide +kernel) fl_10_45 rfl rfl rfl ⟨rfl, by decide +kernel, rfl⟩ ?_
  refine EV.eqH (h2 := hM_21) rfl ?_
  refine EV.aload_n dX10_init_91 rfl rfl ?_
  refine EV.bipush dX10_init_92 (by decide) (by decide) ?_
  refine EV.newaC1 (n := 11) (m := 60) (sh2 := (pv_sm.take 12)) (by decide +kernel) rfl (by decide +kernel) dX10_init_94 w_ar_int (by decide) (by decide) (by decide) ⟨(pv_sm.take 36).drop 12, by decide +kernel⟩ ?_
  refine EV.eqH (h2 := hM_22) rfl ?_
  refine EV.putF dX10_init_96 (by decide +kernel) fl_10_48 rfl rfl rfl ⟨rfl, by decide +kernel, rfl⟩ ?_
  refine EV.eqH (h2 := hM_23) rfl ?_
  refine EV.aload_n dX10_init_99 rfl rfl ?_
  refine EV.sipush dX10_init_100 (by decide) (by decide) ?_
  refine EV.newaC1 (n := 12) (m := 4000) (sh2 := (pv_sm.take 13)) (by decide +kernel) rfl (by decide +kernel) dX10_init_103 w_ar_int (by decide) (by decide) (by decide) ⟨(pv_sm.take 36).drop 13, by decide +kernel⟩ ?_
  refine EV.eqH (h2 := hM_24) rfl ?_
  refine EV.putF dX10_init_105 (by decide +kernel) fl_10_51 rfl rfl rfl ⟨rfl, by decide +kernel, rfl⟩ ?_
  refine EV.eqH (h2 := hM_25) rfl ?_
  refine EV.aload_n dX10_init_108 rfl rfl ?_
  refine EV.sipush dX10_init_109 (by decide) (by decide) ?_
  refine EV.newaC1 (n := 13) (m := 4000) (sh2 := (pv_sm.take 14)) (by decide +kernel) rfl (by decide +kernel) dX10_init_112 w_ar_int (by decide) (by decide) (by decide) ⟨(pv_sm.take 36).drop 14, by decide +kernel⟩ ?_
  refine EV.eqH (h2 := hM_26) rfl ?_
  refine EV.putF dX10_init_114 (by decide +kernel) fl_10_54 rfl rfl rfl ⟨rfl, by decide +kernel, rfl⟩ ?_
  refine EV.eqH (h2 := hM_27) rfl ?_
  refine EV.aload_n dX10_init_117 rfl rfl ?_
  refine EV.bipush dX10_init_118 (by decide) (by decide) ?_
  refine EV.newaC1 (n := 14) (m := 12) (sh2 := (pv_sm.take 15)) (by decide +kernel) rfl (by decide +kernel) dX10_init_120 w_ar_int (by decide) (by decide) (by decide) ⟨(pv_sm.take 36).drop 15, by decide +kernel⟩ ?_
  refine EV.eqH (h2 := hM_28) rfl ?_
  refine EV.putF dX10_init_122 (by decide +kernel) fl_10_57 rfl rfl rfl ⟨rfl, by decide +kernel, rfl⟩ ?_
  refine EV.eqH (h2 := hM_29) rfl ?_
  refine EV.aload_n dX10_init_125 rfl rfl ?_
  refine EV.bipush dX10_init_126 (by decide) (by decide) ?_
  refine EV.newaC1 (n := 15) (m := 12) (sh2 := (pv_sm.take 16)) (by decide +kernel) rfl (by decide +kernel) dX10_init_128 w_ar_int (by decide) (by decide) (by decide) ⟨(pv_sm.take 36).drop 16, by decide +kernel⟩ ?_
  refine EV.eqH (h2 := hM_30) rfl ?_
  refine EV.putF dX10_init_130 (by decide +kernel) fl_10_60 rfl rfl rfl ⟨rfl, by decide +kernel, rfl⟩ ?_
  refine EV.eqH (h2 := hM_31) rfl ?_
  refine EV.aload_n dX10_init_133 rfl rfl ?_
  refine EV.bipush dX10_init_134 (by decide) (by decide) ?_
  refine EV.newaC1 (n := 16) (m := 12) (sh2 := (pv_sm.take 17)) (by decide +kernel) rfl (by decide +kernel) dX10_init_136 w_ar_int (by decide) (by decide) (by decide) ⟨(pv_sm.take 36).drop 17, by decide +kernel⟩ ?_
  refine EV.eqH (h2 := hM_32) rfl ?_
  refine EV.putF dX10_init_138 (by decide +kernel) fl_10_63 rfl rfl rfl ⟨rfl, by decide +kernel, rfl⟩ ?_
  refine EV.eqH (h2 := hM_33) rfl ?_
  refine EV.aload_n dX10_init_141 rfl rfl ?_
  refine EV.bipush dX10_init_142 (by decide) (by decide) ?_
  refine EV.newaC3 (n := 17) (m := 60) (sh2 := (pv_sm.take 18)) (by decide +kernel) rfl (by decide +kernel) dX10_init_144 w_ar_boolean (by decide) (by decide) (by decide) ⟨(pv_sm.take 36).drop 18, by decide +kernel⟩ ?_
  refine EV.eqH (h2 := hM_34) rfl ?_
  refine EV.putF dX10_init_146 (by decide +kernel) fl_10_66 rfl rfl rfl ⟨rfl, by decide +kernel, rfl⟩ ?_
  refine EV.eqH (h2 := hM_35) rfl ?_
  refine EV.aload_n dX10_init_149 rfl rfl ?_
  refine EV.bipush dX10_init_150 (by decide) (by decide) ?_
  refine EV.newaC3 (n := 18) (m := 60) (sh2 := (pv_sm.take 19)) (by decide +kernel) rfl (by decide +kernel) dX10_init_152 w_ar_boolean (by decide) (by decide) (by decide) ⟨(pv_sm.take 36).drop 19, by decide +kernel⟩ ?_
  refine EV.eqH (h2 := hM_36) rfl ?_
  refine EV.putF dX10_init_154 (by decide +kernel) fl_10_69 rfl rfl rfl ⟨rfl, by decide +kernel, rfl⟩ ?_
  refine EV.eqH (h2 := hM_37) rfl ?_
  refine EV.aload_n dX10_init_157 rfl rfl ?_
  refine EV.sipush dX10_init_158 (by decide) (by decide) ?_
  refine EV.newaC3 (n := 19) (m := 200) (sh2 := (pv_sm.take 20)) (by decide +kernel) rfl (by decide +kernel) dX10_init_161 w_ar_boolean (by decide) (by decide) (by decide) ⟨(pv_sm.take 36).drop 20, by decide +kernel⟩ ?_
  refine EV.eqH (h2 := hM_38) rfl ?_
  refine EV.putF dX10_init_163 (by decide +kernel) fl_10_72 rfl rfl rfl ⟨rfl, by decide +kernel, rfl⟩ ?_
  refine EV.eqH (h2 := hM_39) rfl ?_
  refine EV.aload_n dX10_init_166 rfl rfl ?_
  refine EV.bipush dX10_init_167 (by decide) (by decide) ?_
  refine EV.newaC1 (n := 20) (m := 60) (sh2 := (pv_sm.take 21)) (by decide +kernel) rfl (by decide +kernel) dX10_init_169 w_ar_int (by decide) (by decide) (by decide) ⟨(pv_sm.take 36).drop 21, by decide +kernel⟩ ?_
  refine EV.eqH (h2 := hM_40) rfl ?_
  refine EV.putF dX10_init_171 (by decide +kernel) fl_10_75 rfl rfl rfl ⟨rfl, by decide +kernel, rfl⟩ ?_
  refine EV.eqH (h2 := hM_41) rfl ?_
  refine EV.aload_n dX10_init_174 rfl rfl ?_
  refine EV.bipush dX10_init_175 (by decide) (by decide) ?_
  refine EV.newaC1 (n := 21) (m := 60) (sh2 := (pv_sm.take 22)) (by decide +kernel) rfl (by decide +kernel) dX10_init_177 w_ar_int (by decide) (by decide) (by decide) ⟨(pv_sm.take 36).drop 22, by decide +kernel⟩ ?_
  refine EV.eqH (h2 := hM_42) rfl ?_
  refine EV.putF dX10_init_179 (by decide +kernel) fl_10_78 rfl rfl rfl ⟨rfl, by decide +kernel, rfl⟩ ?_
  refine EV.eqH (h2 := hM_43) rfl ?_
  refine EV.aload_n dX10_init_182 rfl rfl ?_
  refine EV.bipush dX10_init_183 (by decide) (by decide) ?_
  refine EV.newaC1 (n := 22) (m := 60) (sh2 := (pv_sm.take 23)) (by decide +kernel) rfl (by decide +kernel) dX10_init_185 w_ar_int (by decide) (by decide) (by decide) ⟨(pv_sm.take 36).drop 23, by decide +kernel⟩ ?_
  refine EV.eqH (h2 := hM_44) rfl ?_
  refine EV.putF dX10_init_187 (by decide +kernel) fl_10_81 rfl rfl rfl ⟨rfl, by decide +kernel, rfl⟩ ?_
  refine EV.eqH (h2 := hM_45) rfl ?_
  refine EV.aload_n dX10_init_190 rfl rfl ?_
  refine EV.bipush dX10_init_191 (by decide) (by decide) ?_
  refine EV.newaC1 (n := 23) (m := 60) (sh2 := (pv_sm.take 24)) (by decide +kernel) rfl (by decide +kernel) dX10_init_193 w_ar_int (by decide) (by decide) (by decide) ⟨(pv_sm.take 36).drop 24, by decide +kernel⟩ ?_
  refine EV.eqH (h2 := hM_46) rfl ?_
  refine EV.putF dX10_init_195 (by decide +kernel) fl_10_84 rfl rfl rfl ⟨rfl, by decide +kernel, rfl⟩ ?_
  refine EV.eqH (h2 := hM_47) rfl ?_
  refine EV.aload_n dX10_init_198 rfl rfl ?_
  refine EV.bipush dX10_init_199 (by decide) (by decide) ?_
  refine EV.newaC1 (n := 24) (m := 61) (sh2 := (pv_sm.take 25)) (by decide +kernel) rfl (by decide +kernel) dX10_init_201 w_ar_int (by decide) (by decide) (by decide) ⟨(pv_sm.take 36).drop 25, by decide +kernel⟩ ?_
  refine EV.eqH (h2 := hM_48) rfl ?_
  refine EV.putF dX10_init_203 (by decide +kernel) fl_10_87 rfl rfl rfl ⟨rfl, by decide +kernel, rfl⟩ ?_
  refine EV.eqH (h2 := hM_49) rfl ?_
  refine EV.aload_n dX10_init_206 rfl rfl ?_
  refine EV.sipush dX10_init_207 (by decide) (by decide) ?_
  refine EV.newaC1 (n := 25) (m := 200) (sh2 := (pv_sm.take 26)) (by decide +kernel) rfl (by decide +kernel) dX10_init_210 w_ar_int (by decide) (by decide) (by decide) ⟨(pv_sm.take 36).drop 26, by decide +kernel⟩ ?_
  refine EV.eqH (h2 := hM_50) rfl ?_
  refine EV.putF dX10_init_212 (by decide +kernel) fl_10_90 rfl rfl rfl ⟨rfl, by decide +kernel, rfl⟩ ?_
  refine EV.eqH (h2 := hM_51) rfl ?_
  refine EV.aload_n dX10_init_215 rfl rfl ?_
  refine EV.sipush dX10_init_216 (by decide) (by decide) ?_
  refine EV.newaC1 (n := 26) (m := 200) (sh2 := (pv_sm.take 27)) (by decide +kernel) rfl (by decide +kernel) dX10_init_219 w_ar_int (by decide) (by decide) (by decide) ⟨(pv_sm.take 36).drop 27, by decide +kernel⟩ ?_
  refine EV.eqH (h2 := hM_52) rfl ?_
  refine EV.putF dX10_init_221 (by decide +kernel) fl_10_93 rfl rfl rfl ⟨rfl, by decide +kernel, rfl⟩ ?_
  refine EV.eqH (h2 := hM_53) rfl ?_
  refine EV.aload_n dX10_init_224 rfl rfl ?_
  refine EV.sipush dX10_init_225 (by decide) (by decide) ?_
  refine EV.newaC1 (n := 27) (m := 200) (sh2 := (pv_sm.take 28)) (by decide +kernel) rfl (by decide +kernel) dX10_init_228 w_ar_int (by decide) (by decide) (by decide) ⟨(pv_sm.take 36).drop 28, by decide +kernel⟩ ?_
  refine EV.eqH (h2 := hM_54) rfl ?_
  refine EV.putF dX10_init_230 (by decide +kernel) fl_10_96 rfl rfl rfl ⟨rfl, by decide +kernel, rfl⟩ ?_
  refine EV.eqH (h2 := hM_55) rfl ?_
  refine EV.aload_n dX10_init_233 rfl rfl ?_
  refine EV.sipush dX10_init_234 (by decide) (by decide) ?_
  refine EV.newaC1 (n := 28) (m := 200) (sh2 := (pv_sm.take 29)) (by decide +kernel) rfl (by decide +kernel) dX10_init_237 w_ar_int (by decide) (by decide) (by decide) ⟨(pv_sm.take 36).drop 29, by decide +kernel⟩ ?_
  refine EV.eqH (h2 := hM_56) rfl ?_
  refine EV.putF dX10_init_239 (by decide +kernel) fl_10_99 rfl rfl rfl ⟨rfl, by decide +kernel, rfl⟩ ?_
  refine EV.eqH (h2 := hM_57) rfl ?_
  refine EV.aload_n dX10_init_242 rfl rfl ?_
  refine EV.sipush dX10_init_243 (by decide) (by decide) ?_
  refine EV.newaC1 (n := 29) (m := 200) (sh2 := (pv_sm.take 30)) (by decide +kernel) rfl (by decide +kernel) dX10_init_246 w_ar_int (by decide) (by decide) (by decide) ⟨(pv_sm.take 36).drop 30, by decide +kernel⟩ ?_
  refine EV.eqH (h2 := hM_58) rfl ?_
  refine EV.putF dX10_init_248 (by decide +kernel) fl_10_102 rfl rfl rfl ⟨rfl, by decide +kernel, rfl⟩ ?_
  refine EV.eqH (h2 := hM_59) rfl ?_
  refine EV.aload_n dX10_init_251 rfl rfl ?_
  refine EV.sipush dX10_init_252 (by decide) (by decide) ?_
  refine EV.newaC1 (n := 30) (m := 200) (sh2 := (pv_sm.take 31)) (by decide +kernel) rfl (by decide +kernel) dX10_init_255 w_ar_int (by decide) (by decide) (by decide) ⟨(pv_sm.take 36).drop 31, by decide +kernel⟩ ?_
  refine EV.eqH (h2 := hM_60) rfl ?_
  refine EV.putF dX10_init_257 (by decide +kernel) fl_10_105 rfl rfl rfl ⟨rfl, by decide +kernel, rfl⟩ ?_
  refine EV.eqH (h2 := hM_61) rfl ?_
  refine EV.aload_n dX10_init_260 rfl rfl ?_
  refine EV.sipush dX10_init_261 (by decide) (by decide) ?_
  refine EV.newaC1 (n := 31) (m := 200) (sh2 := (pv_sm.take 32)) (by decide +kernel) rfl (by decide +kernel) dX10_init_264 w_ar_int (by decide) (by decide) (by decide) ⟨(pv_sm.take 36).drop 32, by decide +kernel⟩ ?_
  refine EV.eqH (h2 := hM_62) rfl ?_
  refine EV.putF dX10_init_266 (by decide +kernel) fl_10_108 rfl rfl rfl ⟨rfl, by decide +kernel, rfl⟩ ?_
  refine EV.eqH (h2 := hM_63) rfl ?_
  refine EV.aload_n dX10_init_269 rfl rfl ?_
  refine EV.sipush dX10_init_270 (by decide) (by decide) ?_
  refine EV.newaC3 (n := 32) (m := 220) (sh2 := (pv_sm.take 33)) (by decide +kernel) rfl (by decide +kernel) dX10_init_273 w_ar_boolean (by decide) (by decide) (by decide) ⟨(pv_sm.take 36).drop 33, by decide +kernel⟩ ?_
  refine EV.eqH (h2 := hM_64) rfl ?_
  refine EV.putF dX10_init_275 (by decide +kernel) fl_10_111 rfl rfl rfl ⟨rfl, by decide +kernel, rfl⟩ ?_
  refine EV.eqH (h2 := hM_65) rfl ?_
  refine EV.aload_n dX10_init_278 rfl rfl ?_
  refine EV.iconst dX10_init_279 (by decide) (by decide) ?_
  refine EV.newaC1 (n := 33) (m := 4) (sh2 := (pv_sm.take 34)) (by decide +kernel) rfl (by decide +kernel) dX10_init_280 w_ar_int (by decide) (by decide) (by decide) ⟨(pv_sm.take 36).drop 34, by decide +kernel⟩ ?_
  refine EV.eqH (h2 := hM_66) rfl ?_
  refine EV.dup dX10_init_282 rfl ?_
  refine EV.iconst dX10_init_283 (by decide) (by decide) ?_
  refine EV.iconst dX10_init_284 (by decide) (by decide) ?_
  refine EV.iast (n := 4) dX10_init_285 (by decide +kernel) (by decide) (by decide) ?_
  refine EV.eqH (h2 := hM_67) rfl ?_
  refine EV.dup dX10_init_286 rfl ?_
  refine EV.iconst dX10_init_287 (by decide) (by decide) ?_
  refine EV.iconst dX10_init_288 (by decide) (by decide) ?_
  refine EV.iast (n := 4) dX10_init_289 (by decide +kernel) (by decide) (by decide) ?_
  refine EV.eqH (h2 := hM_68) rfl ?_
  refine EV.dup dX10_init_290 rfl ?_
  refine EV.iconst dX10_init_291 (by decide) (by decide) ?_
  refine EV.iconst dX10_init_292 (by decide) (by decide) ?_
  refine EV.iast (n := 4) dX10_init_293 (by decide +kernel) (by decide) (by decide) ?_
  refine EV.eqH (h2 := hM_69) rfl ?_
  refine EV.dup dX10_init_294 rfl ?_
  refine EV.iconst dX10_init_295 (by decide) (by decide) ?_
  refine EV.iconst dX10_init_296 (by decide) (by decide) ?_
  refine EV.iast (n := 4) dX10_init_297 (by decide +kernel) (by decide) (by decide) ?_
  refine EV.eqH (h2 := hM_70) rfl ?_
  refine EV.putF dX10_init_298 (by decide +kernel) fl_10_114 rfl rfl rfl ⟨rfl, by decide +kernel, rfl⟩ ?_
  refine EV.eqH (h2 := hM_71) rfl ?_
  refine EV.aload_n dX10_init_301 rfl rfl ?_
  refine EV.iconst dX10_init_302 (by decide) (by decide) ?_
  refine EV.newaC1 (n := 34) (m := 4) (sh2 := (pv_sm.take 35)) (by decide +kernel) rfl (by decide +kernel) dX10_init_303 w_ar_int (by decide) (by decide) (by decide) ⟨(pv_sm.take 36).drop 35, by decide +kernel⟩ ?_
  refine EV.eqH (h2 := hM_72) rfl ?_
  refine EV.putF dX10_init_305 (by decide +kernel) fl_10_117 rfl rfl rfl ⟨rfl, by decide +kernel, rfl⟩ ?_
  refine EV.eqH (h2 := hM_73) rfl ?_
  refine EV.aload_n dX10_init_308 rfl rfl ?_
  refine EV.sipush dX10_init_309 (by decide) (by decide) ?_
  refine EV.newaC2 (n := 35) (m := 240) (sh2 := (pv_sm.take 36)) (by decide +kernel) rfl (by decide +kernel) dX10_init_312 w_ar_long (by decide) (by decide) (by decide) ⟨(pv_sm.take 36).drop 36, by decide +kernel⟩ ?_
  refine EV.eqH (h2 := hM_74) rfl ?_
  refine EV.putF dX10_init_314 (by decide +kernel) fl_10_120 rfl rfl rfl ⟨rfl, by decide +kernel, rfl⟩ ?_
  refine EV.eqH (h2 := hM_75) rfl ?_
  refine EV.aload_n dX10_init_317 rfl rfl ?_
  refine EV.iconst dX10_init_318 (by decide) (by decide) ?_
  refine EV.invV (As := [.inl 0]) (st := []) (d1 := d - 1) (sh1 := (pv_sm.take 36)) (h1 := MM hM_fin) (r1 := none) dX10_init_319 (by decide +kernel) (by decide) md_X10_plainLaw ml_X10_124 im_X10_plainLaw se_X10_plainLaw (ct_plain (by omega)) (by omega) rfl rfl (Nat.le_of_ble_eq_true rfl) ⟨[], (List.append_nil _).symm⟩ ?_
  exact EV.vret dX10_init_322
