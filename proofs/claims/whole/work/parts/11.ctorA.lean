section RULES
variable {own : String} {cc : ByteArray} {nL : Nat} {ret : Option FieldType} {ini : Bool} {d : Nat} {sh' : pv_Sh} {h' : pv_H} {r : Option pv_V} {pc : Nat} {L : List (Option pv_V)} {st : List pv_V} {sh : pv_Sh} {h : pv_H}
theorem EV.eqL {L2 : List (Option pv_V)} (e : L = L2) (k : EV own cc nL ret ini d sh' h' r pc L2 st sh h) : EV own cc nL ret ini d sh' h' r pc L st sh h := by rw [e]; exact k
theorem EV.eqS {st2 : List pv_V} (e : st = st2) (k : EV own cc nL ret ini d sh' h' r pc L st2 sh h) : EV own cc nL ret ini d sh' h' r pc L st sh h := by rw [e]; exact k
theorem EV.eqH {h2 : pv_H} (e : h = h2) (k : EV own cc nL ret ini d sh' h' r pc L st sh h2) : EV own cc nL ret ini d sh' h' r pc L st sh h := by rw [e]; exact k
theorem EV.eqW {sh2 : pv_Sh} (e : sh = sh2) (k : EV own cc nL ret ini d sh' h' r pc L st sh2 h) : EV own cc nL ret ini d sh' h' r pc L st sh h := by rw [e]; exact k
theorem EV.getV {v q ci z idx : Nat} (hd : decode cc pc = .ok (.getfield idx, 3)) (e0 : sh[q]? = some (0, ci)) (hf : pv_FL own idx ci z) (hk0 : pv_fk (pv_ty ci z) = 2) (hv : h q z = (v : Int)) (k : EV own cc nL ret ini d sh' h' r (pc + 3) L (.inr (.inr v) :: st) sh h) : EV own cc nL ret ini d sh' h' r pc L (.inr (.inr q) :: st) sh h := by
  refine EV.getR hd e0 hf hk0 (by rw [hv]; omega) ?_
  rw [hv, Int.toNat_natCast]
  exact k
theorem EV.newoC {n : Nat} {sh2 : pv_Sh} {ci idx : Nat} (hn : sh.length = n) (h2 : sh ++ [(0, ci)] = sh2) (hd : decode cc pc = .ok (.new idx, 3)) (hci : ci < 11) (hl1 : Cond.classLink own idx (pv_cn ci) ∈ pv_W) (hl2 : Cond.instantiable (pv_cn ci) (pv_nf ci) ∈ pv_W) (hl3 : Cond.initialized (pv_cn ci) ∈ pv_W) (hb0 : n < pv_SB) (hq : ∃ t, sh' = sh2 ++ t) (k : EV own cc nL ret ini d sh' h' r (pc + 3) L (.inr (.inr n) :: st) sh2 (pv_ur h n (pv_nr ci))) : EV own cc nL ret ini d sh' h' r pc L st sh h := by
  subst hn; subst h2
  exact EV.newo hd hci hl1 hl2 hl3 hb0 hq k
theorem EV.newaC1 {n m : Nat} {sh2 : pv_Sh} {x : Int} (hn : sh.length = n) (hx : x.toNat = m) (h2 : sh ++ [(1, m)] = sh2) (hd : decode cc pc = .ok (.newarray .int, 2)) (ha : Cond.arrayClass .int ∈ pv_W) (h0 : 0 ≤ x) (h1 : x ≤ 100000) (hb0 : n < pv_SB) (hq : ∃ t, sh' = sh2 ++ t) (k : EV own cc nL ret ini d sh' h' r (pc + 2) L (.inr (.inr n) :: st) sh2 (pv_ur h n (fun _ => 0))) : EV own cc nL ret ini d sh' h' r pc L (.inl x :: st) sh h := by
  subst hn; subst hx; subst h2
  exact EV.newa1 hd ha h0 h1 hb0 hq k
theorem EV.newaC2 {n m : Nat} {sh2 : pv_Sh} {x : Int} (hn : sh.length = n) (hx : x.toNat = m) (h2 : sh ++ [(2, m)] = sh2) (hd : decode cc pc = .ok (.newarray .long, 2)) (ha : Cond.arrayClass .long ∈ pv_W) (h0 : 0 ≤ x) (h1 : x ≤ 100000) (hb0 : n < pv_SB) (hq : ∃ t, sh' = sh2 ++ t) (k : EV own cc nL ret ini d sh' h' r (pc + 2) L (.inr (.inr n) :: st) sh2 (pv_ur h n (fun _ => 0))) : EV own cc nL ret ini d sh' h' r pc L (.inl x :: st) sh h := by
  subst hn; subst hx; subst h2
  exact EV.newa2 hd ha h0 h1 hb0 hq k
theorem EV.newaC3 {n m : Nat} {sh2 : pv_Sh} {x : Int} (hn : sh.length = n) (hx : x.toNat = m) (h2 : sh ++ [(3, m)] = sh2) (hd : decode cc pc = .ok (.newarray .boolean, 2)) (ha : Cond.arrayClass .boolean ∈ pv_W) (h0 : 0 ≤ x) (h1 : x ≤ 100000) (hb0 : n < pv_SB) (hq : ∃ t, sh' = sh2 ++ t) (k : EV own cc nL ret ini d sh' h' r (pc + 2) L (.inr (.inr n) :: st) sh2 (pv_ur h n (fun _ => 0))) : EV own cc nL ret ini d sh' h' r pc L (.inl x :: st) sh h := by
  subst hn; subst hx; subst h2
  exact EV.newa3 hd ha h0 h1 hb0 hq k
theorem EV.newaC4 {n m : Nat} {sh2 : pv_Sh} {x : Int} (hn : sh.length = n) (hx : x.toNat = m) (h2 : sh ++ [(4, m)] = sh2) (hd : decode cc pc = .ok (.newarray .byte, 2)) (ha : Cond.arrayClass .byte ∈ pv_W) (h0 : 0 ≤ x) (h1 : x ≤ 100000) (hb0 : n < pv_SB) (hq : ∃ t, sh' = sh2 ++ t) (k : EV own cc nL ret ini d sh' h' r (pc + 2) L (.inr (.inr n) :: st) sh2 (pv_ur h n (fun _ => 0))) : EV own cc nL ret ini d sh' h' r pc L (.inl x :: st) sh h := by
  subst hn; subst hx; subst h2
  exact EV.newa4 hd ha h0 h1 hb0 hq k
theorem EV.newaC5 {n m idx : Nat} {sh2 : pv_Sh} {x : Int} (hn : sh.length = n) (hx : x.toNat = m) (h2 : sh ++ [(5, m)] = sh2) (hd : decode cc pc = .ok (.anewarray idx, 3)) (ha : Cond.classLink own idx RX5 ∈ pv_W) (h0 : 0 ≤ x) (h1 : x ≤ 100000) (hb0 : n < pv_SB) (hq : ∃ t, sh' = sh2 ++ t) (k : EV own cc nL ret ini d sh' h' r (pc + 3) L (.inr (.inr n) :: st) sh2 (pv_ur h n (fun _ => -1))) : EV own cc nL ret ini d sh' h' r pc L (.inl x :: st) sh h := by
  subst hn; subst hx; subst h2
  exact EV.newa5 hd ha h0 h1 hb0 hq k
theorem EV.newaC6 {n m idx : Nat} {sh2 : pv_Sh} {x : Int} (hn : sh.length = n) (hx : x.toNat = m) (h2 : sh ++ [(6, m)] = sh2) (hd : decode cc pc = .ok (.anewarray idx, 3)) (ha : Cond.classLink own idx RX0 ∈ pv_W) (h0 : 0 ≤ x) (h1 : x ≤ 100000) (hb0 : n < pv_SB) (hq : ∃ t, sh' = sh2 ++ t) (k : EV own cc nL ret ini d sh' h' r (pc + 3) L (.inr (.inr n) :: st) sh2 (pv_ur h n (fun _ => -1))) : EV own cc nL ret ini d sh' h' r pc L (.inl x :: st) sh h := by
  subst hn; subst hx; subst h2
  exact EV.newa6 hd ha h0 h1 hb0 hq k
theorem EV.newaC7 {n m idx : Nat} {sh2 : pv_Sh} {x : Int} (hn : sh.length = n) (hx : x.toNat = m) (h2 : sh ++ [(7, m)] = sh2) (hd : decode cc pc = .ok (.anewarray idx, 3)) (ha : Cond.classLink own idx RX8 ∈ pv_W) (h0 : 0 ≤ x) (h1 : x ≤ 100000) (hb0 : n < pv_SB) (hq : ∃ t, sh' = sh2 ++ t) (k : EV own cc nL ret ini d sh' h' r (pc + 3) L (.inr (.inr n) :: st) sh2 (pv_ur h n (fun _ => -1))) : EV own cc nL ret ini d sh' h' r pc L (.inl x :: st) sh h := by
  subst hn; subst hx; subst h2
  exact EV.newa7 hd ha h0 h1 hb0 hq k
theorem EV.newaC8 {n m idx : Nat} {sh2 : pv_Sh} {x : Int} (hn : sh.length = n) (hx : x.toNat = m) (h2 : sh ++ [(8, m)] = sh2) (hd : decode cc pc = .ok (.anewarray idx, 3)) (ha : Cond.classLink own idx RX6 ∈ pv_W) (h0 : 0 ≤ x) (h1 : x ≤ 100000) (hb0 : n < pv_SB) (hq : ∃ t, sh' = sh2 ++ t) (k : EV own cc nL ret ini d sh' h' r (pc + 3) L (.inr (.inr n) :: st) sh2 (pv_ur h n (fun _ => -1))) : EV own cc nL ret ini d sh' h' r pc L (.inl x :: st) sh h := by
  subst hn; subst hx; subst h2
  exact EV.newa8 hd ha h0 h1 hb0 hq k
theorem pv_apl {sh t : pv_Sh} {i : Nat} {q : Nat × Nat} (e : sh[i]? = some q) : (sh ++ t)[i]? = some q := by
  rw [List.getElem?_append_left (List.getElem?_eq_some_iff.mp e).1]
  exact e
end RULES
def K_begin (h : pv_H) (this a : Nat) : pv_H := pv_ur (pv_up h this 0 0) a (pv_cp (fun j => pv_t0.getD j 0) (pv_up h this 0 0 a) 0 0 8)
theorem ct_begin {d : Nat} {sh : pv_Sh} {h : pv_H} {this a : Nat} (hd : 1 ≤ d) (e0 : sh[this]? = some (0, 2)) (e1 : sh[a]? = some (1, 8)) (ea : h this 1 = (a : Int)) : CALL yX2_begin cX2_begin 1 none d sh h [.inr (.inr this)] sh (K_begin h this a) none := by
  refine EV.call (own := RX2) (ini := false) rfl rfl (fun q => by cases q) ⟨[], by simp⟩ (Nat.le_of_ble_eq_true rfl) ?_
  refine EV.eqL (L2 := [some (.inr (.inr this))]) rfl ?_
  refine EV.aload_n dX2_begin_0 rfl rfl ?_
  refine EV.iconst dX2_begin_1 (by decide) (by decide) ?_
  refine EV.put dX2_begin_2 e0 fl_2_18 rfl ⟨rfl, Or.inl rfl⟩ ?_
  refine EV.gets0 dX2_begin_5 fn_X2_22 ?_
  refine EV.iconst dX2_begin_8 (by decide) (by decide) ?_
  refine EV.aload_n dX2_begin_9 rfl rfl ?_
  refine EV.getV (v := a) dX2_begin_10 e0 fl_2_9 rfl (by rw [pv_up_ne (Or.inr (by decide))]; exact ea) ?_
  refine EV.iconst dX2_begin_13 (by decide) (by decide) ?_
  refine EV.bipush dX2_begin_14 (by decide) (by decide) ?_
  refine EV.copyT dX2_begin_16 ml_X2_25 w_acn w_acs w_aci hd (Nat.le_of_ble_eq_true rfl) e1 (by decide) (by decide) (by decide) (by decide) (by decide) ?_
  exact EV.vret dX2_begin_19
def K_X0 (n : Nat) (h : pv_H) (this : Nat) : pv_H := (pv_up (pv_ur (pv_up (pv_ur (pv_up (pv_ur h n (fun _ => 0)) this 1 ((n : Nat) : Int)) (n + 1) (fun _ => 0)) this 2 (((n + 1) : Nat) : Int)) (n + 2) (fun _ => 0)) this 3 (((n + 2) : Nat) : Int))
theorem ct_X0 {d : Nat} {sh sh2 : pv_Sh} {h : pv_H} {this n : Nat} (hn : sh.length = n) (hsh : (((sh ++ [(1, 12)]) ++ [(1, 12)]) ++ [(1, 12)]) = sh2) (hs : n ≤ 100000) (hd : 1 ≤ d) (e0 : sh[this]? = some (0, 0)) : CALL yX0_init cX0_init 1 none d sh h [.inr (.inr this)] sh2 (K_X0 n h this) none := by
  subst hsh
  refine EV.call (own := RX0) (ini := true) rfl rfl (fun _ => rfl) ⟨[(1, 12), (1, 12), (1, 12)], by simp⟩ (Nat.le_of_ble_eq_true rfl) ?_
  refine EV.eqL (L2 := [some (.inr (.inr this))]) rfl ?_
  refine EV.aload_n dX0_init_0 rfl rfl ?_
  refine EV.obj dX0_init_1 ml_X0_3 w_oii w_oic (by omega) (Nat.le_of_ble_eq_true rfl) ?_
  refine EV.aload_n dX0_init_4 rfl rfl ?_
  refine EV.bipush dX0_init_5 (by decide) (by decide) ?_
  refine EV.newaC1 (n := n) (m := 12) (sh2 := (sh ++ [(1, 12)])) (by simp [hn]) rfl rfl dX0_init_7 w_ar_int (by decide) (by decide) (by simp only [pv_SB]; omega) ⟨[(1, 12), (1, 12)], by simp⟩ ?_
  refine EV.putF dX0_init_9 (pv_apl e0) fl_0_9 rfl rfl rfl ⟨rfl, by simp [hn], rfl⟩ ?_
  refine EV.aload_n dX0_init_12 rfl rfl ?_
  refine EV.bipush dX0_init_13 (by decide) (by decide) ?_
  refine EV.newaC1 (n := (n + 1)) (m := 12) (sh2 := ((sh ++ [(1, 12)]) ++ [(1, 12)])) (by simp [hn]) rfl rfl dX0_init_15 w_ar_int (by decide) (by decide) (by simp only [pv_SB]; omega) ⟨[(1, 12)], by simp⟩ ?_
  refine EV.putF dX0_init_17 (pv_apl (pv_apl e0)) fl_0_15 rfl rfl rfl ⟨rfl, by simp [hn], rfl⟩ ?_
  refine EV.aload_n dX0_init_20 rfl rfl ?_
  refine EV.bipush dX0_init_21 (by decide) (by decide) ?_
  refine EV.newaC1 (n := (n + 2)) (m := 12) (sh2 := (((sh ++ [(1, 12)]) ++ [(1, 12)]) ++ [(1, 12)])) (by simp [hn]) rfl rfl dX0_init_23 w_ar_int (by decide) (by decide) (by simp only [pv_SB]; omega) ⟨[], by simp⟩ ?_
  refine EV.putF dX0_init_25 (pv_apl (pv_apl (pv_apl e0))) fl_0_18 rfl rfl rfl ⟨rfl, by simp [hn], rfl⟩ ?_
  exact EV.vret dX0_init_28

def K_X3 (n : Nat) (h : pv_H) (this : Nat) : pv_H := (pv_up (pv_ur (pv_up (pv_ur (pv_up (pv_ur (pv_up (pv_ur h n (fun _ => 0)) this 1 ((n : Nat) : Int)) (n + 1) (fun _ => 0)) this 2 (((n + 1) : Nat) : Int)) (n + 2) (fun _ => 0)) this 3 (((n + 2) : Nat) : Int)) (n + 3) (fun _ => 0)) this 4 (((n + 3) : Nat) : Int))
theorem ct_X3 {d : Nat} {sh sh2 : pv_Sh} {h : pv_H} {this n : Nat} (hn : sh.length = n) (hsh : ((((sh ++ [(1, 9)]) ++ [(1, 400)]) ++ [(1, 400)]) ++ [(1, 401)]) = sh2) (hs : n ≤ 100000) (hd : 1 ≤ d) (e0 : sh[this]? = some (0, 3)) : CALL yX3_init cX3_init 1 none d sh h [.inr (.inr this)] sh2 (K_X3 n h this) none := by
  subst hsh
  refine EV.call (own := RX3) (ini := true) rfl rfl (fun _ => rfl) ⟨[(1, 9), (1, 400), (1, 400), (1, 401)], by simp⟩ (Nat.le_of_ble_eq_true rfl) ?_
  refine EV.eqL (L2 := [some (.inr (.inr this))]) rfl ?_
  refine EV.aload_n dX3_init_0 rfl rfl ?_
  refine EV.obj dX3_init_1 ml_X3_3 w_oii w_oic (by omega) (Nat.le_of_ble_eq_true rfl) ?_
  refine EV.aload_n dX3_init_4 rfl rfl ?_
  refine EV.bipush dX3_init_5 (by decide) (by decide) ?_
  refine EV.newaC1 (n := n) (m := 9) (sh2 := (sh ++ [(1, 9)])) (by simp [hn]) rfl rfl dX3_init_7 w_ar_int (by decide) (by decide) (by simp only [pv_SB]; omega) ⟨[(1, 400), (1, 400), (1, 401)], by simp⟩ ?_
  refine EV.putF dX3_init_9 (pv_apl e0) fl_3_9 rfl rfl rfl ⟨rfl, by simp [hn], rfl⟩ ?_
  refine EV.aload_n dX3_init_12 rfl rfl ?_
  refine EV.sipush dX3_init_13 (by decide) (by decide) ?_
  refine EV.newaC1 (n := (n + 1)) (m := 400) (sh2 := ((sh ++ [(1, 9)]) ++ [(1, 400)])) (by simp [hn]) rfl rfl dX3_init_16 w_ar_int (by decide) (by decide) (by simp only [pv_SB]; omega) ⟨[(1, 400), (1, 401)], by simp⟩ ?_
  refine EV.putF dX3_init_18 (pv_apl (pv_apl e0)) fl_3_15 rfl rfl rfl ⟨rfl, by simp [hn], rfl⟩ ?_
  refine EV.aload_n dX3_init_21 rfl rfl ?_
  refine EV.sipush dX3_init_22 (by decide) (by decide) ?_
  refine EV.newaC1 (n := (n + 2)) (m := 400) (sh2 := (((sh ++ [(1, 9)]) ++ [(1, 400)]) ++ [(1, 400)])) (by simp [hn]) rfl rfl dX3_init_25 w_ar_int (by decide) (by decide) (by simp only [pv_SB]; omega) ⟨[(1, 401)], by simp⟩ ?_
  refine EV.putF dX3_init_27 (pv_apl (pv_apl (pv_apl e0))) fl_3_18 rfl rfl rfl ⟨rfl, by simp [hn], rfl⟩ ?_
  refine EV.aload_n dX3_init_30 rfl rfl ?_
  refine EV.sipush dX3_init_31 (by decide) (by decide) ?_
  refine EV.newaC1 (n := (n + 3)) (m := 401) (sh2 := ((((sh ++ [(1, 9)]) ++ [(1, 400)]) ++ [(1, 400)]) ++ [(1, 401)])) (by simp [hn]) rfl rfl dX3_init_34 w_ar_int (by decide) (by decide) (by simp only [pv_SB]; omega) ⟨[], by simp⟩ ?_
  refine EV.putF dX3_init_36 (pv_apl (pv_apl (pv_apl (pv_apl e0)))) fl_3_21 rfl rfl rfl ⟨rfl, by simp [hn], rfl⟩ ?_
  exact EV.vret dX3_init_39

def K_X5 (n : Nat) (h : pv_H) (this : Nat) : pv_H := (pv_up (pv_ur (pv_up (pv_ur (pv_up (pv_ur (pv_up (pv_ur (pv_up (pv_ur h n (fun _ => 0)) this 2 ((n : Nat) : Int)) (n + 1) (fun _ => 0)) this 3 (((n + 1) : Nat) : Int)) (n + 2) (fun _ => 0)) this 4 (((n + 2) : Nat) : Int)) (n + 3) (fun _ => 0)) this 5 (((n + 3) : Nat) : Int)) (n + 4) (fun _ => 0)) this 6 (((n + 4) : Nat) : Int))
theorem ct_X5 {d : Nat} {sh sh2 : pv_Sh} {h : pv_H} {this n : Nat} (hn : sh.length = n) (hsh : (((((sh ++ [(1, 60)]) ++ [(1, 60)]) ++ [(1, 60)]) ++ [(1, 60)]) ++ [(1, 60)]) = sh2) (hs : n ≤ 100000) (hd : 1 ≤ d) (e0 : sh[this]? = some (0, 5)) : CALL yX5_init cX5_init 1 none d sh h [.inr (.inr this)] sh2 (K_X5 n h this) none := by
  subst hsh
  refine EV.call (own := RX5) (ini := true) rfl rfl (fun _ => rfl) ⟨[(1, 60), (1, 60), (1, 60), (1, 60), (1, 60)], by simp⟩ (Nat.le_of_ble_eq_true rfl) ?_
  refine EV.eqL (L2 := [some (.inr (.inr this))]) rfl ?_
  refine EV.aload_n dX5_init_0 rfl rfl ?_
  refine EV.obj dX5_init_1 ml_X5_3 w_oii w_oic (by omega) (Nat.le_of_ble_eq_true rfl) ?_
  refine EV.aload_n dX5_init_4 rfl rfl ?_
  refine EV.bipush dX5_init_5 (by decide) (by decide) ?_
  refine EV.newaC1 (n := n) (m := 60) (sh2 := (sh ++ [(1, 60)])) (by simp [hn]) rfl rfl dX5_init_7 w_ar_int (by decide) (by decide) (by simp only [pv_SB]; omega) ⟨[(1, 60), (1, 60), (1, 60), (1, 60)], by simp⟩ ?_
  refine EV.putF dX5_init_9 (pv_apl e0) fl_5_9 rfl rfl rfl ⟨rfl, by simp [hn], rfl⟩ ?_
  refine EV.aload_n dX5_init_12 rfl rfl ?_
  refine EV.bipush dX5_init_13 (by decide) (by decide) ?_
  refine EV.newaC1 (n := (n + 1)) (m := 60) (sh2 := ((sh ++ [(1, 60)]) ++ [(1, 60)])) (by simp [hn]) rfl rfl dX5_init_15 w_ar_int (by decide) (by decide) (by simp only [pv_SB]; omega) ⟨[(1, 60), (1, 60), (1, 60)], by simp⟩ ?_
  refine EV.putF dX5_init_17 (pv_apl (pv_apl e0)) fl_5_15 rfl rfl rfl ⟨rfl, by simp [hn], rfl⟩ ?_
  refine EV.aload_n dX5_init_20 rfl rfl ?_
  refine EV.bipush dX5_init_21 (by decide) (by decide) ?_
  refine EV.newaC1 (n := (n + 2)) (m := 60) (sh2 := (((sh ++ [(1, 60)]) ++ [(1, 60)]) ++ [(1, 60)])) (by simp [hn]) rfl rfl dX5_init_23 w_ar_int (by decide) (by decide) (by simp only [pv_SB]; omega) ⟨[(1, 60), (1, 60)], by simp⟩ ?_
  refine EV.putF dX5_init_25 (pv_apl (pv_apl (pv_apl e0))) fl_5_18 rfl rfl rfl ⟨rfl, by simp [hn], rfl⟩ ?_
  refine EV.aload_n dX5_init_28 rfl rfl ?_
  refine EV.bipush dX5_init_29 (by decide) (by decide) ?_
  refine EV.newaC1 (n := (n + 3)) (m := 60) (sh2 := ((((sh ++ [(1, 60)]) ++ [(1, 60)]) ++ [(1, 60)]) ++ [(1, 60)])) (by simp [hn]) rfl rfl dX5_init_31 w_ar_int (by decide) (by decide) (by simp only [pv_SB]; omega) ⟨[(1, 60)], by simp⟩ ?_
  refine EV.putF dX5_init_33 (pv_apl (pv_apl (pv_apl (pv_apl e0)))) fl_5_21 rfl rfl rfl ⟨rfl, by simp [hn], rfl⟩ ?_
  refine EV.aload_n dX5_init_36 rfl rfl ?_
  refine EV.bipush dX5_init_37 (by decide) (by decide) ?_
  refine EV.newaC1 (n := (n + 4)) (m := 60) (sh2 := (((((sh ++ [(1, 60)]) ++ [(1, 60)]) ++ [(1, 60)]) ++ [(1, 60)]) ++ [(1, 60)])) (by simp [hn]) rfl rfl dX5_init_39 w_ar_int (by decide) (by decide) (by simp only [pv_SB]; omega) ⟨[], by simp⟩ ?_
  refine EV.putF dX5_init_41 (pv_apl (pv_apl (pv_apl (pv_apl (pv_apl e0))))) fl_5_24 rfl rfl rfl ⟨rfl, by simp [hn], rfl⟩ ?_
  exact EV.vret dX5_init_44

def K_X6 (n : Nat) (h : pv_H) (this : Nat) : pv_H := (pv_up (pv_ur h n (fun _ => 0)) this 2 ((n : Nat) : Int))
theorem ct_X6 {d : Nat} {sh sh2 : pv_Sh} {h : pv_H} {this n : Nat} (hn : sh.length = n) (hsh : (sh ++ [(2, 60)]) = sh2) (hs : n ≤ 100000) (hd : 1 ≤ d) (e0 : sh[this]? = some (0, 6)) : CALL yX6_init cX6_init 1 none d sh h [.inr (.inr this)] sh2 (K_X6 n h this) none := by
  subst hsh
  refine EV.call (own := RX6) (ini := true) rfl rfl (fun _ => rfl) ⟨[(2, 60)], by simp⟩ (Nat.le_of_ble_eq_true rfl) ?_
  refine EV.eqL (L2 := [some (.inr (.inr this))]) rfl ?_
  refine EV.aload_n dX6_init_0 rfl rfl ?_
  refine EV.obj dX6_init_1 ml_X6_3 w_oii w_oic (by omega) (Nat.le_of_ble_eq_true rfl) ?_
  refine EV.aload_n dX6_init_4 rfl rfl ?_
  refine EV.bipush dX6_init_5 (by decide) (by decide) ?_
  refine EV.newaC2 (n := n) (m := 60) (sh2 := (sh ++ [(2, 60)])) (by simp [hn]) rfl rfl dX6_init_7 w_ar_long (by decide) (by decide) (by simp only [pv_SB]; omega) ⟨[], by simp⟩ ?_
  refine EV.putF dX6_init_9 (pv_apl e0) fl_6_9 rfl rfl rfl ⟨rfl, by simp [hn], rfl⟩ ?_
  exact EV.vret dX6_init_12

def K_X7 (n : Nat) (h : pv_H) (this : Nat) : pv_H := (pv_up (pv_ur (pv_up (pv_ur (pv_up (pv_ur (pv_up (pv_ur h n (fun _ => 0)) this 1 ((n : Nat) : Int)) (n + 1) (fun _ => 0)) this 2 (((n + 1) : Nat) : Int)) (n + 2) (fun _ => 0)) this 3 (((n + 2) : Nat) : Int)) (n + 3) (fun _ => 0)) this 4 (((n + 3) : Nat) : Int))
theorem ct_X7 {d : Nat} {sh sh2 : pv_Sh} {h : pv_H} {this n : Nat} (hn : sh.length = n) (hsh : ((((sh ++ [(1, 8)]) ++ [(1, 240)]) ++ [(1, 1200)]) ++ [(1, 60)]) = sh2) (hs : n ≤ 100000) (hd : 1 ≤ d) (e0 : sh[this]? = some (0, 7)) : CALL yX7_init cX7_init 1 none d sh h [.inr (.inr this)] sh2 (K_X7 n h this) none := by
  subst hsh
  refine EV.call (own := RX7) (ini := true) rfl rfl (fun _ => rfl) ⟨[(1, 8), (1, 240), (1, 1200), (1, 60)], by simp⟩ (Nat.le_of_ble_eq_true rfl) ?_
  refine EV.eqL (L2 := [some (.inr (.inr this))]) rfl ?_
  refine EV.aload_n dX7_init_0 rfl rfl ?_
  refine EV.obj dX7_init_1 ml_X7_3 w_oii w_oic (by omega) (Nat.le_of_ble_eq_true rfl) ?_
  refine EV.aload_n dX7_init_4 rfl rfl ?_
  refine EV.bipush dX7_init_5 (by decide) (by decide) ?_
  refine EV.newaC1 (n := n) (m := 8) (sh2 := (sh ++ [(1, 8)])) (by simp [hn]) rfl rfl dX7_init_7 w_ar_int (by decide) (by decide) (by simp only [pv_SB]; omega) ⟨[(1, 240), (1, 1200), (1, 60)], by simp⟩ ?_
  refine EV.putF dX7_init_9 (pv_apl e0) fl_7_9 rfl rfl rfl ⟨rfl, by simp [hn], rfl⟩ ?_
  refine EV.aload_n dX7_init_12 rfl rfl ?_
  refine EV.sipush dX7_init_13 (by decide) (by decide) ?_
  refine EV.newaC1 (n := (n + 1)) (m := 240) (sh2 := ((sh ++ [(1, 8)]) ++ [(1, 240)])) (by simp [hn]) rfl rfl dX7_init_16 w_ar_int (by decide) (by decide) (by simp only [pv_SB]; omega) ⟨[(1, 1200), (1, 60)], by simp⟩ ?_
  refine EV.putF dX7_init_18 (pv_apl (pv_apl e0)) fl_7_15 rfl rfl rfl ⟨rfl, by simp [hn], rfl⟩ ?_
  refine EV.aload_n dX7_init_21 rfl rfl ?_
  refine EV.sipush dX7_init_22 (by decide) (by decide) ?_
  refine EV.newaC1 (n := (n + 2)) (m := 1200) (sh2 := (((sh ++ [(1, 8)]) ++ [(1, 240)]) ++ [(1, 1200)])) (by simp [hn]) rfl rfl dX7_init_25 w_ar_int (by decide) (by decide) (by simp only [pv_SB]; omega) ⟨[(1, 60)], by simp⟩ ?_
  refine EV.putF dX7_init_27 (pv_apl (pv_apl (pv_apl e0))) fl_7_18 rfl rfl rfl ⟨rfl, by simp [hn], rfl⟩ ?_
  refine EV.aload_n dX7_init_30 rfl rfl ?_
  refine EV.bipush dX7_init_31 (by decide) (by decide) ?_
  refine EV.newaC1 (n := (n + 3)) (m := 60) (sh2 := ((((sh ++ [(1, 8)]) ++ [(1, 240)]) ++ [(1, 1200)]) ++ [(1, 60)])) (by simp [hn]) rfl rfl dX7_init_33 w_ar_int (by decide) (by decide) (by simp only [pv_SB]; omega) ⟨[], by simp⟩ ?_
  refine EV.putF dX7_init_35 (pv_apl (pv_apl (pv_apl (pv_apl e0)))) fl_7_21 rfl rfl rfl ⟨rfl, by simp [hn], rfl⟩ ?_
  exact EV.vret dX7_init_38

def K_X2 (n : Nat) (h : pv_H) (this : Nat) : pv_H := (K_begin (pv_up (pv_ur h n (fun _ => 0)) this 1 ((n : Nat) : Int)) this n)
theorem ct_X2 {d : Nat} {sh sh2 : pv_Sh} {h : pv_H} {this n : Nat} (hn : sh.length = n) (hsh : (sh ++ [(1, 8)]) = sh2) (hs : n ≤ 100000) (hd : 2 ≤ d) (e0 : sh[this]? = some (0, 2)) : CALL yX2_init cX2_init 1 none d sh h [.inr (.inr this)] sh2 (K_X2 n h this) none := by
  subst hsh
  refine EV.call (own := RX2) (ini := true) rfl rfl (fun _ => rfl) ⟨[(1, 8)], by simp⟩ (Nat.le_of_ble_eq_true rfl) ?_
  refine EV.eqL (L2 := [some (.inr (.inr this))]) rfl ?_
  refine EV.aload_n dX2_init_0 rfl rfl ?_
  refine EV.obj dX2_init_1 ml_X2_3 w_oii w_oic (by omega) (Nat.le_of_ble_eq_true rfl) ?_
  refine EV.aload_n dX2_init_4 rfl rfl ?_
  refine EV.bipush dX2_init_5 (by decide) (by decide) ?_
  refine EV.newaC1 (n := n) (m := 8) (sh2 := (sh ++ [(1, 8)])) (by simp [hn]) rfl rfl dX2_init_7 w_ar_int (by decide) (by decide) (by simp only [pv_SB]; omega) ⟨[], by simp⟩ ?_
  refine EV.putF dX2_init_9 (pv_apl e0) fl_2_9 rfl rfl rfl ⟨rfl, by simp [hn], rfl⟩ ?_
  refine EV.aload_n dX2_init_12 rfl rfl ?_
  refine EV.invV (As := []) (st := []) (d1 := d - 1) (sh1 := (sh ++ [(1, 8)])) (h1 := (K_begin (pv_up (pv_ur h n (fun _ => 0)) this 1 ((n : Nat) : Int)) this n)) (r1 := none) dX2_init_13 (pv_apl e0) (by decide) md_X2_begin ml_X2_15 im_X2_begin se_X2_begin (ct_begin (by omega) (pv_apl e0) (by rw [← hn]; simp) (pv_up_self _ _ _ _)) (by omega) rfl rfl (Nat.le_of_ble_eq_true rfl) ⟨[], by simp⟩ ?_
  exact EV.vret dX2_init_16
