/-! classes: names, field tables, what the tables say of them -/
def pv_cn (ci : Nat) : String := match ci with
  | 0 => RX0
  | 1 => RX1
  | 2 => RX2
  | 3 => RX3
  | 4 => RX4
  | 5 => RX5
  | 6 => RX6
  | 7 => RX7
  | 8 => RX8
  | 9 => RX9
  | _ => RX10
def pv_T (ci : Nat) : u_T := match ci with
  | 0 => TX0
  | 1 => TX1
  | 2 => TX2
  | 3 => TX3
  | 4 => TX4
  | 5 => TX5
  | 6 => TX6
  | 7 => TX7
  | 8 => TX8
  | 9 => TX9
  | _ => TX10
theorem pv_cl : ∀ ci, ci < 11 → vwCl[ci]? = some (pv_cn ci, pv_T ci, pv_nf ci) := by
  intro ci hc
  match ci, hc with
  | 0, _ => rfl
  | 1, _ => rfl
  | 2, _ => rfl
  | 3, _ => rfl
  | 4, _ => rfl
  | 5, _ => rfl
  | 6, _ => rfl
  | 7, _ => rfl
  | 8, _ => rfl
  | 9, _ => rfl
  | 10, _ => rfl
  | n + 11, hc => omega
set_option maxRecDepth 20000 in
theorem pv_iw0 : ∀ w ∈ u_ws RX0 TX0 4, w ∈ pv_W := by decide +kernel
set_option maxRecDepth 20000 in
theorem pv_iw1 : ∀ w ∈ u_ws RX1 TX1 18, w ∈ pv_W := by decide +kernel
set_option maxRecDepth 20000 in
theorem pv_iw2 : ∀ w ∈ u_ws RX2 TX2 2, w ∈ pv_W := by decide +kernel
set_option maxRecDepth 20000 in
theorem pv_iw3 : ∀ w ∈ u_ws RX3 TX3 5, w ∈ pv_W := by decide +kernel
set_option maxRecDepth 20000 in
theorem pv_iw4 : ∀ w ∈ u_ws RX4 TX4 14, w ∈ pv_W := by decide +kernel
set_option maxRecDepth 20000 in
theorem pv_iw5 : ∀ w ∈ u_ws RX5 TX5 7, w ∈ pv_W := by decide +kernel
set_option maxRecDepth 20000 in
theorem pv_iw6 : ∀ w ∈ u_ws RX6 TX6 4, w ∈ pv_W := by decide +kernel
set_option maxRecDepth 20000 in
theorem pv_iw7 : ∀ w ∈ u_ws RX7 TX7 5, w ∈ pv_W := by decide +kernel
set_option maxRecDepth 20000 in
theorem pv_iw8 : ∀ w ∈ u_ws RX8 TX8 7, w ∈ pv_W := by decide +kernel
set_option maxRecDepth 20000 in
theorem pv_iw9 : ∀ w ∈ u_ws RX9 TX9 8, w ∈ pv_W := by decide +kernel
set_option maxRecDepth 20000 in
theorem pv_iw10 : ∀ w ∈ u_ws RX10 TX10 66, w ∈ pv_W := by decide +kernel
theorem pv_iw : ∀ ci, ci < 11 → ∀ w ∈ u_ws (pv_cn ci) (pv_T ci) (pv_nf ci), w ∈ pv_W := by
  intro ci hc
  match ci, hc with
  | 0, _ => exact pv_iw0
  | 1, _ => exact pv_iw1
  | 2, _ => exact pv_iw2
  | 3, _ => exact pv_iw3
  | 4, _ => exact pv_iw4
  | 5, _ => exact pv_iw5
  | 6, _ => exact pv_iw6
  | 7, _ => exact pv_iw7
  | 8, _ => exact pv_iw8
  | 9, _ => exact pv_iw9
  | 10, _ => exact pv_iw10
  | n + 11, hc => omega
theorem pv_tyok : ∀ ci, ci < 11 → ∀ k, k < pv_nf ci → parseFieldDescriptor (pv_T ci k).2.2.1 = some (pv_ty ci k) := by
  intro ci hc
  match ci, hc with
  | 0, _ => exact tyX0_ok
  | 1, _ => exact tyX1_ok
  | 2, _ => exact tyX2_ok
  | 3, _ => exact tyX3_ok
  | 4, _ => exact tyX4_ok
  | 5, _ => exact tyX5_ok
  | 6, _ => exact tyX6_ok
  | 7, _ => exact tyX7_ok
  | 8, _ => exact tyX8_ok
  | 9, _ => exact tyX9_ok
  | 10, _ => exact tyX10_ok
  | n + 11, hc => omega
theorem pv_nm : ∀ ci, ci < 11 → ∀ a, a < pv_nf ci → ∀ b, b < pv_nf ci → a ≠ b → (pv_T ci a).2.1 ≠ (pv_T ci b).2.1 := by
  intro ci hc
  match ci, hc with
  | 0, _ => exact nmX0
  | 1, _ => exact nmX1
  | 2, _ => exact nmX2
  | 3, _ => exact nmX3
  | 4, _ => exact nmX4
  | 5, _ => exact nmX5
  | 6, _ => exact nmX6
  | 7, _ => exact nmX7
  | 8, _ => exact nmX8
  | 9, _ => exact nmX9
  | 10, _ => exact nmX10
  | n + 11, hc => omega
/-- a field by its place in the pool of a class -/
def pv_FL (own : String) (idx ci k : Nat) : Prop := ci < 11 ∧ k < pv_nf ci ∧ Cond.fieldLink own idx (pv_T ci k).1 (pv_T ci k).2.1 (pv_T ci k).2.2.1 ∈ pv_W
def pv_fs (ad : Nat → Nat) (ci : Nat) (f : Nat → Int) : List Value := (List.range (pv_nf ci)).map (fun k => pv_sv ad (pv_fk (pv_ty ci k)) (f k))
theorem pv_fs_at {ad : Nat → Nat} {ci k : Nat} {f : Nat → Int} (hk : k < pv_nf ci) : (pv_fs ad ci f)[k]? = some (pv_sv ad (pv_fk (pv_ty ci k)) (f k)) := by
  unfold pv_fs
  rw [List.getElem?_map, List.getElem?_range hk]
  rfl
theorem pv_fs_len {ad : Nat → Nat} {ci : Nat} {f : Nat → Int} : (pv_fs ad ci f).length = pv_nf ci := by simp [pv_fs]
theorem pv_fs_set {ad : Nat → Nat} {ci k : Nat} {f g : Nat → Int} {v : Value} (hk : k < pv_nf ci) (hv : pv_sv ad (pv_fk (pv_ty ci k)) (g k) = v) (ho : ∀ j, j ≠ k → g j = f j) : pv_fs ad ci g = (pv_fs ad ci f).set k v := by
  apply List.ext_getElem?
  intro j
  by_cases hj : j = k
  · subst hj
    rw [pv_fs_at hk, List.getElem?_set_self (by rw [pv_fs_len]; exact hk), hv]
  · rw [List.getElem?_set_ne (Ne.symm hj)]
    by_cases hl : j < pv_nf ci
    · rw [pv_fs_at hl, pv_fs_at hl, ho j hj]
    · rw [List.getElem?_eq_none (by rw [pv_fs_len]; omega), List.getElem?_eq_none (by rw [pv_fs_len]; omega)]
theorem pv_oH_up {sh : pv_Sh} {h : pv_H} {i k : Nat} {x : Int} {q : Nat × Nat} (o : pv_oH sh h) (e : sh[i]? = some q) (hx : pv_os sh.length (pv_kd q k) x) : pv_oH sh (pv_up h i k x) := by
  intro a q2 ea b
  by_cases hab : a = i ∧ b = k
  · obtain ⟨rfl, rfl⟩ := hab
    rw [e] at ea
    cases ea
    rw [pv_up_self]
    exact hx
  · rw [pv_up_ne (by by_cases z : a = i; exact Or.inr (fun y => hab ⟨z, y⟩); exact Or.inl z)]
    exact o a q2 ea b
/-- what a value is as a field's number -/
def pv_pv (ty : FieldType) (n : Nat) (v : pv_V) (x : Int) : Prop := match v with
  | .inl y => x = y ∧ (ty = .int ∨ (ty = .boolean ∧ (y = 0 ∨ y = 1)))
  | .inr (.inl y) => x = y ∧ ty = .long
  | .inr (.inr q) => x = (q : Int) ∧ q < n ∧ pv_fk ty = 2
theorem pv_pv.ok {ad : Nat → Nat} {ty : FieldType} {n : Nat} {v : pv_V} {x : Int} (hv : pv_pv ty n v x) (o : pv_ok n v) : pv_sv ad (pv_fk ty) x = pv_tv ad v ∧ narrow ty (pv_tv ad v) = pv_tv ad v ∧ fits ty (pv_tv ad v) = true ∧ pv_os n (pv_fk ty) x := by
  rcases v with y | y | q
  · obtain ⟨rfl, rfl | ⟨rfl, rfl | rfl⟩⟩ := hv
    · exact ⟨rfl, rfl, rfl, o⟩
    · exact ⟨rfl, rfl, rfl, o⟩
    · exact ⟨rfl, rfl, rfl, o⟩
  · obtain ⟨rfl, rfl⟩ := hv
    exact ⟨rfl, rfl, rfl, o⟩
  · obtain ⟨rfl, h1, h2⟩ := hv
    refine ⟨?_, ?_, ?_, ?_⟩
    · rw [h2]
      show (if ((q : Int) < 0) then Value.null else .ref (ad ((q : Int)).toNat)) = _
      rw [if_neg (by omega), Int.toNat_natCast]
      rfl
    · cases ty <;> first | rfl | cases h2
    · cases ty <;> first | rfl | cases h2
    · rw [h2]
      show (q : Int) < (n : Int)
      omega
theorem pv_nchar {x : Int} (h1 : 0 ≤ x) (h2 : x ≤ 127) : vp_nar .char (Int32.ofInt x) = Int32.ofInt x := by
  have key : ∀ k : Nat, k < 128 → vp_nar .char (Int32.ofInt (k : Int)) = Int32.ofInt (k : Int) := by decide +kernel
  have := key x.toNat (by omega)
  rwa [Int.toNat_of_nonneg h1] at this
section RULES
variable {own : String} {cc : ByteArray} {nL : Nat} {ret : Option FieldType} {ini : Bool} {d : Nat} {sh' : pv_Sh} {h' : pv_H} {r : Option pv_V} {pc : Nat} {L : List (Option pv_V)} {st : List pv_V} {sh : pv_Sh} {h : pv_H}
theorem EV.getI {q ci z idx : Nat} (hd : decode cc pc = .ok (.getfield idx, 3)) (e0 : sh[q]? = some (0, ci)) (hf : pv_FL own idx ci z) (hk0 : pv_fk (pv_ty ci z) = 0) (k : EV own cc nL ret ini d sh' h' r (pc + 3) L (.inl (h q z) :: st) sh h) : EV own cc nL ret ini d sh' h' r pc L (.inr (.inr q) :: st) sh h := by
  intro p l e s m args below meth c D aC ad0 ad A n0 s0 cells slots mc ms H locs ls C N R
  obtain ⟨hx, hb, hml, hrt, hown, hts, hlk, hin, hA, hK, hSt⟩ := id C
  obtain ⟨ag, hP, hD, oH, hS, hl, oL, oS⟩ := id R
  obtain ⟨o1, oS⟩ := List.forall_mem_cons.mp oS
  have oz := oH q _ e0 z
  have ez : pv_kd (0, ci) z = 0 := hk0
  rw [ez] at oz
  have hw : (pv_ws aC ad sh h)[q]? = some (ad q, .inr (ci, pv_fs ad ci (h q))) := pv_ws_at e0
  refine va_get (v := pv_tv ad (.inl (h q z))) hx hb hts (pv_iw ci hf.1) hown hK hP q hw (pv_cl ci hf.1) z hf.2.1 (hts _ hf.2.2) (fun _ z => z) (by rw [pv_fs_at hf.2.1, hk0]; rfl) hd ?_
  exact k _ _ _ _ _ _ _ _ _ _ _ _ _ _ _ _ _ _ _ _ _ _ _ C N ⟨ag, hP, hD, oH, hS, hl, oL, List.forall_mem_cons.mpr ⟨oz, oS⟩⟩
theorem EV.getR {q ci z idx : Nat} (hd : decode cc pc = .ok (.getfield idx, 3)) (e0 : sh[q]? = some (0, ci)) (hf : pv_FL own idx ci z) (hk0 : pv_fk (pv_ty ci z) = 2) (h0 : 0 ≤ h q z) (k : EV own cc nL ret ini d sh' h' r (pc + 3) L (.inr (.inr (h q z).toNat) :: st) sh h) : EV own cc nL ret ini d sh' h' r pc L (.inr (.inr q) :: st) sh h := by
  intro p l e s m args below meth c D aC ad0 ad A n0 s0 cells slots mc ms H locs ls C N R
  obtain ⟨hx, hb, hml, hrt, hown, hts, hlk, hin, hA, hK, hSt⟩ := id C
  obtain ⟨ag, hP, hD, oH, hS, hl, oL, oS⟩ := id R
  obtain ⟨o1, oS⟩ := List.forall_mem_cons.mp oS
  have oz := oH q _ e0 z
  have ez : pv_kd (0, ci) z = 2 := hk0
  rw [ez] at oz
  have oz : h q z < (sh.length : Int) := oz
  have hw : (pv_ws aC ad sh h)[q]? = some (ad q, .inr (ci, pv_fs ad ci (h q))) := pv_ws_at e0
  refine va_get (v := pv_tv ad (.inr (.inr (h q z).toNat))) hx hb hts (pv_iw ci hf.1) hown hK hP q hw (pv_cl ci hf.1) z hf.2.1 (hts _ hf.2.2) (fun _ z => z) (by rw [pv_fs_at hf.2.1, hk0]; show some (if _ then _ else _) = _; rw [if_neg (by omega)]; rfl) hd ?_
  exact k _ _ _ _ _ _ _ _ _ _ _ _ _ _ _ _ _ _ _ _ _ _ _ C N ⟨ag, hP, hD, oH, hS, hl, oL, List.forall_mem_cons.mpr ⟨Or.inl (by omega), oS⟩⟩
theorem EV.put {v : pv_V} {x : Int} {q ci z idx : Nat} (hd : decode cc pc = .ok (.putfield idx, 3)) (e0 : sh[q]? = some (0, ci)) (hf : pv_FL own idx ci z) (hfin : (pv_T ci z).2.2.2 = false) (hv : pv_pv (pv_ty ci z) sh.length v x) (k : EV own cc nL ret ini d sh' h' r (pc + 3) L st sh (pv_up h q z x)) : EV own cc nL ret ini d sh' h' r pc L (v :: .inr (.inr q) :: st) sh h := by
  intro p l e s m args below meth c D aC ad0 ad A n0 s0 cells slots mc ms H locs ls C N R
  obtain ⟨hx, hb, hml, hrt, hown, hts, hlk, hin, hA, hK, hSt⟩ := id C
  obtain ⟨ag, hP, hD, oH, hS, hl, oL, oS⟩ := id R
  obtain ⟨o1, oS⟩ := List.forall_mem_cons.mp oS
  obtain ⟨o2, oS⟩ := List.forall_mem_cons.mp oS
  obtain ⟨v1, v2, v3, v4⟩ := hv.ok (ad := ad) o1
  have hw : (pv_ws aC ad sh h)[q]? = some (ad q, .inr (ci, pv_fs ad ci (h q))) := pv_ws_at e0
  have ew : pv_ws aC ad sh (pv_up h q z x) = (pv_ws aC ad sh h).set q (ad q, .inr (ci, (pv_fs ad ci (h q)).set z (pv_tv ad v))) := by
    rw [pv_ws_set (h := h) e0 (fun j hj => pv_up_row hj)]
    congr 2
    show Sum.inr (ci, pv_fs ad ci _) = _
    rw [pv_fs_set (ad := ad) (f := h q) (g := pv_up h q z x q) (v := pv_tv ad v) hf.2.1 (by rw [pv_up_self]; exact v1) (fun j hj => pv_up_ne (Or.inr hj))]
  refine va_put hx hb hts (pv_iw ci hf.1) (pv_ty ci) (pv_tyok ci hf.1) (pv_nm ci hf.1) hown hK hP hD hS q hw (pv_cl ci hf.1) z hf.2.1 (hts _ hf.2.2) (fun _ z => z) hfin (pv_tyok ci hf.1 z hf.2.1) v2 v3 (by rw [pv_fs_len]; exact hf.2.1) hd (fun H1 locs1 hP hD hS => ?_)
  rw [← ew] at hP hD
  have oH := pv_oH_up oH e0 v4
  exact k _ _ _ _ _ _ _ _ _ _ _ _ _ _ _ _ _ _ _ _ _ _ _ C N ⟨ag, hP, hD, oH, hS, hl, oL, oS⟩
theorem EV.putF {v : pv_V} {x : Int} {q ci z idx : Nat} (hd : decode cc pc = .ok (.putfield idx, 3)) (e0 : sh[q]? = some (0, ci)) (hf : pv_FL own idx ci z) (hfin : (pv_T ci z).2.2.2 = true) (hi : ini = true) (ho : (pv_T ci z).1 = own) (hv : pv_pv (pv_ty ci z) sh.length v x) (k : EV own cc nL ret ini d sh' h' r (pc + 3) L st sh (pv_up h q z x)) : EV own cc nL ret ini d sh' h' r pc L (v :: .inr (.inr q) :: st) sh h := by
  intro p l e s m args below meth c D aC ad0 ad A n0 s0 cells slots mc ms H locs ls C N R
  obtain ⟨hx, hb, hml, hrt, hown, hts, hlk, hin, hA, hK, hSt⟩ := id C
  obtain ⟨ag, hP, hD, oH, hS, hl, oL, oS⟩ := id R
  obtain ⟨o1, oS⟩ := List.forall_mem_cons.mp oS
  obtain ⟨o2, oS⟩ := List.forall_mem_cons.mp oS
  obtain ⟨v1, v2, v3, v4⟩ := hv.ok (ad := ad) o1
  have hw : (pv_ws aC ad sh h)[q]? = some (ad q, .inr (ci, pv_fs ad ci (h q))) := pv_ws_at e0
  have ew : pv_ws aC ad sh (pv_up h q z x) = (pv_ws aC ad sh h).set q (ad q, .inr (ci, (pv_fs ad ci (h q)).set z (pv_tv ad v))) := by
    rw [pv_ws_set (h := h) e0 (fun j hj => pv_up_row hj)]
    congr 2
    show Sum.inr (ci, pv_fs ad ci _) = _
    rw [pv_fs_set (ad := ad) (f := h q) (g := pv_up h q z x q) (v := pv_tv ad v) hf.2.1 (by rw [pv_up_self]; exact v1) (fun j hj => pv_up_ne (Or.inr hj))]
  refine va_putF hx hb hts (pv_iw ci hf.1) (pv_ty ci) (pv_tyok ci hf.1) (pv_nm ci hf.1) hown hK hP hD hS q hw (pv_cl ci hf.1) z hf.2.1 (hts _ hf.2.2) (fun _ z => z) hfin (hin hi) ho (pv_tyok ci hf.1 z hf.2.1) v2 v3 (by rw [pv_fs_len]; exact hf.2.1) hd (fun H1 locs1 hP hD hS => ?_)
  rw [← ew] at hP hD
  have oH := pv_oH_up oH e0 v4
  exact k _ _ _ _ _ _ _ _ _ _ _ _ _ _ _ _ _ _ _ _ _ _ _ C N ⟨ag, hP, hD, oH, hS, hl, oL, oS⟩
theorem EV.iald {q n : Nat} {i : Int} (hd : decode cc pc = .ok (.iaload, 1)) (e0 : sh[q]? = some (1, n)) (h1 : 0 ≤ i) (h2 : i < (n : Int)) (k : EV own cc nL ret ini d sh' h' r (pc + 1) L (.inl (h q i.toNat) :: st) sh h) : EV own cc nL ret ini d sh' h' r pc L (.inl i :: .inr (.inr q) :: st) sh h := by
  intro p l e s m args below meth c D aC ad0 ad A n0 s0 cells slots mc ms H locs ls C N R
  obtain ⟨hx, hb, hml, hrt, hown, hts, hlk, hin, hA, hK, hSt⟩ := id C
  obtain ⟨ag, hP, hD, oH, hS, hl, oL, oS⟩ := id R
  obtain ⟨o1, oS⟩ := List.forall_mem_cons.mp oS
  obtain ⟨o2, oS⟩ := List.forall_mem_cons.mp oS
  have oz := oH q _ e0 i.toNat
  have ei : (Int32.ofInt i).toNatClampNeg = i.toNat := pv_clamp o1.1 o1.2
  refine va_iald hx hb hK hP q 0 (pv_ws_at e0) rfl (pv_in h1 h2 o1.2) hd ?_
  rw [ei]
  exact k _ _ _ _ _ _ _ _ _ _ _ _ _ _ _ _ _ _ _ _ _ _ _ C N ⟨ag, hP, hD, oH, hS, hl, oL, List.forall_mem_cons.mpr ⟨oz, oS⟩⟩
theorem EV.zald {q n : Nat} {i : Int} (hd : decode cc pc = .ok (.baload, 1)) (e0 : sh[q]? = some (3, n)) (h1 : 0 ≤ i) (h2 : i < (n : Int)) (k : EV own cc nL ret ini d sh' h' r (pc + 1) L (.inl (h q i.toNat) :: st) sh h) : EV own cc nL ret ini d sh' h' r pc L (.inl i :: .inr (.inr q) :: st) sh h := by
  intro p l e s m args below meth c D aC ad0 ad A n0 s0 cells slots mc ms H locs ls C N R
  obtain ⟨hx, hb, hml, hrt, hown, hts, hlk, hin, hA, hK, hSt⟩ := id C
  obtain ⟨ag, hP, hD, oH, hS, hl, oL, oS⟩ := id R
  obtain ⟨o1, oS⟩ := List.forall_mem_cons.mp oS
  obtain ⟨o2, oS⟩ := List.forall_mem_cons.mp oS
  have oz := oH q _ e0 i.toNat
  have ei : (Int32.ofInt i).toNatClampNeg = i.toNat := pv_clamp o1.1 o1.2
  refine va_zald hx hb hK hP q 2 (pv_ws_at e0) rfl (pv_in h1 h2 o1.2) hd ?_
  rw [ei]
  exact k _ _ _ _ _ _ _ _ _ _ _ _ _ _ _ _ _ _ _ _ _ _ _ C N ⟨ag, hP, hD, oH, hS, hl, oL, List.forall_mem_cons.mpr ⟨oz, oS⟩⟩
theorem EV.bald {q n : Nat} {i : Int} (hd : decode cc pc = .ok (.baload, 1)) (e0 : sh[q]? = some (4, n)) (h1 : 0 ≤ i) (h2 : i < (n : Int)) (k : EV own cc nL ret ini d sh' h' r (pc + 1) L (.inl (h q i.toNat) :: st) sh h) : EV own cc nL ret ini d sh' h' r pc L (.inl i :: .inr (.inr q) :: st) sh h := by
  intro p l e s m args below meth c D aC ad0 ad A n0 s0 cells slots mc ms H locs ls C N R
  obtain ⟨hx, hb, hml, hrt, hown, hts, hlk, hin, hA, hK, hSt⟩ := id C
  obtain ⟨ag, hP, hD, oH, hS, hl, oL, oS⟩ := id R
  obtain ⟨o1, oS⟩ := List.forall_mem_cons.mp oS
  obtain ⟨o2, oS⟩ := List.forall_mem_cons.mp oS
  have oz := oH q _ e0 i.toNat
  have ei : (Int32.ofInt i).toNatClampNeg = i.toNat := pv_clamp o1.1 o1.2
  refine va_bald hx hb hK hP q 3 (pv_ws_at e0) rfl (pv_in h1 h2 o1.2) hd ?_
  rw [ei]
  exact k _ _ _ _ _ _ _ _ _ _ _ _ _ _ _ _ _ _ _ _ _ _ _ C N ⟨ag, hP, hD, oH, hS, hl, oL, List.forall_mem_cons.mpr ⟨oz, oS⟩⟩
theorem EV.cald {q n : Nat} {i : Int} (hd : decode cc pc = .ok (.caload, 1)) (e0 : sh[q]? = some (9, n)) (h1 : 0 ≤ i) (h2 : i < (n : Int)) (k : EV own cc nL ret ini d sh' h' r (pc + 1) L (.inl (h q i.toNat) :: st) sh h) : EV own cc nL ret ini d sh' h' r pc L (.inl i :: .inr (.inr q) :: st) sh h := by
  intro p l e s m args below meth c D aC ad0 ad A n0 s0 cells slots mc ms H locs ls C N R
  obtain ⟨hx, hb, hml, hrt, hown, hts, hlk, hin, hA, hK, hSt⟩ := id C
  obtain ⟨ag, hP, hD, oH, hS, hl, oL, oS⟩ := id R
  obtain ⟨o1, oS⟩ := List.forall_mem_cons.mp oS
  obtain ⟨o2, oS⟩ := List.forall_mem_cons.mp oS
  have oz := oH q _ e0 i.toNat
  have ei : (Int32.ofInt i).toNatClampNeg = i.toNat := pv_clamp o1.1 o1.2
  refine va_cald hx hb hK hP q 8 (pv_ws_at e0) rfl (pv_in h1 h2 o1.2) hd ?_
  rw [ei]
  exact k _ _ _ _ _ _ _ _ _ _ _ _ _ _ _ _ _ _ _ _ _ _ _ C N ⟨ag, hP, hD, oH, hS, hl, oL, List.forall_mem_cons.mpr ⟨oz, oS⟩⟩
theorem EV.lald {q n : Nat} {i : Int} (hd : decode cc pc = .ok (.laload, 1)) (e0 : sh[q]? = some (2, n)) (h1 : 0 ≤ i) (h2 : i < (n : Int)) (k : EV own cc nL ret ini d sh' h' r (pc + 1) L (.inr (.inl (h q i.toNat)) :: st) sh h) : EV own cc nL ret ini d sh' h' r pc L (.inl i :: .inr (.inr q) :: st) sh h := by
  intro p l e s m args below meth c D aC ad0 ad A n0 s0 cells slots mc ms H locs ls C N R
  obtain ⟨hx, hb, hml, hrt, hown, hts, hlk, hin, hA, hK, hSt⟩ := id C
  obtain ⟨ag, hP, hD, oH, hS, hl, oL, oS⟩ := id R
  obtain ⟨o1, oS⟩ := List.forall_mem_cons.mp oS
  obtain ⟨o2, oS⟩ := List.forall_mem_cons.mp oS
  have oz := oH q _ e0 i.toNat
  have ei : (Int32.ofInt i).toNatClampNeg = i.toNat := pv_clamp o1.1 o1.2
  refine va_lald hx hb hK hP q 1 (pv_ws_at e0) rfl (pv_in h1 h2 o1.2) hd ?_
  rw [ei]
  exact k _ _ _ _ _ _ _ _ _ _ _ _ _ _ _ _ _ _ _ _ _ _ _ C N ⟨ag, hP, hD, oH, hS, hl, oL, List.forall_mem_cons.mpr ⟨oz, oS⟩⟩
theorem EV.iast {q n : Nat} {i x : Int} (hd : decode cc pc = .ok (.iastore, 1)) (e0 : sh[q]? = some (1, n)) (h1 : 0 ≤ i) (h2 : i < (n : Int))  (k : EV own cc nL ret ini d sh' h' r (pc + 1) L st sh (pv_up h q i.toNat x)) : EV own cc nL ret ini d sh' h' r pc L (.inl x :: .inl i :: .inr (.inr q) :: st) sh h := by
  intro p l e s m args below meth c D aC ad0 ad A n0 s0 cells slots mc ms H locs ls C N R
  obtain ⟨hx, hb, hml, hrt, hown, hts, hlk, hin, hA, hK, hSt⟩ := id C
  obtain ⟨ag, hP, hD, oH, hS, hl, oL, oS⟩ := id R
  obtain ⟨o1, oS⟩ := List.forall_mem_cons.mp oS
  obtain ⟨o2, oS⟩ := List.forall_mem_cons.mp oS
  obtain ⟨o3, oS⟩ := List.forall_mem_cons.mp oS
  have ei : (Int32.ofInt i).toNatClampNeg = i.toNat := pv_clamp o2.1 o2.2
  have ef : upd (fun z => Int32.ofInt (h q z)) i.toNat (Int32.ofInt x) = fun z => Int32.ofInt (pv_up h q i.toNat x q z) := by
    funext z
    by_cases hz : z = i.toNat
    · subst hz
      rw [pv_up_self]
      show (if _ then _ else _) = _
      rw [if_pos rfl]
    · rw [pv_up_ne (Or.inr hz)]
      exact if_neg hz
  have ew : pv_ws aC ad sh (pv_up h q i.toNat x) = (pv_ws aC ad sh h).set q (ad q, pv_ce aC ad (1, n) (pv_up h q i.toNat x q)) := pv_ws_set (h := h) e0 (fun j hj => pv_up_row hj)
  refine va_iast hx hb hK hP hD hS q 0 (pv_ws_at e0) rfl (pv_in h1 h2 o2.2) hd (fun H1 locs1 hP hD hS => ?_)
  rw [ei, ef] at hP hD
  have hP : va_P D vwCl ((pv_ws aC ad sh h).set q (ad q, pv_ce aC ad (1, n) (pv_up h q i.toNat x q))) H1 := hP
  have hD : va_D A ((pv_ws aC ad sh h).set q (ad q, pv_ce aC ad (1, n) (pv_up h q i.toNat x q))) := hD
  rw [← ew] at hP hD
  have oH := pv_oH_up oH e0 (k := i.toNat) (x := x) (o1)
  exact k _ _ _ _ _ _ _ _ _ _ _ _ _ _ _ _ _ _ _ _ _ _ _ C N ⟨ag, hP, hD, oH, hS, hl, oL, oS⟩
theorem EV.last {q n : Nat} {i x : Int} (hd : decode cc pc = .ok (.lastore, 1)) (e0 : sh[q]? = some (2, n)) (h1 : 0 ≤ i) (h2 : i < (n : Int))  (k : EV own cc nL ret ini d sh' h' r (pc + 1) L st sh (pv_up h q i.toNat x)) : EV own cc nL ret ini d sh' h' r pc L (.inr (.inl x) :: .inl i :: .inr (.inr q) :: st) sh h := by
  intro p l e s m args below meth c D aC ad0 ad A n0 s0 cells slots mc ms H locs ls C N R
  obtain ⟨hx, hb, hml, hrt, hown, hts, hlk, hin, hA, hK, hSt⟩ := id C
  obtain ⟨ag, hP, hD, oH, hS, hl, oL, oS⟩ := id R
  obtain ⟨o1, oS⟩ := List.forall_mem_cons.mp oS
  obtain ⟨o2, oS⟩ := List.forall_mem_cons.mp oS
  obtain ⟨o3, oS⟩ := List.forall_mem_cons.mp oS
  have ei : (Int32.ofInt i).toNatClampNeg = i.toNat := pv_clamp o2.1 o2.2
  have ef : vp_updL (fun z => Int64.ofInt (h q z)) i.toNat (Int64.ofInt x) = fun z => Int64.ofInt (pv_up h q i.toNat x q z) := by
    funext z
    by_cases hz : z = i.toNat
    · subst hz
      rw [pv_up_self]
      show (if _ then _ else _) = _
      rw [if_pos rfl]
    · rw [pv_up_ne (Or.inr hz)]
      exact if_neg hz
  have ew : pv_ws aC ad sh (pv_up h q i.toNat x) = (pv_ws aC ad sh h).set q (ad q, pv_ce aC ad (2, n) (pv_up h q i.toNat x q)) := pv_ws_set (h := h) e0 (fun j hj => pv_up_row hj)
  refine va_last hx hb hK hP hD hS q 1 (pv_ws_at e0) rfl (pv_in h1 h2 o2.2) hd (fun H1 locs1 hP hD hS => ?_)
  rw [ei, ef] at hP hD
  have hP : va_P D vwCl ((pv_ws aC ad sh h).set q (ad q, pv_ce aC ad (2, n) (pv_up h q i.toNat x q))) H1 := hP
  have hD : va_D A ((pv_ws aC ad sh h).set q (ad q, pv_ce aC ad (2, n) (pv_up h q i.toNat x q))) := hD
  rw [← ew] at hP hD
  have oH := pv_oH_up oH e0 (k := i.toNat) (x := x) (o1)
  exact k _ _ _ _ _ _ _ _ _ _ _ _ _ _ _ _ _ _ _ _ _ _ _ C N ⟨ag, hP, hD, oH, hS, hl, oL, oS⟩
theorem EV.zast {q n : Nat} {i x : Int} (hd : decode cc pc = .ok (.bastore, 1)) (e0 : sh[q]? = some (3, n)) (h1 : 0 ≤ i) (h2 : i < (n : Int)) (h3 : x = 0 ∨ x = 1) (k : EV own cc nL ret ini d sh' h' r (pc + 1) L st sh (pv_up h q i.toNat x)) : EV own cc nL ret ini d sh' h' r pc L (.inl x :: .inl i :: .inr (.inr q) :: st) sh h := by
  intro p l e s m args below meth c D aC ad0 ad A n0 s0 cells slots mc ms H locs ls C N R
  obtain ⟨hx, hb, hml, hrt, hown, hts, hlk, hin, hA, hK, hSt⟩ := id C
  obtain ⟨ag, hP, hD, oH, hS, hl, oL, oS⟩ := id R
  obtain ⟨o1, oS⟩ := List.forall_mem_cons.mp oS
  obtain ⟨o2, oS⟩ := List.forall_mem_cons.mp oS
  obtain ⟨o3, oS⟩ := List.forall_mem_cons.mp oS
  have ei : (Int32.ofInt i).toNatClampNeg = i.toNat := pv_clamp o2.1 o2.2
  have ef : upd (fun z => Int32.ofInt (h q z)) i.toNat (vp_nar .boolean (Int32.ofInt x)) = fun z => Int32.ofInt (pv_up h q i.toNat x q z) := by
    funext z
    by_cases hz : z = i.toNat
    · subst hz
      rw [pv_up_self]
      show (if _ then _ else _) = _
      rw [if_pos rfl]
      rcases h3 with rfl | rfl <;> rfl
    · rw [pv_up_ne (Or.inr hz)]
      exact if_neg hz
  have ew : pv_ws aC ad sh (pv_up h q i.toNat x) = (pv_ws aC ad sh h).set q (ad q, pv_ce aC ad (3, n) (pv_up h q i.toNat x q)) := pv_ws_set (h := h) e0 (fun j hj => pv_up_row hj)
  refine va_zast hx hb hK hP hD hS q 2 (pv_ws_at e0) rfl (pv_in h1 h2 o2.2) hd (fun H1 locs1 hP hD hS => ?_)
  rw [ei, ef] at hP hD
  have hP : va_P D vwCl ((pv_ws aC ad sh h).set q (ad q, pv_ce aC ad (3, n) (pv_up h q i.toNat x q))) H1 := hP
  have hD : va_D A ((pv_ws aC ad sh h).set q (ad q, pv_ce aC ad (3, n) (pv_up h q i.toNat x q))) := hD
  rw [← ew] at hP hD
  have oH := pv_oH_up oH e0 (k := i.toNat) (x := x) (o1)
  exact k _ _ _ _ _ _ _ _ _ _ _ _ _ _ _ _ _ _ _ _ _ _ _ C N ⟨ag, hP, hD, oH, hS, hl, oL, oS⟩
theorem EV.bast {q n : Nat} {i x : Int} (hd : decode cc pc = .ok (.bastore, 1)) (e0 : sh[q]? = some (4, n)) (h1 : 0 ≤ i) (h2 : i < (n : Int))  (k : EV own cc nL ret ini d sh' h' r (pc + 1) L st sh (pv_up h q i.toNat (pv_w8 x))) : EV own cc nL ret ini d sh' h' r pc L (.inl x :: .inl i :: .inr (.inr q) :: st) sh h := by
  intro p l e s m args below meth c D aC ad0 ad A n0 s0 cells slots mc ms H locs ls C N R
  obtain ⟨hx, hb, hml, hrt, hown, hts, hlk, hin, hA, hK, hSt⟩ := id C
  obtain ⟨ag, hP, hD, oH, hS, hl, oL, oS⟩ := id R
  obtain ⟨o1, oS⟩ := List.forall_mem_cons.mp oS
  obtain ⟨o2, oS⟩ := List.forall_mem_cons.mp oS
  obtain ⟨o3, oS⟩ := List.forall_mem_cons.mp oS
  have ei : (Int32.ofInt i).toNatClampNeg = i.toNat := pv_clamp o2.1 o2.2
  have ef : upd (fun z => Int32.ofInt (h q z)) i.toNat (vp_nar .byte (Int32.ofInt x)) = fun z => Int32.ofInt (pv_up h q i.toNat (pv_w8 x) q z) := by
    funext z
    by_cases hz : z = i.toNat
    · subst hz
      rw [pv_up_self]
      show (if _ then _ else _) = _
      rw [if_pos rfl]
      exact pv_w8_of x
    · rw [pv_up_ne (Or.inr hz)]
      exact if_neg hz
  have ew : pv_ws aC ad sh (pv_up h q i.toNat (pv_w8 x)) = (pv_ws aC ad sh h).set q (ad q, pv_ce aC ad (4, n) (pv_up h q i.toNat (pv_w8 x) q)) := pv_ws_set (h := h) e0 (fun j hj => pv_up_row hj)
  refine va_bast hx hb hK hP hD hS q 3 (pv_ws_at e0) rfl (pv_in h1 h2 o2.2) hd (fun H1 locs1 hP hD hS => ?_)
  rw [ei, ef] at hP hD
  have hP : va_P D vwCl ((pv_ws aC ad sh h).set q (ad q, pv_ce aC ad (4, n) (pv_up h q i.toNat (pv_w8 x) q))) H1 := hP
  have hD : va_D A ((pv_ws aC ad sh h).set q (ad q, pv_ce aC ad (4, n) (pv_up h q i.toNat (pv_w8 x) q))) := hD
  rw [← ew] at hP hD
  have oH := pv_oH_up oH e0 (k := i.toNat) (x := (pv_w8 x)) (⟨by have := pv_w8_lo x; omega, by have := pv_w8_hi x; omega⟩)
  exact k _ _ _ _ _ _ _ _ _ _ _ _ _ _ _ _ _ _ _ _ _ _ _ C N ⟨ag, hP, hD, oH, hS, hl, oL, oS⟩
theorem EV.cast {q n : Nat} {i x : Int} (hd : decode cc pc = .ok (.castore, 1)) (e0 : sh[q]? = some (9, n)) (h1 : 0 ≤ i) (h2 : i < (n : Int)) (h3 : 0 ≤ x) (h4 : x ≤ 127) (k : EV own cc nL ret ini d sh' h' r (pc + 1) L st sh (pv_up h q i.toNat x)) : EV own cc nL ret ini d sh' h' r pc L (.inl x :: .inl i :: .inr (.inr q) :: st) sh h := by
  intro p l e s m args below meth c D aC ad0 ad A n0 s0 cells slots mc ms H locs ls C N R
  obtain ⟨hx, hb, hml, hrt, hown, hts, hlk, hin, hA, hK, hSt⟩ := id C
  obtain ⟨ag, hP, hD, oH, hS, hl, oL, oS⟩ := id R
  obtain ⟨o1, oS⟩ := List.forall_mem_cons.mp oS
  obtain ⟨o2, oS⟩ := List.forall_mem_cons.mp oS
  obtain ⟨o3, oS⟩ := List.forall_mem_cons.mp oS
  have ei : (Int32.ofInt i).toNatClampNeg = i.toNat := pv_clamp o2.1 o2.2
  have ef : upd (fun z => Int32.ofInt (h q z)) i.toNat (vp_nar .char (Int32.ofInt x)) = fun z => Int32.ofInt (pv_up h q i.toNat x q z) := by
    funext z
    by_cases hz : z = i.toNat
    · subst hz
      rw [pv_up_self]
      show (if _ then _ else _) = _
      rw [if_pos rfl]
      exact pv_nchar h3 h4
    · rw [pv_up_ne (Or.inr hz)]
      exact if_neg hz
  have ew : pv_ws aC ad sh (pv_up h q i.toNat x) = (pv_ws aC ad sh h).set q (ad q, pv_ce aC ad (9, n) (pv_up h q i.toNat x q)) := pv_ws_set (h := h) e0 (fun j hj => pv_up_row hj)
  refine va_cast hx hb hK hP hD hS q 8 (pv_ws_at e0) rfl (pv_in h1 h2 o2.2) hd (fun H1 locs1 hP hD hS => ?_)
  rw [ei, ef] at hP hD
  have hP : va_P D vwCl ((pv_ws aC ad sh h).set q (ad q, pv_ce aC ad (9, n) (pv_up h q i.toNat x q))) H1 := hP
  have hD : va_D A ((pv_ws aC ad sh h).set q (ad q, pv_ce aC ad (9, n) (pv_up h q i.toNat x q))) := hD
  rw [← ew] at hP hD
  have oH := pv_oH_up oH e0 (k := i.toNat) (x := x) (o1)
  exact k _ _ _ _ _ _ _ _ _ _ _ _ _ _ _ _ _ _ _ _ _ _ _ C N ⟨ag, hP, hD, oH, hS, hl, oL, oS⟩
theorem EV.aald {a q n : Nat} {i : Int} (hd : decode cc pc = .ok (.aaload, 1)) (e0 : sh[q]? = some (a, n)) (ha : a = 5 ∨ a = 6 ∨ a = 7 ∨ a = 8) (h1 : 0 ≤ i) (h2 : i < (n : Int)) (h3 : 0 ≤ h q i.toNat) (k : EV own cc nL ret ini d sh' h' r (pc + 1) L (.inr (.inr (h q i.toNat).toNat) :: st) sh h) : EV own cc nL ret ini d sh' h' r pc L (.inl i :: .inr (.inr q) :: st) sh h := by
  intro p l e s m args below meth c D aC ad0 ad A n0 s0 cells slots mc ms H locs ls C N R
  obtain ⟨hx, hb, hml, hrt, hown, hts, hlk, hin, hA, hK, hSt⟩ := id C
  obtain ⟨ag, hP, hD, oH, hS, hl, oL, oS⟩ := id R
  obtain ⟨o1, oS⟩ := List.forall_mem_cons.mp oS
  obtain ⟨o2, oS⟩ := List.forall_mem_cons.mp oS
  have oz := oH q _ e0 i.toNat
  have ei : (Int32.ofInt i).toNatClampNeg = i.toNat := pv_clamp o1.1 o1.2
  have er : va_rf (if h q i.toNat < 0 then none else some (ad (h q i.toNat).toNat)) = pv_tv ad (.inr (.inr (h q i.toNat).toNat)) := by rw [if_neg (by omega)]; rfl
  rcases ha with rfl | rfl | rfl | rfl
  · have oz : h q i.toNat < (sh.length : Int) := oz
    refine va_aldq hx hb hK hP q 4 (pv_ws_at e0) rfl (pv_in h1 h2 o1.2) hd ?_
    rw [ei, er]
    exact k _ _ _ _ _ _ _ _ _ _ _ _ _ _ _ _ _ _ _ _ _ _ _ C N ⟨ag, hP, hD, oH, hS, hl, oL, List.forall_mem_cons.mpr ⟨Or.inl (by omega), oS⟩⟩
  · have oz : h q i.toNat < (sh.length : Int) := oz
    refine va_aldq hx hb hK hP q 5 (pv_ws_at e0) rfl (pv_in h1 h2 o1.2) hd ?_
    rw [ei, er]
    exact k _ _ _ _ _ _ _ _ _ _ _ _ _ _ _ _ _ _ _ _ _ _ _ C N ⟨ag, hP, hD, oH, hS, hl, oL, List.forall_mem_cons.mpr ⟨Or.inl (by omega), oS⟩⟩
  · have oz : h q i.toNat < (sh.length : Int) := oz
    refine va_aldq hx hb hK hP q 6 (pv_ws_at e0) rfl (pv_in h1 h2 o1.2) hd ?_
    rw [ei, er]
    exact k _ _ _ _ _ _ _ _ _ _ _ _ _ _ _ _ _ _ _ _ _ _ _ C N ⟨ag, hP, hD, oH, hS, hl, oL, List.forall_mem_cons.mpr ⟨Or.inl (by omega), oS⟩⟩
  · have oz : h q i.toNat < (sh.length : Int) := oz
    refine va_aldq hx hb hK hP q 7 (pv_ws_at e0) rfl (pv_in h1 h2 o1.2) hd ?_
    rw [ei, er]
    exact k _ _ _ _ _ _ _ _ _ _ _ _ _ _ _ _ _ _ _ _ _ _ _ C N ⟨ag, hP, hD, oH, hS, hl, oL, List.forall_mem_cons.mpr ⟨Or.inl (by omega), oS⟩⟩
theorem EV.aast {a ci q n u : Nat} {i : Int} (hd : decode cc pc = .ok (.aastore, 1)) (e0 : sh[q]? = some (a, n)) (ha : (a = 5 ∧ ci = 5) ∨ (a = 6 ∧ ci = 0) ∨ (a = 7 ∧ ci = 8) ∨ (a = 8 ∧ ci = 6)) (e1 : sh[u]? = some (0, ci)) (h1 : 0 ≤ i) (h2 : i < (n : Int)) (k : EV own cc nL ret ini d sh' h' r (pc + 1) L st sh (pv_up h q i.toNat (u : Int))) : EV own cc nL ret ini d sh' h' r pc L (.inr (.inr u) :: .inl i :: .inr (.inr q) :: st) sh h := by
  intro p l e s m args below meth c D aC ad0 ad A n0 s0 cells slots mc ms H locs ls C N R
  obtain ⟨hx, hb, hml, hrt, hown, hts, hlk, hin, hA, hK, hSt⟩ := id C
  obtain ⟨ag, hP, hD, oH, hS, hl, oL, oS⟩ := id R
  obtain ⟨o1, oS⟩ := List.forall_mem_cons.mp oS
  obtain ⟨o2, oS⟩ := List.forall_mem_cons.mp oS
  obtain ⟨o3, oS⟩ := List.forall_mem_cons.mp oS
  have hu : u < sh.length := (List.getElem?_eq_some_iff.mp e1).1
  have ei : (Int32.ofInt i).toNatClampNeg = i.toNat := pv_clamp o2.1 o2.2
  have ef : va_up (fun z => if h q z < 0 then none else some (ad (h q z).toNat)) i.toNat (some (ad u)) = fun z => if pv_up h q i.toNat (u : Int) q z < 0 then none else some (ad (pv_up h q i.toNat (u : Int) q z).toNat) := by
    funext z
    by_cases hz : z = i.toNat
    · subst hz
      rw [pv_up_self]
      show (if _ then _ else _) = _
      rw [if_pos rfl, if_neg (by omega), Int.toNat_natCast]
    · rw [pv_up_ne (Or.inr hz)]
      exact if_neg hz
  have ew : pv_ws aC ad sh (pv_up h q i.toNat (u : Int)) = (pv_ws aC ad sh h).set q (ad q, pv_ce aC ad (a, n) (pv_up h q i.toNat (u : Int) q)) := pv_ws_set (h := h) e0 (fun j hj => pv_up_row hj)
  rcases ha with ⟨rfl, rfl⟩ | ⟨rfl, rfl⟩ | ⟨rfl, rfl⟩ | ⟨rfl, rfl⟩
  · have hw : (pv_ws aC ad sh h)[u]? = some (ad u, .inr (5, pv_fs ad 5 (h u))) := pv_ws_at e1
    refine va_astq hx hb hK hP hD hS q 4 u 5 (pv_ws_at e0) rfl hw rfl (pv_in h1 h2 o2.2) hd (fun H1 locs1 hP hD hS => ?_)
    rw [ei, ef] at hP hD
    have hP : va_P D vwCl ((pv_ws aC ad sh h).set q (ad q, pv_ce aC ad (5, n) (pv_up h q i.toNat (u : Int) q))) H1 := hP
    have hD : va_D A ((pv_ws aC ad sh h).set q (ad q, pv_ce aC ad (5, n) (pv_up h q i.toNat (u : Int) q))) := hD
    rw [← ew] at hP hD
    have oH := pv_oH_up oH e0 (k := i.toNat) (x := (u : Int)) (show (u : Int) < (sh.length : Int) by omega)
    exact k _ _ _ _ _ _ _ _ _ _ _ _ _ _ _ _ _ _ _ _ _ _ _ C N ⟨ag, hP, hD, oH, hS, hl, oL, oS⟩
  · have hw : (pv_ws aC ad sh h)[u]? = some (ad u, .inr (0, pv_fs ad 0 (h u))) := pv_ws_at e1
    refine va_astq hx hb hK hP hD hS q 5 u 0 (pv_ws_at e0) rfl hw rfl (pv_in h1 h2 o2.2) hd (fun H1 locs1 hP hD hS => ?_)
    rw [ei, ef] at hP hD
    have hP : va_P D vwCl ((pv_ws aC ad sh h).set q (ad q, pv_ce aC ad (6, n) (pv_up h q i.toNat (u : Int) q))) H1 := hP
    have hD : va_D A ((pv_ws aC ad sh h).set q (ad q, pv_ce aC ad (6, n) (pv_up h q i.toNat (u : Int) q))) := hD
    rw [← ew] at hP hD
    have oH := pv_oH_up oH e0 (k := i.toNat) (x := (u : Int)) (show (u : Int) < (sh.length : Int) by omega)
    exact k _ _ _ _ _ _ _ _ _ _ _ _ _ _ _ _ _ _ _ _ _ _ _ C N ⟨ag, hP, hD, oH, hS, hl, oL, oS⟩
  · have hw : (pv_ws aC ad sh h)[u]? = some (ad u, .inr (8, pv_fs ad 8 (h u))) := pv_ws_at e1
    refine va_astq hx hb hK hP hD hS q 6 u 8 (pv_ws_at e0) rfl hw rfl (pv_in h1 h2 o2.2) hd (fun H1 locs1 hP hD hS => ?_)
    rw [ei, ef] at hP hD
    have hP : va_P D vwCl ((pv_ws aC ad sh h).set q (ad q, pv_ce aC ad (7, n) (pv_up h q i.toNat (u : Int) q))) H1 := hP
    have hD : va_D A ((pv_ws aC ad sh h).set q (ad q, pv_ce aC ad (7, n) (pv_up h q i.toNat (u : Int) q))) := hD
    rw [← ew] at hP hD
    have oH := pv_oH_up oH e0 (k := i.toNat) (x := (u : Int)) (show (u : Int) < (sh.length : Int) by omega)
    exact k _ _ _ _ _ _ _ _ _ _ _ _ _ _ _ _ _ _ _ _ _ _ _ C N ⟨ag, hP, hD, oH, hS, hl, oL, oS⟩
  · have hw : (pv_ws aC ad sh h)[u]? = some (ad u, .inr (6, pv_fs ad 6 (h u))) := pv_ws_at e1
    refine va_astq hx hb hK hP hD hS q 7 u 6 (pv_ws_at e0) rfl hw rfl (pv_in h1 h2 o2.2) hd (fun H1 locs1 hP hD hS => ?_)
    rw [ei, ef] at hP hD
    have hP : va_P D vwCl ((pv_ws aC ad sh h).set q (ad q, pv_ce aC ad (8, n) (pv_up h q i.toNat (u : Int) q))) H1 := hP
    have hD : va_D A ((pv_ws aC ad sh h).set q (ad q, pv_ce aC ad (8, n) (pv_up h q i.toNat (u : Int) q))) := hD
    rw [← ew] at hP hD
    have oH := pv_oH_up oH e0 (k := i.toNat) (x := (u : Int)) (show (u : Int) < (sh.length : Int) by omega)
    exact k _ _ _ _ _ _ _ _ _ _ _ _ _ _ _ _ _ _ _ _ _ _ _ C N ⟨ag, hP, hD, oH, hS, hl, oL, oS⟩
theorem EV.alen {q n : Nat} (hd : decode cc pc = .ok (.arraylength, 1)) (e0 : sh[q]? = some (1, n)) (h1 : n ≤ 2147483647) (k : EV own cc nL ret ini d sh' h' r (pc + 1) L (.inl (n : Int) :: st) sh h) : EV own cc nL ret ini d sh' h' r pc L (.inr (.inr q) :: st) sh h := by
  intro p l e s m args below meth c D aC ad0 ad A n0 s0 cells slots mc ms H locs ls C N R
  obtain ⟨hx, hb, hml, hrt, hown, hts, hlk, hin, hA, hK, hSt⟩ := id C
  obtain ⟨ag, hP, hD, oH, hS, hl, oL, oS⟩ := id R
  obtain ⟨o1, oS⟩ := List.forall_mem_cons.mp oS
  refine va_alen (v := Int32.ofInt (n : Int)) hx hb hK hP q 0 (pv_ws_at e0) rfl (by rw [Int32.ofInt_eq_ofNat]) hd ?_
  exact k _ _ _ _ _ _ _ _ _ _ _ _ _ _ _ _ _ _ _ _ _ _ _ C N ⟨ag, hP, hD, oH, hS, hl, oL, List.forall_mem_cons.mpr ⟨⟨by omega, by omega⟩, oS⟩⟩
theorem EV.alenl {q n : Nat} (hd : decode cc pc = .ok (.arraylength, 1)) (e0 : sh[q]? = some (2, n)) (h1 : n ≤ 2147483647) (k : EV own cc nL ret ini d sh' h' r (pc + 1) L (.inl (n : Int) :: st) sh h) : EV own cc nL ret ini d sh' h' r pc L (.inr (.inr q) :: st) sh h := by
  intro p l e s m args below meth c D aC ad0 ad A n0 s0 cells slots mc ms H locs ls C N R
  obtain ⟨hx, hb, hml, hrt, hown, hts, hlk, hin, hA, hK, hSt⟩ := id C
  obtain ⟨ag, hP, hD, oH, hS, hl, oL, oS⟩ := id R
  obtain ⟨o1, oS⟩ := List.forall_mem_cons.mp oS
  refine va_alen (v := Int32.ofInt (n : Int)) hx hb hK hP q 1 (pv_ws_at e0) rfl (by rw [Int32.ofInt_eq_ofNat]) hd ?_
  exact k _ _ _ _ _ _ _ _ _ _ _ _ _ _ _ _ _ _ _ _ _ _ _ C N ⟨ag, hP, hD, oH, hS, hl, oL, List.forall_mem_cons.mpr ⟨⟨by omega, by omega⟩, oS⟩⟩
theorem EV.alenc {q n : Nat} (hd : decode cc pc = .ok (.arraylength, 1)) (e0 : sh[q]? = some (9, n)) (h1 : n ≤ 2147483647) (k : EV own cc nL ret ini d sh' h' r (pc + 1) L (.inl (n : Int) :: st) sh h) : EV own cc nL ret ini d sh' h' r pc L (.inr (.inr q) :: st) sh h := by
  intro p l e s m args below meth c D aC ad0 ad A n0 s0 cells slots mc ms H locs ls C N R
  obtain ⟨hx, hb, hml, hrt, hown, hts, hlk, hin, hA, hK, hSt⟩ := id C
  obtain ⟨ag, hP, hD, oH, hS, hl, oL, oS⟩ := id R
  obtain ⟨o1, oS⟩ := List.forall_mem_cons.mp oS
  refine va_alen (v := Int32.ofInt (n : Int)) hx hb hK hP q 8 (pv_ws_at e0) rfl (by rw [Int32.ofInt_eq_ofNat]) hd ?_
  exact k _ _ _ _ _ _ _ _ _ _ _ _ _ _ _ _ _ _ _ _ _ _ _ C N ⟨ag, hP, hD, oH, hS, hl, oL, List.forall_mem_cons.mpr ⟨⟨by omega, by omega⟩, oS⟩⟩
end RULES
