/-! words by their places -/
theorem pv_mem {w : Cond} (h : w ∈ lw_tbl) (hg : goodWord w = true) : w ∈ pv_W := List.mem_filter.mpr ⟨h, hg⟩
theorem pv_memN {w : Cond} (h : w ∈ lw_tbl) (hg : pv_isN w = true) : w ∈ pv_nest := List.mem_filter.mpr ⟨h, hg⟩
theorem pv_m0 {w : Cond} {i : Nat} (h : (k2_sels lw_privs)[i]? = some w) : w ∈ lw_tbl := List.mem_append_left _ (List.mem_of_getElem? h)
theorem pv_mT {w : Cond} (h : w ∈ tables_1) : w ∈ lw_tbl := List.mem_append_right _ h
theorem pv_m1 {w : Cond} {i : Nat} (h : tables_1_1[i]? = some w) : w ∈ lw_tbl := pv_mT (List.mem_append_left _ (List.mem_of_getElem? h))
theorem pv_m2 {w : Cond} {i : Nat} (h : tables_1_2[i]? = some w) : w ∈ lw_tbl := pv_mT (List.mem_append_right _ (List.mem_append_left _ (List.mem_of_getElem? h)))
theorem pv_m3 {w : Cond} {i : Nat} (h : tables_1_3[i]? = some w) : w ∈ lw_tbl := pv_mT (List.mem_append_right _ (List.mem_append_right _ (List.mem_append_left _ (List.mem_of_getElem? h))))
theorem pv_m4 {w : Cond} {i : Nat} (h : tables_1_4[i]? = some w) : w ∈ lw_tbl := pv_mT (List.mem_append_right _ (List.mem_append_right _ (List.mem_append_right _ (List.mem_append_left _ (List.mem_of_getElem? h)))))
theorem pv_m5 {w : Cond} {i : Nat} (h : tables_1_5[i]? = some w) : w ∈ lw_tbl := pv_mT (List.mem_append_right _ (List.mem_append_right _ (List.mem_append_right _ (List.mem_append_right _ (List.mem_append_left _ (List.mem_of_getElem? h))))))
theorem pv_m6 {w : Cond} {i : Nat} (h : tables_1_6[i]? = some w) : w ∈ lw_tbl := pv_mT (List.mem_append_right _ (List.mem_append_right _ (List.mem_append_right _ (List.mem_append_right _ (List.mem_append_right _ (List.mem_append_left _ (List.mem_of_getElem? h)))))))
theorem pv_m7 {w : Cond} {i : Nat} (h : tables_1_7[i]? = some w) : w ∈ lw_tbl := pv_mT (List.mem_append_right _ (List.mem_append_right _ (List.mem_append_right _ (List.mem_append_right _ (List.mem_append_right _ (List.mem_append_right _ (List.mem_append_left _ (List.mem_of_getElem? h))))))))
theorem pv_m8 {w : Cond} {i : Nat} (h : tables_1_8[i]? = some w) : w ∈ lw_tbl := pv_mT (List.mem_append_right _ (List.mem_append_right _ (List.mem_append_right _ (List.mem_append_right _ (List.mem_append_right _ (List.mem_append_right _ (List.mem_append_right _ (List.mem_of_getElem? h))))))))
/-! what is new -/
def pv_an (ad : Nat → Nat) (n q : Nat) : Nat → Nat := fun i => if i = n then q else ad i
theorem pv_an_ag {ad : Nat → Nat} {n q : Nat} (h : n < pv_SB) : pv_ag ad (pv_an ad n q) n := fun i hi => by
  unfold pv_an
  rw [if_neg]
  rintro rfl
  rcases hi with z | z <;> omega
theorem pv_os.mono {n k kd : Nat} {x : Int} (h : n ≤ k) (o : pv_os n kd x) : pv_os k kd x := by
  match kd, o with
  | 0, o => exact o
  | 1, o => exact o
  | kd + 2, o =>
    have o : x < (n : Int) := o
    show x < (k : Int)
    omega
theorem pv_oH_new {sh : pv_Sh} {h : pv_H} {sq : Nat × Nat} {f : Nat → Int} (o : pv_oH sh h) (hf : ∀ k, pv_os (sh.length + 1) (pv_kd sq k) (f k)) : pv_oH (sh ++ [sq]) (pv_ur h sh.length f) := by
  intro i q e k
  rw [List.length_append, List.length_singleton]
  by_cases hi : i < sh.length
  · rw [List.getElem?_append_left hi] at e
    rw [pv_ur_ne (by omega)]
    exact (o i q e k).mono (by omega)
  · rw [List.getElem?_append_right (by omega)] at e
    have hz : i - sh.length < 1 := (List.getElem?_eq_some_iff.mp e).1
    have hi0 : i = sh.length := by omega
    subst hi0
    rw [Nat.sub_self] at e
    cases e
    rw [pv_ur_self]
    exact hf k
theorem pv_ws_new {aC : Nat → ClassId} {ad : Nat → Nat} {sh : pv_Sh} {h : pv_H} {sq : Nat × Nat} {f : Nat → Int} {q : Nat} (o : pv_oH sh h) (hb : sh.length < pv_SB) : pv_ws aC (pv_an ad sh.length q) (sh ++ [sq]) (pv_ur h sh.length f) = pv_ws aC ad sh h ++ [(q, pv_ce aC (pv_an ad sh.length q) sq f)] := by
  apply List.ext_getElem?
  intro i
  by_cases hi : i < sh.length
  · rw [List.getElem?_append_left (by rw [pv_ws_len]; exact hi)]
    have e : sh[i]? = some (sh.getD i (0, 0)) := by rw [List.getD_eq_getElem?_getD, List.getElem?_eq_getElem hi]; rfl
    rw [pv_ws_at e, pv_ws_at (q := sh.getD i (0, 0)) (by rw [List.getElem?_append_left hi]; exact e), pv_ur_ne (by omega), (pv_an_ag hb).ce (o i _ e), pv_an_ag hb i (Or.inl hi)]
  · by_cases hi0 : i = sh.length
    · subst hi0
      rw [pv_ws_at (q := sq) (by rw [List.getElem?_append_right (Nat.le_refl _), Nat.sub_self]; rfl), List.getElem?_append_right (by rw [pv_ws_len]; exact Nat.le_refl _), pv_ws_len, Nat.sub_self, pv_ur_self]
      simp [pv_an]
    · rw [List.getElem?_eq_none (by rw [pv_ws_len]; simp; omega), List.getElem?_eq_none (by simp [pv_ws_len]; omega)]
/-- behind what makes a cell -/
theorem pv_made {own : String} {cc : ByteArray} {nL : Nat} {ret : Option FieldType} {ini : Bool} {d : Nat} {sh' : pv_Sh} {h' : pv_H} {r : Option pv_V} {pc : Nat} {L : List (Option pv_V)} {st : List pv_V} {sh : pv_Sh} {h : pv_H} {p : Program} {l : Launch} {e : Env} {s : State} {m : MethodId} {args : Array Value} {below : List Frame} {meth : Method} {c : Code} {D : va_G} {aC : Nat → ClassId} {ad0 ad : Nat → Nat} {A : Nat → Prop} {n0 s0 cells slots mc ms : Nat} {H H1 : Heap} {locs : List Loc} {ls : Array Slot} {sq : Nat × Nat} {f : Nat → Int} {q n : Nat}
    (C : pv_C p s m args meth c own cc nL ret ini D aC ad A) (N : pv_N n0 s0 cells slots mc ms sh sh') (R : pv_R s D aC ad0 ad A n0 H locs ls nL L st sh h) (hq : ∃ t, sh' = sh ++ [sq] ++ t) (hb : sh.length < pv_SB) (hn : pv_s1 sq = n) (hf : ∀ k, pv_os (sh.length + 1) (pv_kd sq k) (f k))
    (hP1 : va_P D vwCl (pv_ws aC ad sh h ++ [(q, pv_ce aC (pv_an ad sh.length q) sq f)]) H1) (hD1 : va_D A (pv_ws aC ad sh h ++ [(q, pv_ce aC (pv_an ad sh.length q) sq f)])) (hS1 : va_S A s.heap H1 locs)
    (k : EV own cc nL ret ini d sh' h' r pc L (.inr (.inr sh.length) :: st) (sh ++ [sq]) (pv_ur h sh.length f)) : W p l e (pv_rm d mc ms) s m args below meth c H1 locs (cells + 1) (slots + n) (MQ below (pv_Q D aC ad0 n0 sh' h' r A) args s mc ms A) (F0 m pc ls (.ref q :: st.map (pv_tv ad))) := by
  obtain ⟨hx, hbb, hml, hrt, hown, hts, hlk, hin, hA, hK, hSt⟩ := id C
  obtain ⟨ag, hP, hD, oH, hS, hl, oL, oS⟩ := id R
  obtain ⟨t, et⟩ := hq
  have l1 : sh'.length = sh.length + 1 + t.length := by rw [et]; simp; omega
  have m1 : pv_sl sh' = pv_sl sh + n + pv_sl t := by rw [et, pv_sl_app, pv_sl_app]; simp [pv_sl, hn]
  have m2 : pv_sl (sh ++ [sq]) = pv_sl sh + n := by rw [pv_sl_app]; simp [pv_sl, hn]
  have g : pv_ag ad (pv_an ad sh.length q) sh.length := pv_an_ag hb
  obtain ⟨na, nb, nc, nd, ne, nf⟩ := N
  rw [← pv_ws_new oH hb] at hP1 hD1
  have es : Value.ref q :: st.map (pv_tv ad) = (.inr (.inr sh.length) :: st : List pv_V).map (pv_tv (pv_an ad sh.length q)) := by
    rw [List.map_cons, pv_st_ag g oS]
    congr 1
    show Value.ref q = Value.ref (pv_an ad sh.length q sh.length)
    simp [pv_an]
  rw [es]
  refine k p l e s m args below meth c D aC ad0 _ A n0 s0 _ _ mc ms H1 locs ls ⟨hx, hbb, hml, hrt, hown, hts, hlk, hin, hA, hK, hSt.ag g⟩ ⟨by simp; omega, by omega, by omega, by omega, by omega, by omega⟩ ⟨ag.tr g (by omega), hP1, hD1, pv_oH_new oH hf, hS1, pv_L_weak hl (fun q => pv_L_ag g oL), fun v hv => (oL v hv).mono (by simp), ?_⟩
  intro v hv
  rcases List.mem_cons.mp hv with rfl | z
  · exact Or.inl (by simp)
  · exact (oS v z).mono (by simp)
section RULES
variable {own : String} {cc : ByteArray} {nL : Nat} {ret : Option FieldType} {ini : Bool} {d : Nat} {sh' : pv_Sh} {h' : pv_H} {r : Option pv_V} {pc : Nat} {L : List (Option pv_V)} {st : List pv_V} {sh : pv_Sh} {h : pv_H}
theorem EV.newa1 {n : Int} (hd : decode cc pc = .ok (.newarray .int, 2)) (ha : Cond.arrayClass .int ∈ pv_W) (h0 : 0 ≤ n) (h1 : n ≤ 100000) (hb0 : sh.length < pv_SB) (hq : ∃ t, sh' = sh ++ [(1, n.toNat)] ++ t) (k : EV own cc nL ret ini d sh' h' r (pc + 2) L (.inr (.inr sh.length) :: st) (sh ++ [(1, n.toNat)]) (pv_ur h sh.length (fun _ => 0))) : EV own cc nL ret ini d sh' h' r pc L (.inl n :: st) sh h := by
  intro p l e s m args below meth c D aC ad0 ad A n0 s0 cells slots mc ms H locs ls C N R
  obtain ⟨hx, hb, hml, hrt, hown, hts, hlk, hin, hA, hK, hSt⟩ := id C
  obtain ⟨ag, hP, hD, oH, hS, hl, oL, oS⟩ := id R
  obtain ⟨o1, oS⟩ := List.forall_mem_cons.mp oS
  have ei : (Int32.ofInt n).toNatClampNeg = n.toNat := pv_clamp o1.1 o1.2
  have hfit : cells + 1 ≤ (pv_rm d mc ms).cells ∧ slots + n.toNat ≤ (pv_rm d mc ms).slots := by
    obtain ⟨t, et⟩ := hq
    have l1 : sh'.length = sh.length + 1 + t.length := by rw [et]; simp; omega
    have m1 : pv_sl sh' = pv_sl sh + n.toNat + pv_sl t := by rw [et, pv_sl_app, pv_sl_app]; simp [pv_sl, pv_s1]
    obtain ⟨na, nb, nc, nd, ne, nf⟩ := N
    exact ⟨show _ ≤ mc by omega, show _ ≤ ms by omega⟩
  refine va_newa (atype := .int) (a0 := (n.toNat, .inl (fun _ => Int32.ofInt 0))) hx hb (hts _ ha) rfl hK hP hD hS hA (fun _ => rfl) (by rw [pv_z, pv_lt o1.1 o1.2 (by decide) (by decide)]; omega) ei (by show _ * 4 ≤ _; omega) hfit.1 hfit.2 hd (fun q cA H1 hK1 hP1 hD1 hS1 => ?_)
  have eA : cA = aC 1 := by
    have z1 := (hK1.2 (pv_tys aC).length (cA, .int) (by rw [List.getElem?_append_right (Nat.le_refl _), Nat.sub_self]; rfl)).2
    have z2 := (hK.2 0 (aC 1, .int) rfl).2
    exact Option.some.inj (z1.symm.trans z2)
  subst eA
  exact pv_made (sq := (1, n.toNat)) (f := fun _ => 0) C N ⟨ag, hP, hD, oH, hS, hl, oL, oS⟩ hq hb0 rfl (fun _ => ⟨by decide, by decide⟩) hP1 hD1 hS1 k
theorem EV.newa2 {n : Int} (hd : decode cc pc = .ok (.newarray .long, 2)) (ha : Cond.arrayClass .long ∈ pv_W) (h0 : 0 ≤ n) (h1 : n ≤ 100000) (hb0 : sh.length < pv_SB) (hq : ∃ t, sh' = sh ++ [(2, n.toNat)] ++ t) (k : EV own cc nL ret ini d sh' h' r (pc + 2) L (.inr (.inr sh.length) :: st) (sh ++ [(2, n.toNat)]) (pv_ur h sh.length (fun _ => 0))) : EV own cc nL ret ini d sh' h' r pc L (.inl n :: st) sh h := by
  intro p l e s m args below meth c D aC ad0 ad A n0 s0 cells slots mc ms H locs ls C N R
  obtain ⟨hx, hb, hml, hrt, hown, hts, hlk, hin, hA, hK, hSt⟩ := id C
  obtain ⟨ag, hP, hD, oH, hS, hl, oL, oS⟩ := id R
  obtain ⟨o1, oS⟩ := List.forall_mem_cons.mp oS
  have ei : (Int32.ofInt n).toNatClampNeg = n.toNat := pv_clamp o1.1 o1.2
  have hfit : cells + 1 ≤ (pv_rm d mc ms).cells ∧ slots + n.toNat ≤ (pv_rm d mc ms).slots := by
    obtain ⟨t, et⟩ := hq
    have l1 : sh'.length = sh.length + 1 + t.length := by rw [et]; simp; omega
    have m1 : pv_sl sh' = pv_sl sh + n.toNat + pv_sl t := by rw [et, pv_sl_app, pv_sl_app]; simp [pv_sl, pv_s1]
    obtain ⟨na, nb, nc, nd, ne, nf⟩ := N
    exact ⟨show _ ≤ mc by omega, show _ ≤ ms by omega⟩
  refine va_newa (atype := .long) (a0 := (n.toNat, .inr (.inl (fun _ => Int64.ofInt 0)))) hx hb (hts _ ha) rfl hK hP hD hS hA (fun _ => rfl) (by rw [pv_z, pv_lt o1.1 o1.2 (by decide) (by decide)]; omega) ei (by show _ * 8 ≤ _; omega) hfit.1 hfit.2 hd (fun q cA H1 hK1 hP1 hD1 hS1 => ?_)
  have eA : cA = aC 2 := by
    have z1 := (hK1.2 (pv_tys aC).length (cA, .long) (by rw [List.getElem?_append_right (Nat.le_refl _), Nat.sub_self]; rfl)).2
    have z2 := (hK.2 1 (aC 2, .long) rfl).2
    exact Option.some.inj (z1.symm.trans z2)
  subst eA
  exact pv_made (sq := (2, n.toNat)) (f := fun _ => 0) C N ⟨ag, hP, hD, oH, hS, hl, oL, oS⟩ hq hb0 rfl (fun _ => ⟨by decide, by decide⟩) hP1 hD1 hS1 k
theorem EV.newa3 {n : Int} (hd : decode cc pc = .ok (.newarray .boolean, 2)) (ha : Cond.arrayClass .boolean ∈ pv_W) (h0 : 0 ≤ n) (h1 : n ≤ 100000) (hb0 : sh.length < pv_SB) (hq : ∃ t, sh' = sh ++ [(3, n.toNat)] ++ t) (k : EV own cc nL ret ini d sh' h' r (pc + 2) L (.inr (.inr sh.length) :: st) (sh ++ [(3, n.toNat)]) (pv_ur h sh.length (fun _ => 0))) : EV own cc nL ret ini d sh' h' r pc L (.inl n :: st) sh h := by
  intro p l e s m args below meth c D aC ad0 ad A n0 s0 cells slots mc ms H locs ls C N R
  obtain ⟨hx, hb, hml, hrt, hown, hts, hlk, hin, hA, hK, hSt⟩ := id C
  obtain ⟨ag, hP, hD, oH, hS, hl, oL, oS⟩ := id R
  obtain ⟨o1, oS⟩ := List.forall_mem_cons.mp oS
  have ei : (Int32.ofInt n).toNatClampNeg = n.toNat := pv_clamp o1.1 o1.2
  have hfit : cells + 1 ≤ (pv_rm d mc ms).cells ∧ slots + n.toNat ≤ (pv_rm d mc ms).slots := by
    obtain ⟨t, et⟩ := hq
    have l1 : sh'.length = sh.length + 1 + t.length := by rw [et]; simp; omega
    have m1 : pv_sl sh' = pv_sl sh + n.toNat + pv_sl t := by rw [et, pv_sl_app, pv_sl_app]; simp [pv_sl, pv_s1]
    obtain ⟨na, nb, nc, nd, ne, nf⟩ := N
    exact ⟨show _ ≤ mc by omega, show _ ≤ ms by omega⟩
  refine va_newa (atype := .boolean) (a0 := (n.toNat, .inl (fun _ => Int32.ofInt 0))) hx hb (hts _ ha) rfl hK hP hD hS hA (fun _ => rfl) (by rw [pv_z, pv_lt o1.1 o1.2 (by decide) (by decide)]; omega) ei (by show _ * 1 ≤ _; omega) hfit.1 hfit.2 hd (fun q cA H1 hK1 hP1 hD1 hS1 => ?_)
  have eA : cA = aC 3 := by
    have z1 := (hK1.2 (pv_tys aC).length (cA, .boolean) (by rw [List.getElem?_append_right (Nat.le_refl _), Nat.sub_self]; rfl)).2
    have z2 := (hK.2 2 (aC 3, .boolean) rfl).2
    exact Option.some.inj (z1.symm.trans z2)
  subst eA
  exact pv_made (sq := (3, n.toNat)) (f := fun _ => 0) C N ⟨ag, hP, hD, oH, hS, hl, oL, oS⟩ hq hb0 rfl (fun _ => ⟨by decide, by decide⟩) hP1 hD1 hS1 k
theorem EV.newa4 {n : Int} (hd : decode cc pc = .ok (.newarray .byte, 2)) (ha : Cond.arrayClass .byte ∈ pv_W) (h0 : 0 ≤ n) (h1 : n ≤ 100000) (hb0 : sh.length < pv_SB) (hq : ∃ t, sh' = sh ++ [(4, n.toNat)] ++ t) (k : EV own cc nL ret ini d sh' h' r (pc + 2) L (.inr (.inr sh.length) :: st) (sh ++ [(4, n.toNat)]) (pv_ur h sh.length (fun _ => 0))) : EV own cc nL ret ini d sh' h' r pc L (.inl n :: st) sh h := by
  intro p l e s m args below meth c D aC ad0 ad A n0 s0 cells slots mc ms H locs ls C N R
  obtain ⟨hx, hb, hml, hrt, hown, hts, hlk, hin, hA, hK, hSt⟩ := id C
  obtain ⟨ag, hP, hD, oH, hS, hl, oL, oS⟩ := id R
  obtain ⟨o1, oS⟩ := List.forall_mem_cons.mp oS
  have ei : (Int32.ofInt n).toNatClampNeg = n.toNat := pv_clamp o1.1 o1.2
  have hfit : cells + 1 ≤ (pv_rm d mc ms).cells ∧ slots + n.toNat ≤ (pv_rm d mc ms).slots := by
    obtain ⟨t, et⟩ := hq
    have l1 : sh'.length = sh.length + 1 + t.length := by rw [et]; simp; omega
    have m1 : pv_sl sh' = pv_sl sh + n.toNat + pv_sl t := by rw [et, pv_sl_app, pv_sl_app]; simp [pv_sl, pv_s1]
    obtain ⟨na, nb, nc, nd, ne, nf⟩ := N
    exact ⟨show _ ≤ mc by omega, show _ ≤ ms by omega⟩
  refine va_newa (atype := .byte) (a0 := (n.toNat, .inl (fun _ => Int32.ofInt 0))) hx hb (hts _ ha) rfl hK hP hD hS hA (fun _ => rfl) (by rw [pv_z, pv_lt o1.1 o1.2 (by decide) (by decide)]; omega) ei (by show _ * 1 ≤ _; omega) hfit.1 hfit.2 hd (fun q cA H1 hK1 hP1 hD1 hS1 => ?_)
  have eA : cA = aC 4 := by
    have z1 := (hK1.2 (pv_tys aC).length (cA, .byte) (by rw [List.getElem?_append_right (Nat.le_refl _), Nat.sub_self]; rfl)).2
    have z2 := (hK.2 3 (aC 4, .byte) rfl).2
    exact Option.some.inj (z1.symm.trans z2)
  subst eA
  exact pv_made (sq := (4, n.toNat)) (f := fun _ => 0) C N ⟨ag, hP, hD, oH, hS, hl, oL, oS⟩ hq hb0 rfl (fun _ => ⟨by decide, by decide⟩) hP1 hD1 hS1 k
theorem EV.newa9 {n : Int} (hd : decode cc pc = .ok (.newarray .char, 2)) (ha : Cond.arrayClass .char ∈ pv_W) (h0 : 0 ≤ n) (h1 : n ≤ 100000) (hb0 : sh.length < pv_SB) (hq : ∃ t, sh' = sh ++ [(9, n.toNat)] ++ t) (k : EV own cc nL ret ini d sh' h' r (pc + 2) L (.inr (.inr sh.length) :: st) (sh ++ [(9, n.toNat)]) (pv_ur h sh.length (fun _ => 0))) : EV own cc nL ret ini d sh' h' r pc L (.inl n :: st) sh h := by
  intro p l e s m args below meth c D aC ad0 ad A n0 s0 cells slots mc ms H locs ls C N R
  obtain ⟨hx, hb, hml, hrt, hown, hts, hlk, hin, hA, hK, hSt⟩ := id C
  obtain ⟨ag, hP, hD, oH, hS, hl, oL, oS⟩ := id R
  obtain ⟨o1, oS⟩ := List.forall_mem_cons.mp oS
  have ei : (Int32.ofInt n).toNatClampNeg = n.toNat := pv_clamp o1.1 o1.2
  have hfit : cells + 1 ≤ (pv_rm d mc ms).cells ∧ slots + n.toNat ≤ (pv_rm d mc ms).slots := by
    obtain ⟨t, et⟩ := hq
    have l1 : sh'.length = sh.length + 1 + t.length := by rw [et]; simp; omega
    have m1 : pv_sl sh' = pv_sl sh + n.toNat + pv_sl t := by rw [et, pv_sl_app, pv_sl_app]; simp [pv_sl, pv_s1]
    obtain ⟨na, nb, nc, nd, ne, nf⟩ := N
    exact ⟨show _ ≤ mc by omega, show _ ≤ ms by omega⟩
  refine va_newa (atype := .char) (a0 := (n.toNat, .inl (fun _ => Int32.ofInt 0))) hx hb (hts _ ha) rfl hK hP hD hS hA (fun _ => rfl) (by rw [pv_z, pv_lt o1.1 o1.2 (by decide) (by decide)]; omega) ei (by show _ * 2 ≤ _; omega) hfit.1 hfit.2 hd (fun q cA H1 hK1 hP1 hD1 hS1 => ?_)
  have eA : cA = aC 9 := by
    have z1 := (hK1.2 (pv_tys aC).length (cA, .char) (by rw [List.getElem?_append_right (Nat.le_refl _), Nat.sub_self]; rfl)).2
    have z2 := (hK.2 8 (aC 9, .char) rfl).2
    exact Option.some.inj (z1.symm.trans z2)
  subst eA
  exact pv_made (sq := (9, n.toNat)) (f := fun _ => 0) C N ⟨ag, hP, hD, oH, hS, hl, oL, oS⟩ hq hb0 rfl (fun _ => ⟨by decide, by decide⟩) hP1 hD1 hS1 k
theorem EV.newa5 {n : Int} {idx : Nat} (hd : decode cc pc = .ok (.anewarray idx, 3)) (hl1 : Cond.classLink own idx RX5 ∈ pv_W) (h0 : 0 ≤ n) (h1 : n ≤ 100000) (hb0 : sh.length < pv_SB) (hq : ∃ t, sh' = sh ++ [(5, n.toNat)] ++ t) (k : EV own cc nL ret ini d sh' h' r (pc + 3) L (.inr (.inr sh.length) :: st) (sh ++ [(5, n.toNat)]) (pv_ur h sh.length (fun _ => -1))) : EV own cc nL ret ini d sh' h' r pc L (.inl n :: st) sh h := by
  intro p l e s m args below meth c D aC ad0 ad A n0 s0 cells slots mc ms H locs ls C N R
  obtain ⟨hx, hb, hml, hrt, hown, hts, hlk, hin, hA, hK, hSt⟩ := id C
  obtain ⟨ag, hP, hD, oH, hS, hl, oL, oS⟩ := id R
  obtain ⟨o1, oS⟩ := List.forall_mem_cons.mp oS
  have ei : (Int32.ofInt n).toNatClampNeg = n.toNat := pv_clamp o1.1 o1.2
  have hfit : cells + 1 ≤ (pv_rm d mc ms).cells ∧ slots + n.toNat ≤ (pv_rm d mc ms).slots := by
    obtain ⟨t, et⟩ := hq
    have l1 : sh'.length = sh.length + 1 + t.length := by rw [et]; simp; omega
    have m1 : pv_sl sh' = pv_sl sh + n.toNat + pv_sl t := by rw [et, pv_sl_app, pv_sl_app]; simp [pv_sl, pv_s1]
    obtain ⟨na, nb, nc, nd, ne, nf⟩ := N
    exact ⟨show _ ≤ mc by omega, show _ ≤ ms by omega⟩
  refine va_newq hx hb hown (hts _ hl1) hSt.2.2.2.2.2.2.2.1 hK hP hD hS hA (by rw [pv_z, pv_lt o1.1 o1.2 (by decide) (by decide)]; omega) ei (by omega) hfit.1 hfit.2 hd (fun q cA H1 hK1 hP1 hD1 hS1 => ?_)
  have eA : cA = aC 5 := by
    obtain ⟨k1, c1, z1, z2, z3, z4⟩ := (hK1.2 (pv_tys aC).length (cA, .object RX5) (by rw [List.getElem?_append_right (Nat.le_refl _), Nat.sub_self]; rfl)).2
    obtain ⟨k2, c2, y1, y2, y3, y4⟩ := (hK.2 4 (aC 5, .object RX5) rfl).2
    exact Option.some.inj (z4.symm.trans y4)
  subst eA
  have eF : (fun _ : Nat => (none : Option Nat)) = (fun _ : Nat => if (-1 : Int) < 0 then none else some (pv_an ad sh.length q (-1 : Int).toNat)) := by funext _; rw [if_pos (by decide)]
  rw [eF] at hP1 hD1
  exact pv_made (sq := (5, n.toNat)) (f := fun _ => -1) C N ⟨ag, hP, hD, oH, hS, hl, oL, oS⟩ hq hb0 rfl (fun _ => (by show (-1 : Int) < _; omega)) hP1 hD1 hS1 k
theorem EV.newa6 {n : Int} {idx : Nat} (hd : decode cc pc = .ok (.anewarray idx, 3)) (hl1 : Cond.classLink own idx RX0 ∈ pv_W) (h0 : 0 ≤ n) (h1 : n ≤ 100000) (hb0 : sh.length < pv_SB) (hq : ∃ t, sh' = sh ++ [(6, n.toNat)] ++ t) (k : EV own cc nL ret ini d sh' h' r (pc + 3) L (.inr (.inr sh.length) :: st) (sh ++ [(6, n.toNat)]) (pv_ur h sh.length (fun _ => -1))) : EV own cc nL ret ini d sh' h' r pc L (.inl n :: st) sh h := by
  intro p l e s m args below meth c D aC ad0 ad A n0 s0 cells slots mc ms H locs ls C N R
  obtain ⟨hx, hb, hml, hrt, hown, hts, hlk, hin, hA, hK, hSt⟩ := id C
  obtain ⟨ag, hP, hD, oH, hS, hl, oL, oS⟩ := id R
  obtain ⟨o1, oS⟩ := List.forall_mem_cons.mp oS
  have ei : (Int32.ofInt n).toNatClampNeg = n.toNat := pv_clamp o1.1 o1.2
  have hfit : cells + 1 ≤ (pv_rm d mc ms).cells ∧ slots + n.toNat ≤ (pv_rm d mc ms).slots := by
    obtain ⟨t, et⟩ := hq
    have l1 : sh'.length = sh.length + 1 + t.length := by rw [et]; simp; omega
    have m1 : pv_sl sh' = pv_sl sh + n.toNat + pv_sl t := by rw [et, pv_sl_app, pv_sl_app]; simp [pv_sl, pv_s1]
    obtain ⟨na, nb, nc, nd, ne, nf⟩ := N
    exact ⟨show _ ≤ mc by omega, show _ ≤ ms by omega⟩
  refine va_newq hx hb hown (hts _ hl1) hSt.2.2.2.2.2.2.2.2.1 hK hP hD hS hA (by rw [pv_z, pv_lt o1.1 o1.2 (by decide) (by decide)]; omega) ei (by omega) hfit.1 hfit.2 hd (fun q cA H1 hK1 hP1 hD1 hS1 => ?_)
  have eA : cA = aC 6 := by
    obtain ⟨k1, c1, z1, z2, z3, z4⟩ := (hK1.2 (pv_tys aC).length (cA, .object RX0) (by rw [List.getElem?_append_right (Nat.le_refl _), Nat.sub_self]; rfl)).2
    obtain ⟨k2, c2, y1, y2, y3, y4⟩ := (hK.2 5 (aC 6, .object RX0) rfl).2
    exact Option.some.inj (z4.symm.trans y4)
  subst eA
  have eF : (fun _ : Nat => (none : Option Nat)) = (fun _ : Nat => if (-1 : Int) < 0 then none else some (pv_an ad sh.length q (-1 : Int).toNat)) := by funext _; rw [if_pos (by decide)]
  rw [eF] at hP1 hD1
  exact pv_made (sq := (6, n.toNat)) (f := fun _ => -1) C N ⟨ag, hP, hD, oH, hS, hl, oL, oS⟩ hq hb0 rfl (fun _ => (by show (-1 : Int) < _; omega)) hP1 hD1 hS1 k
theorem EV.newa7 {n : Int} {idx : Nat} (hd : decode cc pc = .ok (.anewarray idx, 3)) (hl1 : Cond.classLink own idx RX8 ∈ pv_W) (h0 : 0 ≤ n) (h1 : n ≤ 100000) (hb0 : sh.length < pv_SB) (hq : ∃ t, sh' = sh ++ [(7, n.toNat)] ++ t) (k : EV own cc nL ret ini d sh' h' r (pc + 3) L (.inr (.inr sh.length) :: st) (sh ++ [(7, n.toNat)]) (pv_ur h sh.length (fun _ => -1))) : EV own cc nL ret ini d sh' h' r pc L (.inl n :: st) sh h := by
  intro p l e s m args below meth c D aC ad0 ad A n0 s0 cells slots mc ms H locs ls C N R
  obtain ⟨hx, hb, hml, hrt, hown, hts, hlk, hin, hA, hK, hSt⟩ := id C
  obtain ⟨ag, hP, hD, oH, hS, hl, oL, oS⟩ := id R
  obtain ⟨o1, oS⟩ := List.forall_mem_cons.mp oS
  have ei : (Int32.ofInt n).toNatClampNeg = n.toNat := pv_clamp o1.1 o1.2
  have hfit : cells + 1 ≤ (pv_rm d mc ms).cells ∧ slots + n.toNat ≤ (pv_rm d mc ms).slots := by
    obtain ⟨t, et⟩ := hq
    have l1 : sh'.length = sh.length + 1 + t.length := by rw [et]; simp; omega
    have m1 : pv_sl sh' = pv_sl sh + n.toNat + pv_sl t := by rw [et, pv_sl_app, pv_sl_app]; simp [pv_sl, pv_s1]
    obtain ⟨na, nb, nc, nd, ne, nf⟩ := N
    exact ⟨show _ ≤ mc by omega, show _ ≤ ms by omega⟩
  refine va_newq hx hb hown (hts _ hl1) hSt.2.2.2.2.2.2.2.2.2.1 hK hP hD hS hA (by rw [pv_z, pv_lt o1.1 o1.2 (by decide) (by decide)]; omega) ei (by omega) hfit.1 hfit.2 hd (fun q cA H1 hK1 hP1 hD1 hS1 => ?_)
  have eA : cA = aC 7 := by
    obtain ⟨k1, c1, z1, z2, z3, z4⟩ := (hK1.2 (pv_tys aC).length (cA, .object RX8) (by rw [List.getElem?_append_right (Nat.le_refl _), Nat.sub_self]; rfl)).2
    obtain ⟨k2, c2, y1, y2, y3, y4⟩ := (hK.2 6 (aC 7, .object RX8) rfl).2
    exact Option.some.inj (z4.symm.trans y4)
  subst eA
  have eF : (fun _ : Nat => (none : Option Nat)) = (fun _ : Nat => if (-1 : Int) < 0 then none else some (pv_an ad sh.length q (-1 : Int).toNat)) := by funext _; rw [if_pos (by decide)]
  rw [eF] at hP1 hD1
  exact pv_made (sq := (7, n.toNat)) (f := fun _ => -1) C N ⟨ag, hP, hD, oH, hS, hl, oL, oS⟩ hq hb0 rfl (fun _ => (by show (-1 : Int) < _; omega)) hP1 hD1 hS1 k
theorem EV.newa8 {n : Int} {idx : Nat} (hd : decode cc pc = .ok (.anewarray idx, 3)) (hl1 : Cond.classLink own idx RX6 ∈ pv_W) (h0 : 0 ≤ n) (h1 : n ≤ 100000) (hb0 : sh.length < pv_SB) (hq : ∃ t, sh' = sh ++ [(8, n.toNat)] ++ t) (k : EV own cc nL ret ini d sh' h' r (pc + 3) L (.inr (.inr sh.length) :: st) (sh ++ [(8, n.toNat)]) (pv_ur h sh.length (fun _ => -1))) : EV own cc nL ret ini d sh' h' r pc L (.inl n :: st) sh h := by
  intro p l e s m args below meth c D aC ad0 ad A n0 s0 cells slots mc ms H locs ls C N R
  obtain ⟨hx, hb, hml, hrt, hown, hts, hlk, hin, hA, hK, hSt⟩ := id C
  obtain ⟨ag, hP, hD, oH, hS, hl, oL, oS⟩ := id R
  obtain ⟨o1, oS⟩ := List.forall_mem_cons.mp oS
  have ei : (Int32.ofInt n).toNatClampNeg = n.toNat := pv_clamp o1.1 o1.2
  have hfit : cells + 1 ≤ (pv_rm d mc ms).cells ∧ slots + n.toNat ≤ (pv_rm d mc ms).slots := by
    obtain ⟨t, et⟩ := hq
    have l1 : sh'.length = sh.length + 1 + t.length := by rw [et]; simp; omega
    have m1 : pv_sl sh' = pv_sl sh + n.toNat + pv_sl t := by rw [et, pv_sl_app, pv_sl_app]; simp [pv_sl, pv_s1]
    obtain ⟨na, nb, nc, nd, ne, nf⟩ := N
    exact ⟨show _ ≤ mc by omega, show _ ≤ ms by omega⟩
  refine va_newq hx hb hown (hts _ hl1) hSt.2.2.2.2.2.2.2.2.2.2 hK hP hD hS hA (by rw [pv_z, pv_lt o1.1 o1.2 (by decide) (by decide)]; omega) ei (by omega) hfit.1 hfit.2 hd (fun q cA H1 hK1 hP1 hD1 hS1 => ?_)
  have eA : cA = aC 8 := by
    obtain ⟨k1, c1, z1, z2, z3, z4⟩ := (hK1.2 (pv_tys aC).length (cA, .object RX6) (by rw [List.getElem?_append_right (Nat.le_refl _), Nat.sub_self]; rfl)).2
    obtain ⟨k2, c2, y1, y2, y3, y4⟩ := (hK.2 7 (aC 8, .object RX6) rfl).2
    exact Option.some.inj (z4.symm.trans y4)
  subst eA
  have eF : (fun _ : Nat => (none : Option Nat)) = (fun _ : Nat => if (-1 : Int) < 0 then none else some (pv_an ad sh.length q (-1 : Int).toNat)) := by funext _; rw [if_pos (by decide)]
  rw [eF] at hP1 hD1
  exact pv_made (sq := (8, n.toNat)) (f := fun _ => -1) C N ⟨ag, hP, hD, oH, hS, hl, oL, oS⟩ hq hb0 rfl (fun _ => (by show (-1 : Int) < _; omega)) hP1 hD1 hS1 k
/-- a new object's numbers -/
def pv_nr (ci : Nat) : Nat → Int := fun k => if pv_fk (pv_ty ci k) = 2 then -1 else 0
theorem pv_def {ad : Nat → Nat} (ty : FieldType) (h : ty = .int ∨ ty = .boolean ∨ ty = .long ∨ pv_fk ty = 2) : defaultValue ty = pv_sv ad (pv_fk ty) (if pv_fk ty = 2 then -1 else 0) := by
  rcases h with rfl | rfl | rfl | h
  · rfl
  · rfl
  · rfl
  · rw [if_pos h, h]
    show _ = (if ((-1 : Int) < 0) then Value.null else .ref (ad (-1 : Int).toNat))
    rw [if_pos (by decide)]
    cases ty <;> first | rfl | cases h
theorem pv_tys_ok : ∀ ci, ci < 11 → ∀ k, k < pv_nf ci → (pv_ty ci k = .int ∨ pv_ty ci k = .boolean ∨ pv_ty ci k = .long ∨ pv_fk (pv_ty ci k) = 2) := by decide +kernel
theorem pv_fk_le (t : FieldType) : pv_fk t ≤ 2 := by
  cases t <;> first | exact Nat.le_of_ble_eq_true rfl
theorem pv_nr_os {n : Nat} (ci k : Nat) : pv_os n (pv_fk (pv_ty ci k)) (pv_nr ci k) := by
  unfold pv_nr
  by_cases h : pv_fk (pv_ty ci k) = 2
  · rw [if_pos h, h]
    show (-1 : Int) < _
    omega
  · rw [if_neg h]
    have hk := pv_fk_le (pv_ty ci k)
    generalize pv_fk (pv_ty ci k) = kd at h hk
    match kd, h with
    | 0, _ => exact ⟨by decide, by decide⟩
    | 1, _ => exact ⟨by decide, by decide⟩
    | 2, h => exact absurd rfl h
    | kd + 3, h2 => exact absurd hk (by omega)
theorem EV.newo {ci idx : Nat} (hd : decode cc pc = .ok (.new idx, 3)) (hci : ci < 11) (hl1 : Cond.classLink own idx (pv_cn ci) ∈ pv_W) (hl2 : Cond.instantiable (pv_cn ci) (pv_nf ci) ∈ pv_W) (hl3 : Cond.initialized (pv_cn ci) ∈ pv_W) (hb0 : sh.length < pv_SB) (hq : ∃ t, sh' = sh ++ [(0, ci)] ++ t) (k : EV own cc nL ret ini d sh' h' r (pc + 3) L (.inr (.inr sh.length) :: st) (sh ++ [(0, ci)]) (pv_ur h sh.length (pv_nr ci))) : EV own cc nL ret ini d sh' h' r pc L st sh h := by
  intro p l e s m args below meth c D aC ad0 ad A n0 s0 cells slots mc ms H locs ls C N R
  obtain ⟨hx, hb, hml, hrt, hown, hts, hlk, hin, hA, hK, hSt⟩ := id C
  obtain ⟨ag, hP, hD, oH, hS, hl, oL, oS⟩ := id R
  have hfit : cells + 1 ≤ (pv_rm d mc ms).cells ∧ slots + pv_nf ci ≤ (pv_rm d mc ms).slots := by
    obtain ⟨t, et⟩ := hq
    have l1 : sh'.length = sh.length + 1 + t.length := by rw [et]; simp; omega
    have m1 : pv_sl sh' = pv_sl sh + pv_nf ci + pv_sl t := by rw [et, pv_sl_app, pv_sl_app]; simp [pv_sl, pv_s1]
    obtain ⟨na, nb, nc, nd, ne, nf⟩ := N
    exact ⟨show _ ≤ mc by omega, show _ ≤ ms by omega⟩
  refine va_new (ci := ci) (fs := pv_fs ad ci (pv_nr ci)) hx hb hts (pv_iw ci hci) (pv_ty ci) (pv_tyok ci hci) hown (hts _ hl1) (hts _ hl2) (hts _ hl3) hK hP hD hS hA (pv_cl ci hci) (fun j hj => ?_) hfit.1 hfit.2 hd (fun q H1 hP1 hD1 hS1 => ?_)
  · rw [vp_V, List.getD_eq_getElem?_getD, pv_fs_at hj]
    exact pv_def _ (pv_tys_ok ci hci j hj)
  · have ef : pv_fs ad ci (pv_nr ci) = pv_fs (pv_an ad sh.length q) ci (pv_nr ci) := by
      unfold pv_fs
      apply List.map_congr_left
      intro j _
      exact ((pv_an_ag hb0).sv (pv_nr_os ci j)).symm
    rw [ef] at hP1 hD1
    exact pv_made (sq := (0, ci)) (f := pv_nr ci) C N ⟨ag, hP, hD, oH, hS, hl, oL, oS⟩ hq hb0 rfl (fun j => pv_nr_os ci j) hP1 hD1 hS1 k
theorem EV.obj {q idx : Nat} (hd : decode cc pc = .ok (.invokespecial idx, 3)) (hl1 : Cond.methodLink own idx Lib.objectInit ∈ pv_W) (hl2 : Cond.instanceMethod Lib.objectInit ∈ pv_W) (hl3 : Cond.code Lib.objectInit ⟨#[0xb1]⟩ 1 none ∈ pv_W) (hdd : 1 ≤ d) (hc : pv_cs st ≤ 8) (k : EV own cc nL ret ini d sh' h' r (pc + 3) L st sh h) : EV own cc nL ret ini d sh' h' r pc L (.inr (.inr q) :: st) sh h := by
  intro p l e s m args below meth c D aC ad0 ad A n0 s0 cells slots mc ms H locs ls C N R
  obtain ⟨hx, hb, hml, hrt, hown, hts, hlk, hin, hA, hK, hSt⟩ := id C
  obtain ⟨ag, hP, hD, oH, hS, hl, oL, oS⟩ := id R
  obtain ⟨o1, oS⟩ := List.forall_mem_cons.mp oS
  refine W.objInit (a := ad q) (rest := st.map (pv_tv ad)) hx hb hown (hts _ hl1) (hts _ hl2) (hts _ hl3) rfl (by rw [hml]; exact hl.1) rfl hd hdd (by rw [pv_cs_of]; show 2 * 0 + _ + 12 ≤ 64 * d; omega) ?_
  exact k _ _ _ _ _ _ _ _ _ _ _ _ _ _ _ _ _ _ _ _ _ _ _ C N ⟨ag, hP, hD, oH, hS, hl, oL, oS⟩
theorem EV.mmax {x y : Int} {idx : Nat} (hd : decode cc pc = .ok (.invokestatic idx, 3)) (hl1 : Cond.methodLink own idx Lib.Math.max.name ∈ pv_W) (hl2 : Cond.static Lib.Math.max.name ∈ pv_W) (hl3 : Cond.initialized "java/lang/Math" ∈ pv_W) (hl4 : Cond.code Lib.Math.max.name Lib.Math.max.code 2 (some .int) ∈ pv_W) (hdd : 1 ≤ d) (hc : pv_cs st ≤ 8) (k : EV own cc nL ret ini d sh' h' r (pc + 3) L (.inl (max x y) :: st) sh h) : EV own cc nL ret ini d sh' h' r pc L (.inl y :: .inl x :: st) sh h := by
  intro p l e s m args below meth c D aC ad0 ad A n0 s0 cells slots mc ms H locs ls C N R
  obtain ⟨hx, hb, hml, hrt, hown, hts, hlk, hin, hA, hK, hSt⟩ := id C
  obtain ⟨ag, hP, hD, oH, hS, hl, oL, oS⟩ := id R
  obtain ⟨o1, oS⟩ := List.forall_mem_cons.mp oS
  obtain ⟨o2, oS⟩ := List.forall_mem_cons.mp oS
  have ez : (if Int32.ofInt x < Int32.ofInt y then Int32.ofInt y else Int32.ofInt x) = Int32.ofInt (max x y) := by
    by_cases z : x < y
    · rw [if_pos ((pv_lt o2.1 o2.2 o1.1 o1.2).mpr z)]
      congr 1
      omega
    · rw [if_neg (fun w => z ((pv_lt o2.1 o2.2 o1.1 o1.2).mp w))]
      congr 1
      omega
  have oz : -2147483648 ≤ max x y ∧ max x y ≤ 2147483647 := by
    have a1 := o1.1
    have a2 := o1.2
    have b1 := o2.1
    have b2 := o2.2
    omega
  refine va_mmax hx hb (by rw [hml]; exact hl.1.symm) hown (hts _ hl1) (hts _ hl2) (hts _ hl3) (hts _ hl4) hdd (by rw [pv_cs_of]; show _ + 13 ≤ 64 * d; omega) (show cells ≤ mc from N.2.2.2.2.1) (show slots ≤ ms from N.2.2.2.2.2) hd ?_
  rw [ez]
  exact k _ _ _ _ _ _ _ _ _ _ _ _ _ _ _ _ _ _ _ _ _ _ _ C N ⟨ag, hP, hD, oH, hS, hl, oL, List.forall_mem_cons.mpr ⟨oz, oS⟩⟩
theorem EV.mmin {x y : Int} {idx : Nat} (hd : decode cc pc = .ok (.invokestatic idx, 3)) (hl1 : Cond.methodLink own idx Lib.Math.min.name ∈ pv_W) (hl2 : Cond.static Lib.Math.min.name ∈ pv_W) (hl3 : Cond.initialized "java/lang/Math" ∈ pv_W) (hl4 : Cond.code Lib.Math.min.name Lib.Math.min.code 2 (some .int) ∈ pv_W) (hdd : 1 ≤ d) (hc : pv_cs st ≤ 8) (k : EV own cc nL ret ini d sh' h' r (pc + 3) L (.inl (min x y) :: st) sh h) : EV own cc nL ret ini d sh' h' r pc L (.inl y :: .inl x :: st) sh h := by
  intro p l e s m args below meth c D aC ad0 ad A n0 s0 cells slots mc ms H locs ls C N R
  obtain ⟨hx, hb, hml, hrt, hown, hts, hlk, hin, hA, hK, hSt⟩ := id C
  obtain ⟨ag, hP, hD, oH, hS, hl, oL, oS⟩ := id R
  obtain ⟨o1, oS⟩ := List.forall_mem_cons.mp oS
  obtain ⟨o2, oS⟩ := List.forall_mem_cons.mp oS
  have ez : (if Int32.ofInt y < Int32.ofInt x then Int32.ofInt y else Int32.ofInt x) = Int32.ofInt (min x y) := by
    by_cases z : y < x
    · rw [if_pos ((pv_lt o1.1 o1.2 o2.1 o2.2).mpr z)]
      congr 1
      omega
    · rw [if_neg (fun w => z ((pv_lt o1.1 o1.2 o2.1 o2.2).mp w))]
      congr 1
      omega
  have oz : -2147483648 ≤ min x y ∧ min x y ≤ 2147483647 := by
    have a1 := o1.1
    have a2 := o1.2
    have b1 := o2.1
    have b2 := o2.2
    omega
  refine va_mmin hx hb (by rw [hml]; exact hl.1.symm) hown (hts _ hl1) (hts _ hl2) (hts _ hl3) (hts _ hl4) hdd (by rw [pv_cs_of]; show _ + 13 ≤ 64 * d; omega) (show cells ≤ mc from N.2.2.2.2.1) (show slots ≤ ms from N.2.2.2.2.2) hd ?_
  rw [ez]
  exact k _ _ _ _ _ _ _ _ _ _ _ _ _ _ _ _ _ _ _ _ _ _ _ C N ⟨ag, hP, hD, oH, hS, hl, oL, List.forall_mem_cons.mpr ⟨oz, oS⟩⟩
theorem EV.mabs {x : Int} {idx : Nat} (hd : decode cc pc = .ok (.invokestatic idx, 3)) (hl1 : Cond.methodLink own idx Lib.Math.abs.name ∈ pv_W) (hl2 : Cond.static Lib.Math.abs.name ∈ pv_W) (hl3 : Cond.initialized "java/lang/Math" ∈ pv_W) (hl4 : Cond.code Lib.Math.abs.name Lib.Math.abs.code 1 (some .int) ∈ pv_W) (hdd : 1 ≤ d) (hc : pv_cs st ≤ 8) (k : EV own cc nL ret ini d sh' h' r (pc + 3) L (.inl (if 0 ≤ x then x else pv_w (0 - x)) :: st) sh h) : EV own cc nL ret ini d sh' h' r pc L (.inl x :: st) sh h := by
  intro p l e s m args below meth c D aC ad0 ad A n0 s0 cells slots mc ms H locs ls C N R
  obtain ⟨hx, hb, hml, hrt, hown, hts, hlk, hin, hA, hK, hSt⟩ := id C
  obtain ⟨ag, hP, hD, oH, hS, hl, oL, oS⟩ := id R
  obtain ⟨o1, oS⟩ := List.forall_mem_cons.mp oS
  have ez : (if 0 ≤ Int32.ofInt x then Int32.ofInt x else 0 - Int32.ofInt x) = Int32.ofInt (if 0 ≤ x then x else pv_w (0 - x)) := by
    by_cases z : 0 ≤ x
    · rw [if_pos z, if_pos (by rw [pv_z, pv_le (by decide) (by decide) o1.1 o1.2]; exact z)]
    · rw [if_neg z, if_neg (by rw [pv_z, pv_le (by decide) (by decide) o1.1 o1.2]; exact z), pv_w_of, Int32.ofInt_sub, pv_z]
  have oz : -2147483648 ≤ (if 0 ≤ x then x else pv_w (0 - x)) ∧ (if 0 ≤ x then x else pv_w (0 - x)) ≤ 2147483647 := by
    split
    · exact o1
    · exact ⟨pv_w_lo _, pv_w_hi _⟩
  refine va_mabs hx hb (by rw [hml]; exact hl.1.symm) hown (hts _ hl1) (hts _ hl2) (hts _ hl3) (hts _ hl4) hdd (by rw [pv_cs_of]; show _ + 13 ≤ 64 * d; omega) (show cells ≤ mc from N.2.2.2.2.1) (show slots ≤ ms from N.2.2.2.2.2) hd ?_
  rw [ez]
  exact k _ _ _ _ _ _ _ _ _ _ _ _ _ _ _ _ _ _ _ _ _ _ _ C N ⟨ag, hP, hD, oH, hS, hl, oL, List.forall_mem_cons.mpr ⟨oz, oS⟩⟩
end RULES
