/-! returns -/
theorem pv_N.eq {n0 s0 cells slots mc ms : Nat} {sh : pv_Sh} (h : pv_N n0 s0 cells slots mc ms sh sh) : cells = mc ∧ slots = ms := by
  obtain ⟨a, b, c, d, e, f⟩ := h
  omega
theorem EV.iret {own : String} {cc : ByteArray} {nL : Nat} {ini : Bool} {d : Nat} {pc : Nat} {L : List (Option pv_V)} {sh : pv_Sh} {h : pv_H} {x : Int} (hd : decode cc pc = .ok (.ireturn, 1)) : EV own cc nL (some .int) ini d sh h (some (.inl x)) pc L [.inl x] sh h := by
  intro p l e s m args below meth c D aC ad0 ad A n0 s0 cells slots mc ms H locs ls C N R
  obtain ⟨hx, hb, hml, hrt, hown, hts, hlk, hin, hA, hK, hSt⟩ := id C
  obtain ⟨ag, hP, hD, oH, hS, hl, oL, oS⟩ := id R
  obtain ⟨rfl, rfl⟩ := N.eq
  refine W.iret hx hb hrt  (fun t ht hW => ?_) hS.2.2 hd hlk
  refine ⟨⟨ad, ag, rfl, ?_, by rw [ht]; exact hP, hK.moved hW.alike, hD, oH⟩, hS.F ht⟩
  intro v hv
  cases hv
  exact oS (.inl x) List.mem_cons_self
theorem EV.zret {own : String} {cc : ByteArray} {nL : Nat} {ini : Bool} {d : Nat} {pc : Nat} {L : List (Option pv_V)} {sh : pv_Sh} {h : pv_H} {x : Int} (hd : decode cc pc = .ok (.ireturn, 1)) (h01 : x = 0 ∨ x = 1) : EV own cc nL (some .boolean) ini d sh h (some (.inl x)) pc L [.inl x] sh h := by
  intro p l e s m args below meth c D aC ad0 ad A n0 s0 cells slots mc ms H locs ls C N R
  obtain ⟨hx, hb, hml, hrt, hown, hts, hlk, hin, hA, hK, hSt⟩ := id C
  obtain ⟨ag, hP, hD, oH, hS, hl, oL, oS⟩ := id R
  obtain ⟨rfl, rfl⟩ := N.eq
  refine W.zret hx hb hrt (by rcases h01 with rfl | rfl <;> rfl) (fun t ht hW => ?_) hS.2.2 hd hlk
  refine ⟨⟨ad, ag, rfl, ?_, by rw [ht]; exact hP, hK.moved hW.alike, hD, oH⟩, hS.F ht⟩
  intro v hv
  cases hv
  exact oS (.inl x) List.mem_cons_self
theorem EV.lret {own : String} {cc : ByteArray} {nL : Nat} {ini : Bool} {d : Nat} {pc : Nat} {L : List (Option pv_V)} {sh : pv_Sh} {h : pv_H} {x : Int} (hd : decode cc pc = .ok (.lreturn, 1)) : EV own cc nL (some .long) ini d sh h (some (.inr (.inl x))) pc L [.inr (.inl x)] sh h := by
  intro p l e s m args below meth c D aC ad0 ad A n0 s0 cells slots mc ms H locs ls C N R
  obtain ⟨hx, hb, hml, hrt, hown, hts, hlk, hin, hA, hK, hSt⟩ := id C
  obtain ⟨ag, hP, hD, oH, hS, hl, oL, oS⟩ := id R
  obtain ⟨rfl, rfl⟩ := N.eq
  refine W.lret hx hb hrt  (fun t ht hW => ?_) hS.2.2 hd hlk
  refine ⟨⟨ad, ag, rfl, ?_, by rw [ht]; exact hP, hK.moved hW.alike, hD, oH⟩, hS.F ht⟩
  intro v hv
  cases hv
  exact oS (.inr (.inl x)) List.mem_cons_self
theorem EV.vret {own : String} {cc : ByteArray} {nL : Nat} {ini : Bool} {d : Nat} {pc : Nat} {L : List (Option pv_V)} {sh : pv_Sh} {h : pv_H} (hd : decode cc pc = .ok (.return_, 1)) : EV own cc nL none ini d sh h none pc L [] sh h := by
  intro p l e s m args below meth c D aC ad0 ad A n0 s0 cells slots mc ms H locs ls C N R
  obtain ⟨hx, hb, hml, hrt, hown, hts, hlk, hin, hA, hK, hSt⟩ := id C
  obtain ⟨ag, hP, hD, oH, hS, hl, oL, oS⟩ := id R
  obtain ⟨rfl, rfl⟩ := N.eq
  refine W.vret hx hb hrt  (fun t ht hW => ?_) hS.2.2 hd hlk
  refine ⟨⟨ad, ag, rfl, ?_, by rw [ht]; exact hP, hK.moved hW.alike, hD, oH⟩, hS.F ht⟩
  intro v hv
  cases hv
/-! calls -/
section PC
variable {p : Program} {l : Launch} {e : Env} {R : Room} {s : State} {m : MethodId} {args : Array Value} {below : List Frame} {meth : Method} {c : Code} {H : Heap} {locs : List Loc} {cells slots : Nat} {Q : State → Prop}
theorem pv_callQ {D : va_G} {aC : Nat → ClassId} {ad : Nat → Nat} {n : Nat} {sh1 : pv_Sh} {h1 : pv_H} {r1 : Option pv_V} {A0 A1 : Nat → Prop} {a : Array Value} {free : Addr → Prop} {mc ms pc : Nat} {ls : Array Slot} {rest st0 : List Value} {H0 : Heap} (hr : va_Run p l e R s m args below meth c H locs cells slots mc ms (F0 m pc ls st0) rest (pv_Q D aC ad n sh1 h1 r1 A1 a) free) (hS : va_S A0 H0 H locs) (hA : ∀ q, q < H.size → A1 q → A0 q) (hf : ∀ q, free q → A0 q)
    (kk : ∀ (ad' : Nat → Nat) (t : State) (H1 : Heap) (locs1 : List Loc), t.heap = H1 → s.vm.Alike t.vm → pv_ag ad ad' n → (∀ v, r1 = some v → pv_ok sh1.length v) → pv_B D aC ad' sh1 h1 A1 t → va_S A0 H0 H1 locs1 → W p l e R s m args below meth c H1 locs1 (cells + mc) (slots + ms) Q (F0 m (pc + 3) ls ((r1.map (pv_tv ad')).toList ++ rest))) : W p l e R s m args below meth c H locs cells slots Q (F0 m pc ls st0) := by
  intro T hT X
  obtain ⟨v, st0, t, T1, L, h0, X1, hL, e1, e2, ⟨⟨ad', g1, hv, g2, g3⟩, hz, hk⟩, st⟩ := hr T hT X
  have hv : v = r1.map (pv_tv ad') := by injection hv
  subst hv
  rw [h0] at hz hk
  obtain ⟨t2, a1, b1⟩ := kk ad' t T1.heap (locs ++ L) e1.symm (by rw [← e2]; exact X1.warmed.alike) g1 g2 g3
    ⟨Nat.le_trans hS.1 (by rw [e1]; exact hz), fun q z1 z2 => by rw [e1, hk q (Nat.lt_of_lt_of_le z1 hS.1) (fun z => z2 (hA q (Nat.lt_of_lt_of_le z1 hS.1) z))]; exact hS.2.1 q z1 z2, fun q hq => by
      rcases List.mem_append.mp hq with z | z
      · exact hS.2.2 q z
      · exact hf _ (hL q z)⟩ T1 rfl X1
  exact ⟨t2, st t2 a1, b1⟩
end PC
theorem pv_L_ag {ad ad' : Nat → Nat} {n : Nat} (g : pv_ag ad ad' n) {L : List (Option pv_V)} (o : ∀ v, some v ∈ L → pv_ok n v) {q : Nat × Value} (h : q ∈ pv_L ad' L) : q ∈ pv_L ad L := by
  obtain ⟨j, w⟩ := q
  obtain ⟨v, hv, rfl⟩ := pv_L_mem.mp h
  exact pv_L_mem.mpr ⟨v, hv, g.tv (o v (List.mem_of_getElem? hv))⟩
theorem pv_st_ag {ad ad' : Nat → Nat} {n : Nat} (g : pv_ag ad ad' n) {st : List pv_V} (o : ∀ v ∈ st, pv_ok n v) : st.map (pv_tv ad') = st.map (pv_tv ad) := List.map_congr_left (fun v hv => g.tv (o v hv))
theorem pv_free {A : Nat → Prop} {ws : va_W} {H0 H : Heap} {locs : List Loc} (hD : va_D A ws) (hS : va_S A H0 H locs) (hA : ∀ q, H0.size ≤ q → A q) : ∀ q, va_A ws H.size q → A q := by
  intro q h
  rcases h with ⟨k, e, h⟩ | h
  · exact hD.2 k (q, e) h
  · exact hA q (Nat.le_trans hS.1 h)
def pv_Pc (D : va_G) (aC : Nat → ClassId) (ad : Nat → Nat) (sz : Nat) (sh : pv_Sh) (h : pv_H) (as : List pv_V) : Array Value → State → Prop := va_Pc (as.map (pv_tv ad)) (fun U => U.heap.size = sz ∧ pv_B D aC ad sh h (fun _ => True) U ∧ pv_St ad (va_A (pv_ws aC ad sh h) sz) U U.heap ∧ ∀ v ∈ as, pv_ok sh.length v)
theorem pv_blind {D : va_G} {aC : Nat → ClassId} {ad : Nat → Nat} {sz : Nat} {sh : pv_Sh} {h : pv_H} {as : List pv_V} : FrameBlind (pv_Pc D aC ad sz sh h as) := by
  intro a U g mk q
  obtain ⟨q1, q2, ⟨q3, q4, q5, q6⟩, q7, q8⟩ := q
  exact ⟨q1, q2, ⟨q3, va_K.moved (u := U) (U := U.calling g mk a) (Vm.Alike.refl U.vm) q4, q5, q6⟩, pv_St.same (u := U) (U := U.calling g mk a) rfl q7, q8⟩
theorem pv_pre {D : va_G} {aC : Nat → ClassId} {ad : Nat → Nat} {A : Nat → Prop} {s U : State} {H : Heap} {locs : List Loc} {sh : pv_Sh} {h : pv_H} {as : List pv_V} (hP : va_P D vwCl (pv_ws aC ad sh h) H) (hK : va_K D vwCl (pv_tys aC) s) (hD : va_D A (pv_ws aC ad sh h)) (oH : pv_oH sh h) (hSt : pv_St ad A s s.heap) (hS : va_S A s.heap H locs) (hA : ∀ q, s.heap.size ≤ q → A q) (oA : ∀ v ∈ as, pv_ok sh.length v) (hU : U.heap = H) (hW : s.WarmedH U.vm) : pv_Pc D aC ad H.size sh h as (as.map (pv_tv ad)).toArray U := by
  refine ⟨rfl, by rw [hU], ⟨by rw [hU]; exact hP, hK.moved hW.alike, hD.weaken (fun _ _ _ _ => trivial), oH⟩, ?_, oA⟩
  rw [hU]
  exact ((hSt.kept hS.2.1).narrow (pv_free hD hS hA)).warm hW
/-- what comes behind a call -/
theorem pv_after {own : String} {cc : ByteArray} {nL : Nat} {ret : Option FieldType} {ini : Bool} {d : Nat} {sh' : pv_Sh} {h' : pv_H} {r : Option pv_V} {pc : Nat} {L : List (Option pv_V)} {st : List pv_V} {sh : pv_Sh} {h : pv_H} {sh1 : pv_Sh} {h1 : pv_H} {r1 : Option pv_V} {p : Program} {l : Launch} {e : Env} {s : State} {m : MethodId} {args : Array Value} {below : List Frame} {meth : Method} {c : Code} {D : va_G} {aC : Nat → ClassId} {ad0 ad : Nat → Nat} {A : Nat → Prop} {n0 s0 cells slots mc ms : Nat} {H : Heap} {locs : List Loc} {ls : Array Slot} {st0 : List Value} {a : Array Value}
    (C : pv_C p s m args meth c own cc nL ret ini D aC ad A) (N : pv_N n0 s0 cells slots mc ms sh sh') (R : pv_R s D aC ad0 ad A n0 H locs ls nL L st sh h) (hp : ∃ t, sh1 = sh ++ t) (hq : ∃ t, sh' = sh1 ++ t)
    (hr : va_Run p l e (pv_rm d mc ms) s m args below meth c H locs cells slots (sh1.length - sh.length) (pv_sl sh1 - pv_sl sh) (F0 m pc ls st0) (st.map (pv_tv ad)) (pv_Q D aC ad sh.length sh1 h1 r1 (va_A (pv_ws aC ad sh h) H.size) a) (va_A (pv_ws aC ad sh h) H.size))
    (k : EV own cc nL ret ini d sh' h' r (pc + 3) L (r1.toList ++ st) sh1 h1) : W p l e (pv_rm d mc ms) s m args below meth c H locs cells slots (MQ below (pv_Q D aC ad0 n0 sh' h' r A) args s mc ms A) (F0 m pc ls st0) := by
  obtain ⟨hx, hb, hml, hrt, hown, hts, hlk, hin, hA, hK, hSt⟩ := id C
  obtain ⟨ag, hP, hD, oH, hS, hl, oL, oS⟩ := id R
  obtain ⟨t1, e1⟩ := hp
  obtain ⟨t2, e2⟩ := hq
  have l1 : sh1.length = sh.length + t1.length := by rw [e1]; simp
  have l2 : sh'.length = sh1.length + t2.length := by rw [e2]; simp
  have m1 : pv_sl sh1 = pv_sl sh + pv_sl t1 := by rw [e1, pv_sl_app]
  have m2 : pv_sl sh' = pv_sl sh1 + pv_sl t2 := by rw [e2, pv_sl_app]
  have hle : sh.length ≤ sh1.length := by omega
  obtain ⟨na, nb, nc, nd, ne, nf⟩ := N
  have hn0 : n0 ≤ sh.length := by omega
  refine pv_callQ hr hS (fun q _ z => pv_free hD hS hA q z) (fun q z => pv_free hD hS hA q z) ?_
  intro ad' t H1 locs1 ht hvm g1 g2 ⟨hP1, hK1, hD1, oH1⟩ hS1
  rw [ht] at hP1
  have es : (r1.map (pv_tv ad')).toList ++ st.map (pv_tv ad) = (r1.toList ++ st).map (pv_tv ad') := by
    rw [List.map_append, pv_st_ag g1 oS]
    cases r1 with
    | none => rfl
    | some v => rfl
  rw [es]
  refine k p l e s m args below meth c D aC ad0 ad' A n0 s0 _ _ mc ms H1 locs1 ls ⟨hx, hb, hml, hrt, hown, hts, hlk, hin, hA, hK, hSt.ag g1⟩ ⟨by omega, by omega, by omega, by omega, by omega, by omega⟩ ⟨ag.tr g1 hn0, hP1, hD1.weaken (fun k q _ z => pv_free hD hS hA q.1 z), oH1, hS1, pv_L_weak hl (fun q => pv_L_ag g1 oL), fun v hv => (oL v hv).mono hle, ?_⟩
  intro v hv
  rcases List.mem_append.mp hv with z | z
  · cases r1 with
    | none => cases z
    | some w =>
      have : v = w := by simpa using z
      subst this
      exact g2 v rfl
  · exact (oS v z).mono hle
/-- what a method's name and code are in the tables; what a link of it is -/
def pv_MD (y : MethodName) (bytes : ByteArray) (mL : Nat) (rt : Option FieldType) (n : Nat) : Prop := Cond.code y bytes mL rt ∈ pv_W ∧ Cond.initialized y.cls ∈ pv_W ∧ (y.cls ≠ "java/lang/invoke/MethodHandle" ∧ y.cls ≠ "java/lang/invoke/VarHandle" ∧ (parseMethodDescriptor y.desc).map (fun d => d.parameters.length) = some n) ∧ mL ≤ 45
theorem pv_W_good {w : Cond} (h : w ∈ pv_W) : (w.onTables && w.keeps) = true ∨ ∃ ty, w = .arrayClass ty := good_of_word (List.mem_filter.mp h).2
theorem pv_GI {y : MethodName} {bytes : ByteArray} {mL : Nat} {rt : Option FieldType} {n : Nat} (h : pv_MD y bytes mL rt n) : GoodIn pv_W (Cond.code y bytes mL rt :: pv_W) := by
  intro w hw
  have hm : w ∈ pv_W := (List.mem_cons.mp hw).elim (fun z => z ▸ h.1) id
  exact ⟨hm, pv_W_good hm⟩
theorem pv_roomOK {d1 d mc1 ms1 mc ms mL : Nat} (h1 : d1 + 1 ≤ d) (h2 : mL ≤ 45) : (pv_rm d1 mc1 ms1).frames + 1 ≤ (pv_rm d mc ms).frames ∧ 8 + (mL + 11) + (pv_rm d1 mc1 ms1).locals ≤ (pv_rm d mc ms).locals := by
  refine ⟨h1, ?_⟩
  show 8 + (mL + 11) + 64 * d1 ≤ 64 * d
  omega
def pv_cs (st : List pv_V) : Nat := (st.map (fun v => bif pv_c2 v then 2 else 1)).sum
theorem pv_cs_of {ad : Nat → Nat} {st : List pv_V} : ((st.map (pv_tv ad)).map fun v => v.category).sum = pv_cs st := by
  unfold pv_cs
  rw [List.map_map]
  congr 1
  apply List.map_congr_left
  intro v _
  rcases v with x | y | q <;> rfl
section RULES
variable {own : String} {cc : ByteArray} {nL : Nat} {ret : Option FieldType} {ini : Bool} {d : Nat} {sh' : pv_Sh} {h' : pv_H} {r : Option pv_V} {pc : Nat} {L : List (Option pv_V)} {st : List pv_V} {sh : pv_Sh} {h : pv_H}
theorem EV.invV {y : MethodName} {bytes : ByteArray} {mL n d1 idx : Nat} {rt : Option FieldType} {As stk : List pv_V} {sh1 : pv_Sh} {h1 : pv_H} {r1 : Option pv_V} {q ci : Nat} (hd : decode cc pc = .ok (.invokevirtual idx, 3)) (e0 : sh[q]? = some (0, ci)) (hci : ci < 11) (hm : pv_MD y bytes mL rt n) (hl1 : Cond.methodLink own idx y ∈ pv_W) (hl2 : Cond.instanceMethod y ∈ pv_W) (hl3 : Cond.selects (pv_cn ci) y y ∈ pv_W) (hM : CALL y bytes mL rt d1 sh h (.inr (.inr q) :: As) sh1 h1 r1) (hdd : d1 + 1 ≤ d) (hn : As.length = n) (hst : stk = As.reverse ++ .inr (.inr q) :: st) (hc : pv_cs st ≤ 8) (hq : ∃ t, sh' = sh1 ++ t) (k : EV own cc nL ret ini d sh' h' r (pc + 3) L (r1.toList ++ st) sh1 h1) : EV own cc nL ret ini d sh' h' r pc L stk sh h := by
  intro p l e s m args below meth c D aC ad0 ad A n0 s0 cells slots mc ms H locs ls C N R
  obtain ⟨hx, hb, hml, hrt, hown, hts, hlk, hin, hA, hK, hSt⟩ := id C
  obtain ⟨ag, hP, hD, oH, hS, hl, oL, oS⟩ := id R
  subst hst
  have oS1 : ∀ v ∈ st, pv_ok sh.length v := fun v hv => oS v (by simp [hv])
  have oA : ∀ v ∈ (.inr (.inr q) :: As), pv_ok sh.length v := fun v hv => oS v (by simp at hv ⊢; rcases hv with hv | hv <;> simp [hv])
  refine pv_after C N ⟨ag, hP, hD, oH, hS, hl, oL, oS1⟩ hM.1 hq (a := ((.inr (.inr q) :: As).map (pv_tv ad)).toArray) ?_ k
  have hfit : cells + (sh1.length - sh.length) ≤ (pv_rm d mc ms).cells ∧ slots + (pv_sl sh1 - pv_sl sh) ≤ (pv_rm d mc ms).slots := by
    obtain ⟨t1, e1⟩ := hM.1
    obtain ⟨t2, e2⟩ := hq
    have l1 : sh1.length = sh.length + t1.length := by rw [e1]; simp
    have l2 : sh'.length = sh1.length + t2.length := by rw [e2]; simp
    have m1 : pv_sl sh1 = pv_sl sh + pv_sl t1 := by rw [e1, pv_sl_app]
    have m2 : pv_sl sh' = pv_sl sh1 + pv_sl t2 := by rw [e2, pv_sl_app]
    obtain ⟨na, nb, nc, nd, ne, nf⟩ := N
    refine ⟨?_, ?_⟩
    · show _ ≤ mc
      omega
    · show _ ≤ ms
      omega
  have hcs : 2 * (F0 m pc ls ((As.reverse ++ .inr (.inr q) :: st).map (pv_tv ad))).monitorRoom + (((st.map (pv_tv ad))).map fun v => v.category).sum ≤ 8 := lv_room (by rw [pv_cs_of]; exact hc)
  have hMet : Met l y (Cond.code y bytes mL rt :: pv_W) (pv_rm d1 (sh1.length - sh.length) (pv_sl sh1 - pv_sl sh)) (pv_Pc D aC ad H.size sh h (.inr (.inr q) :: As)) (pv_Q D aC ad sh.length sh1 h1 r1 (va_A (pv_ws aC ad sh h) H.size)) (sh1.length - sh.length) (pv_sl sh1 - pv_sl sh) (va_A (pv_ws aC ad sh h) H.size) := hM.2 l D aC ad H.size
  have hw : (pv_ws aC ad sh h)[q]? = some (ad q, .inr (ci, pv_fs ad ci (h q))) := pv_ws_at e0
  have cb := callB_of (R := pv_rm d mc ms) n hts (pv_GI hm) rfl (rfl : (pv_rm d1 (sh1.length - sh.length) (pv_sl sh1 - pv_sl sh)).cells = _) (rfl : (pv_rm d1 (sh1.length - sh.length) (pv_sl sh1 - pv_sl sh)).slots = _) (hts _ hm.2.1) (hts _ hl1) hm.2.2.1 (pv_roomOK hdd hm.2.2.2)
  exact va_runV (C := pv_cn ci) (b := ad q) (As := As.map (pv_tv ad)) (rest := st.map (pv_tv ad)) ⟨hx, hb, hml, hown, hts⟩ hMet ⟨cb, hts _ hl2, hts _ hl3⟩ ⟨pv_blind, va_recv hK hP (pv_cl ci hci) hw, fun U hU hW => pv_pre (as := .inr (.inr q) :: As) hP hK hD oH hSt hS hA oA hU hW⟩ rfl (by simp [hn]) hl.1 (by simp [pv_tv]) hcs hd hfit
theorem EV.invS {y : MethodName} {bytes : ByteArray} {mL n d1 idx : Nat} {rt : Option FieldType} {As stk : List pv_V} {sh1 : pv_Sh} {h1 : pv_H} {r1 : Option pv_V}  (hd : decode cc pc = .ok (.invokestatic idx, 3))  (hm : pv_MD y bytes mL rt n) (hl1 : Cond.methodLink own idx y ∈ pv_W) (hl2 : Cond.static y ∈ pv_W) (hM : CALL y bytes mL rt d1 sh h As sh1 h1 r1) (hdd : d1 + 1 ≤ d) (hn : As.length = n) (hst : stk = As.reverse ++ st) (hc : pv_cs st ≤ 8) (hq : ∃ t, sh' = sh1 ++ t) (k : EV own cc nL ret ini d sh' h' r (pc + 3) L (r1.toList ++ st) sh1 h1) : EV own cc nL ret ini d sh' h' r pc L stk sh h := by
  intro p l e s m args below meth c D aC ad0 ad A n0 s0 cells slots mc ms H locs ls C N R
  obtain ⟨hx, hb, hml, hrt, hown, hts, hlk, hin, hA, hK, hSt⟩ := id C
  obtain ⟨ag, hP, hD, oH, hS, hl, oL, oS⟩ := id R
  subst hst
  have oS1 : ∀ v ∈ st, pv_ok sh.length v := fun v hv => oS v (by simp [hv])
  have oA : ∀ v ∈ As, pv_ok sh.length v := fun v hv => oS v (by simp [hv])
  refine pv_after C N ⟨ag, hP, hD, oH, hS, hl, oL, oS1⟩ hM.1 hq (a := (As.map (pv_tv ad)).toArray) ?_ k
  have hfit : cells + (sh1.length - sh.length) ≤ (pv_rm d mc ms).cells ∧ slots + (pv_sl sh1 - pv_sl sh) ≤ (pv_rm d mc ms).slots := by
    obtain ⟨t1, e1⟩ := hM.1
    obtain ⟨t2, e2⟩ := hq
    have l1 : sh1.length = sh.length + t1.length := by rw [e1]; simp
    have l2 : sh'.length = sh1.length + t2.length := by rw [e2]; simp
    have m1 : pv_sl sh1 = pv_sl sh + pv_sl t1 := by rw [e1, pv_sl_app]
    have m2 : pv_sl sh' = pv_sl sh1 + pv_sl t2 := by rw [e2, pv_sl_app]
    obtain ⟨na, nb, nc, nd, ne, nf⟩ := N
    refine ⟨?_, ?_⟩
    · show _ ≤ mc
      omega
    · show _ ≤ ms
      omega
  have hcs : 2 * (F0 m pc ls ((As.reverse ++ st).map (pv_tv ad))).monitorRoom + (((st.map (pv_tv ad))).map fun v => v.category).sum ≤ 8 := lv_room (by rw [pv_cs_of]; exact hc)
  have hMet : Met l y (Cond.code y bytes mL rt :: pv_W) (pv_rm d1 (sh1.length - sh.length) (pv_sl sh1 - pv_sl sh)) (pv_Pc D aC ad H.size sh h As) (pv_Q D aC ad sh.length sh1 h1 r1 (va_A (pv_ws aC ad sh h) H.size)) (sh1.length - sh.length) (pv_sl sh1 - pv_sl sh) (va_A (pv_ws aC ad sh h) H.size) := hM.2 l D aC ad H.size
  have cb := callB_of (R := pv_rm d mc ms) n hts (pv_GI hm) rfl (rfl : (pv_rm d1 (sh1.length - sh.length) (pv_sl sh1 - pv_sl sh)).cells = _) (rfl : (pv_rm d1 (sh1.length - sh.length) (pv_sl sh1 - pv_sl sh)).slots = _) (hts _ hm.2.1) (hts _ hl1) hm.2.2.1 (pv_roomOK hdd hm.2.2.2)
  exact va_runS (As := As.map (pv_tv ad)) (rest := st.map (pv_tv ad)) ⟨hx, hb, hml, hown, hts⟩ hMet ⟨cb, hts _ hl2⟩ ⟨pv_blind, fun U hU hW => pv_pre (as := As) hP hK hD oH hSt hS hA oA hU hW⟩ rfl (by simp [hn]) hl.1 (by simp) hcs hd hfit
theorem EV.invI {y : MethodName} {bytes : ByteArray} {mL n d1 idx : Nat} {As stk : List pv_V} {sh1 : pv_Sh} {h1 : pv_H} {r1 : Option pv_V} {q : Nat} (hd : decode cc pc = .ok (.invokespecial idx, 3))  (hm : pv_MD y bytes mL none n) (hl1 : Cond.methodLink own idx y ∈ pv_W) (hl2 : Cond.instanceMethod y ∈ pv_W) (hl3 : y.name = "<init>") (hM : CALL y bytes mL none d1 sh h (.inr (.inr q) :: As) sh1 h1 r1) (hdd : d1 + 1 ≤ d) (hn : As.length = n) (hst : stk = As.reverse ++ .inr (.inr q) :: st) (hc : pv_cs st ≤ 8) (hq : ∃ t, sh' = sh1 ++ t) (k : EV own cc nL ret ini d sh' h' r (pc + 3) L (r1.toList ++ st) sh1 h1) : EV own cc nL ret ini d sh' h' r pc L stk sh h := by
  intro p l e s m args below meth c D aC ad0 ad A n0 s0 cells slots mc ms H locs ls C N R
  obtain ⟨hx, hb, hml, hrt, hown, hts, hlk, hin, hA, hK, hSt⟩ := id C
  obtain ⟨ag, hP, hD, oH, hS, hl, oL, oS⟩ := id R
  subst hst
  have oS1 : ∀ v ∈ st, pv_ok sh.length v := fun v hv => oS v (by simp [hv])
  have oA : ∀ v ∈ (.inr (.inr q) :: As), pv_ok sh.length v := fun v hv => oS v (by simp at hv ⊢; rcases hv with hv | hv <;> simp [hv])
  refine pv_after C N ⟨ag, hP, hD, oH, hS, hl, oL, oS1⟩ hM.1 hq (a := ((.inr (.inr q) :: As).map (pv_tv ad)).toArray) ?_ k
  have hfit : cells + (sh1.length - sh.length) ≤ (pv_rm d mc ms).cells ∧ slots + (pv_sl sh1 - pv_sl sh) ≤ (pv_rm d mc ms).slots := by
    obtain ⟨t1, e1⟩ := hM.1
    obtain ⟨t2, e2⟩ := hq
    have l1 : sh1.length = sh.length + t1.length := by rw [e1]; simp
    have l2 : sh'.length = sh1.length + t2.length := by rw [e2]; simp
    have m1 : pv_sl sh1 = pv_sl sh + pv_sl t1 := by rw [e1, pv_sl_app]
    have m2 : pv_sl sh' = pv_sl sh1 + pv_sl t2 := by rw [e2, pv_sl_app]
    obtain ⟨na, nb, nc, nd, ne, nf⟩ := N
    refine ⟨?_, ?_⟩
    · show _ ≤ mc
      omega
    · show _ ≤ ms
      omega
  have hcs : 2 * (F0 m pc ls ((As.reverse ++ .inr (.inr q) :: st).map (pv_tv ad))).monitorRoom + (((st.map (pv_tv ad))).map fun v => v.category).sum ≤ 8 := lv_room (by rw [pv_cs_of]; exact hc)
  have hMet : Met l y (Cond.code y bytes mL none :: pv_W) (pv_rm d1 (sh1.length - sh.length) (pv_sl sh1 - pv_sl sh)) (pv_Pc D aC ad H.size sh h (.inr (.inr q) :: As)) (pv_Q D aC ad sh.length sh1 h1 r1 (va_A (pv_ws aC ad sh h) H.size)) (sh1.length - sh.length) (pv_sl sh1 - pv_sl sh) (va_A (pv_ws aC ad sh h) H.size) := hM.2 l D aC ad H.size
  have cb := callB_of (R := pv_rm d mc ms) n hts (pv_GI hm) rfl (rfl : (pv_rm d1 (sh1.length - sh.length) (pv_sl sh1 - pv_sl sh)).cells = _) (rfl : (pv_rm d1 (sh1.length - sh.length) (pv_sl sh1 - pv_sl sh)).slots = _) (hts _ hm.2.1) (hts _ hl1) hm.2.2.1 (pv_roomOK hdd hm.2.2.2)
  exact va_runI (b := ad q) (As := As.map (pv_tv ad)) (rest := st.map (pv_tv ad)) ⟨hx, hb, hml, hown, hts⟩ hMet ⟨cb, hl3, hts _ hl2⟩ ⟨pv_blind, fun U hU hW => pv_pre (as := .inr (.inr q) :: As) hP hK hD oH hSt hS hA oA hU hW⟩ rfl (by simp [hn]) hl.1 (by simp [pv_tv]) hcs hd hfit
theorem EV.invN {y : MethodName} {bytes : ByteArray} {mL n d1 idx : Nat} {As stk : List pv_V} {sh1 : pv_Sh} {h1 : pv_H} {r1 : Option pv_V} {q : Nat} {host : String} (hd : decode cc pc = .ok (.invokespecial idx, 3))  (hm : pv_MD y bytes mL none n) (hl1 : Cond.methodLinkNest own idx y host ∈ pv_nest) (hl2 : Cond.instanceMethod y ∈ pv_W) (hl3 : y.name = "<init>") (hM : CALL y bytes mL none d1 sh h (.inr (.inr q) :: As) sh1 h1 r1) (hdd : d1 + 1 ≤ d) (hn : As.length = n) (hst : stk = As.reverse ++ .inr (.inr q) :: st) (hc : pv_cs st ≤ 8) (hq : ∃ t, sh' = sh1 ++ t) (k : EV own cc nL ret ini d sh' h' r (pc + 3) L (r1.toList ++ st) sh1 h1) : EV own cc nL ret ini d sh' h' r pc L stk sh h := by
  intro p l e s m args below meth c D aC ad0 ad A n0 s0 cells slots mc ms H locs ls C N R
  obtain ⟨hx, hb, hml, hrt, hown, hts, hlk, hin, hA, hK, hSt⟩ := id C
  obtain ⟨ag, hP, hD, oH, hS, hl, oL, oS⟩ := id R
  subst hst
  have oS1 : ∀ v ∈ st, pv_ok sh.length v := fun v hv => oS v (by simp [hv])
  have oA : ∀ v ∈ (.inr (.inr q) :: As), pv_ok sh.length v := fun v hv => oS v (by simp at hv ⊢; rcases hv with hv | hv <;> simp [hv])
  refine pv_after C N ⟨ag, hP, hD, oH, hS, hl, oL, oS1⟩ hM.1 hq (a := ((.inr (.inr q) :: As).map (pv_tv ad)).toArray) ?_ k
  have hfit : cells + (sh1.length - sh.length) ≤ (pv_rm d mc ms).cells ∧ slots + (pv_sl sh1 - pv_sl sh) ≤ (pv_rm d mc ms).slots := by
    obtain ⟨t1, e1⟩ := hM.1
    obtain ⟨t2, e2⟩ := hq
    have l1 : sh1.length = sh.length + t1.length := by rw [e1]; simp
    have l2 : sh'.length = sh1.length + t2.length := by rw [e2]; simp
    have m1 : pv_sl sh1 = pv_sl sh + pv_sl t1 := by rw [e1, pv_sl_app]
    have m2 : pv_sl sh' = pv_sl sh1 + pv_sl t2 := by rw [e2, pv_sl_app]
    obtain ⟨na, nb, nc, nd, ne, nf⟩ := N
    refine ⟨?_, ?_⟩
    · show _ ≤ mc
      omega
    · show _ ≤ ms
      omega
  have hcs : 2 * (F0 m pc ls ((As.reverse ++ .inr (.inr q) :: st).map (pv_tv ad))).monitorRoom + (((st.map (pv_tv ad))).map fun v => v.category).sum ≤ 8 := lv_room (by rw [pv_cs_of]; exact hc)
  have hMet : Met l y (Cond.code y bytes mL none :: pv_W) (pv_rm d1 (sh1.length - sh.length) (pv_sl sh1 - pv_sl sh)) (pv_Pc D aC ad H.size sh h (.inr (.inr q) :: As)) (pv_Q D aC ad sh.length sh1 h1 r1 (va_A (pv_ws aC ad sh h) H.size)) (sh1.length - sh.length) (pv_sl sh1 - pv_sl sh) (va_A (pv_ws aC ad sh h) H.size) := hM.2 l D aC ad H.size
  have cb := va_cnB (R := pv_rm d mc ms) (args := args) (host := host) n hts (pv_GI hm) rfl (rfl : (pv_rm d1 (sh1.length - sh.length) (pv_sl sh1 - pv_sl sh)).cells = _) (rfl : (pv_rm d1 (sh1.length - sh.length) (pv_sl sh1 - pv_sl sh)).slots = _) (hSt.2.2.2.2.2.2.1 _ hl1) (hts _ hm.2.1) hm.2.2.1 (pv_roomOK hdd hm.2.2.2)
  exact va_runIN (b := ad q) (As := As.map (pv_tv ad)) (rest := st.map (pv_tv ad)) ⟨hx, hb, hml, hown, hts⟩ hMet ⟨cb, hl3, hts _ hl2⟩ ⟨pv_blind, fun U hU hW => pv_pre (as := .inr (.inr q) :: As) hP hK hD oH hSt hS hA oA hU hW⟩ rfl (by simp [hn]) hl.1 (by simp [pv_tv]) hcs hd hfit
end RULES
