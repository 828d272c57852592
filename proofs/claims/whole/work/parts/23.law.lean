/-! two pictures side by side; the law's own steps -/
section TWO
variable {p : Program} {l : Launch} {e : Env} {R : Room} {s : State} {m : MethodId} {args : Array Value} {below : List Frame} {meth : Method} {c : Code} {H : Heap} {locs : List Loc} {cells slots : Nat} {Q : State → Prop}
theorem pv_callF {D : va_G} {aC : Nat → ClassId} {ad : Nat → Nat} {n : Nat} {sh1 : pv_Sh} {h1 : pv_H} {r1 : Option pv_V} {A0 A1 : Nat → Prop} {a : Array Value} {free : Addr → Prop} {mc ms pc : Nat} {ls : Array Slot} {rest st0 : List Value} {H0 : Heap} (hr : va_Run p l e R s m args below meth c H locs cells slots mc ms (F0 m pc ls st0) rest (pv_Q D aC ad n sh1 h1 r1 A1 a) free) (hS : va_S A0 H0 H locs) (hA : ∀ q, q < H.size → A1 q → A0 q) (hf : ∀ q, free q → A0 q)
    (kk : ∀ (ad' : Nat → Nat) (t : State) (H1 : Heap) (locs1 : List Loc), t.heap = H1 → s.vm.Alike t.vm → pv_ag ad ad' n → (∀ v, r1 = some v → pv_ok sh1.length v) → pv_B D aC ad' sh1 h1 A1 t → H.size ≤ H1.size → (∀ q : Nat, q < H.size → ¬ A1 q → H1[q]? = H[q]?) → va_S A0 H0 H1 locs1 → W p l e R s m args below meth c H1 locs1 (cells + mc) (slots + ms) Q (F0 m (pc + 3) ls ((r1.map (pv_tv ad')).toList ++ rest))) : W p l e R s m args below meth c H locs cells slots Q (F0 m pc ls st0) := by
  intro T hT X
  obtain ⟨v, st0, t, T1, L, h0, X1, hL, e1, e2, ⟨⟨ad', g1, hv, g2, g3⟩, hz, hk⟩, st⟩ := hr T hT X
  have hv : v = r1.map (pv_tv ad') := by injection hv
  subst hv
  rw [h0] at hz hk
  obtain ⟨t2, a1, b1⟩ := kk ad' t T1.heap (locs ++ L) e1.symm (by rw [← e2]; exact X1.warmed.alike) g1 g2 g3 (by rw [e1]; exact hz) (fun q z1 z2 => by rw [e1]; exact hk q z1 z2)
    ⟨Nat.le_trans hS.1 (by rw [e1]; exact hz), fun q z1 z2 => by rw [e1, hk q (Nat.lt_of_lt_of_le z1 hS.1) (fun z => z2 (hA q (Nat.lt_of_lt_of_le z1 hS.1) z))]; exact hS.2.1 q z1 z2, fun q hq => by
      rcases List.mem_append.mp hq with z | z
      · exact hS.2.2 q z
      · exact hf _ (hL q z)⟩ T1 rfl X1
  exact ⟨t2, st t2 a1, b1⟩
end TWO
theorem pv_ws_mem {aC : Nat → ClassId} {ad : Nat → Nat} {sh : pv_Sh} {h : pv_H} {k : Nat} {q : Nat × va_E} (hk : (pv_ws aC ad sh h)[k]? = some q) : k < sh.length ∧ q.1 = ad k := by
  have hl : k < sh.length := by
    have := (List.getElem?_eq_some_iff.mp hk).1
    rwa [pv_ws_len] at this
  refine ⟨hl, ?_⟩
  have e : sh[k]? = some (sh.getD k (0, 0)) := by rw [List.getD_eq_getElem?_getD, List.getElem?_eq_getElem hl]; rfl
  rw [pv_ws_at e] at hk
  cases hk
  rfl
/-- a picture at its addresses -/
def lw_W (D : va_G) (aC : Nat → ClassId) (ad : Nat → Nat) (sh : pv_Sh) (h : pv_H) (A : Nat → Prop) (H : Heap) : Prop := va_P D vwCl (pv_ws aC ad sh h) H ∧ va_D A (pv_ws aC ad sh h) ∧ pv_oH sh h
section TWOC
variable {p : Program} {l : Launch} {e : Env} {s : State} {m : MethodId} {args : Array Value} {below : List Frame} {meth : Method} {c : Code} {H : Heap} {locs : List Loc} {cells slots : Nat} {Q : State → Prop}
/-- a call of a method of one picture; the other stays -/
theorem pv_two {cc : ByteArray} {own : String} {nL : Nat} {D : va_G} {aC : Nat → ClassId} {ad1 ad2 : Nat → Nat} {sh1 sh2 : pv_Sh} {h1 h1' h2 : pv_H} {A : Nat → Prop} {y : MethodName} {bytes : ByteArray} {mL n idx ci pc : Nat} {rt : Option FieldType} {As : List pv_V} {v : pv_V} {rest : List Value} {ls : Array Slot} {st0 : List Value}
    (hx : p.tables.exec = Jvm.exec) (hb : c.code = cc) (hml : c.maxLocals = nL) (hown : s.vm.findClass own = some m.cls) (hts : ∀ w ∈ pv_W, w.before args s = true) (hA : ∀ q, s.heap.size ≤ q → A q) (hK : va_K D vwCl (pv_tys aC) s) (hSt : pv_St ad1 A s s.heap) (hS : va_S A s.heap H locs) (W1 : lw_W D aC ad1 sh1 h1 A H) (W2 : lw_W D aC ad2 sh2 h2 A H) (hap : ∀ i j, i < sh1.length → j < sh2.length → ad1 i ≠ ad2 j)
    (e0 : sh1[0]? = some (0, ci)) (hci : ci < 11) (hd : decode cc pc = .ok (.invokevirtual idx, 3)) (hm : pv_MD y bytes mL rt n) (hl1 : Cond.methodLink own idx y ∈ pv_W) (hl2 : Cond.instanceMethod y ∈ pv_W) (hl3 : Cond.selects (pv_cn ci) y y ∈ pv_W) (hM : CALL y bytes mL rt 1000 sh1 h1 (.inr (.inr 0) :: As) sh1 h1' (some v)) (hn : As.length = n) (oA : ∀ v ∈ As, pv_ok sh1.length v) (hc : cells ≤ 600000) (hs : slots ≤ 7302250) (hst : st0 = (As.map (pv_tv ad1)).reverse ++ .ref (ad1 0) :: rest) (hcat : (rest.map fun v => v.category).sum ≤ 8) (hls : ls.size = nL)
    (kk : ∀ (H1 : Heap) (locs1 : List Loc), va_S A s.heap H1 locs1 → lw_W D aC ad1 sh1 h1' A H1 → lw_W D aC ad2 sh2 h2 A H1 → pv_ok sh1.length v → W p l e room_1 s m args below meth c H1 locs1 cells slots Q (F0 m (pc + 3) ls (pv_tv ad1 v :: rest))) : W p l e room_1 s m args below meth c H locs cells slots Q (F0 m pc ls st0) := by
  subst hst
  obtain ⟨hP1, hD1, o1⟩ := W1
  obtain ⟨hP2, hD2, o2⟩ := W2
  have hl0 : 0 < sh1.length := (List.getElem?_eq_some_iff.mp e0).1
  have oA' : ∀ v ∈ (.inr (.inr 0) :: As : List pv_V), pv_ok sh1.length v := List.forall_mem_cons.mpr ⟨Or.inl hl0, oA⟩
  have hMet : Met l y (Cond.code y bytes mL rt :: pv_W) (pv_rm 1000 (sh1.length - sh1.length) (pv_sl sh1 - pv_sl sh1)) (pv_Pc D aC ad1 H.size sh1 h1 (.inr (.inr 0) :: As)) (pv_Q D aC ad1 sh1.length sh1 h1' (some v) (va_A (pv_ws aC ad1 sh1 h1) H.size)) (sh1.length - sh1.length) (pv_sl sh1 - pv_sl sh1) (va_A (pv_ws aC ad1 sh1 h1) H.size) := hM.2 l D aC ad1 H.size
  have hw : (pv_ws aC ad1 sh1 h1)[0]? = some (ad1 0, .inr (ci, pv_fs ad1 ci (h1 0))) := pv_ws_at e0
  have hR : (pv_rm 1000 (sh1.length - sh1.length) (pv_sl sh1 - pv_sl sh1)).frames + 1 ≤ room_1.frames ∧ 8 + (mL + 11) + (pv_rm 1000 (sh1.length - sh1.length) (pv_sl sh1 - pv_sl sh1)).locals ≤ room_1.locals := by
    refine ⟨Nat.le_of_ble_eq_true rfl, ?_⟩
    have := hm.2.2.2
    show 8 + (mL + 11) + 64 * 1000 ≤ 84000
    omega
  have cb := callB_of (R := room_1) n hts (pv_GI hm) rfl (rfl : (pv_rm 1000 (sh1.length - sh1.length) (pv_sl sh1 - pv_sl sh1)).cells = _) (rfl : (pv_rm 1000 (sh1.length - sh1.length) (pv_sl sh1 - pv_sl sh1)).slots = _) (hts _ hm.2.1) (hts _ hl1) hm.2.2.1 hR
  have hr := va_runV (l := l) (below := below) (meth := meth) (e := e) (locs := locs) (cells := cells) (slots := slots) (C := pv_cn ci) (b := ad1 0) (As := As.map (pv_tv ad1)) (rest := rest) (g := F0 m pc ls ((As.map (pv_tv ad1)).reverse ++ .ref (ad1 0) :: rest)) ⟨hx, hb, hml, hown, hts⟩ hMet ⟨cb, hts _ hl2, hts _ hl3⟩ ⟨pv_blind, va_recv hK hP1 (pv_cl ci hci) hw, fun U hU hW => pv_pre (as := .inr (.inr 0) :: As) hP1 hK hD1 o1 hSt hS hA oA' hU hW⟩ rfl (by simp [hn]) hls rfl (lv_room hcat) hd ⟨by rw [Nat.sub_self]; exact hc, by rw [Nat.sub_self]; exact hs⟩
  refine pv_callF hr hS (fun q _ z => pv_free hD1 hS hA q z) (fun q z => pv_free hD1 hS hA q z) ?_
  intro ad' t H1 locs1 ht hvm g1 g2 ⟨zP, zK, zD, zo⟩ hz hk hS1
  rw [ht] at zP
  rw [g1.ws zo] at zP zD
  rw [Nat.sub_self, Nat.sub_self]
  have ev : (((some v).map (pv_tv ad')).toList ++ rest : List Value) = pv_tv ad1 v :: rest := by
    show pv_tv ad' v :: rest = _
    rw [g1.tv (g2 v rfl)]
  rw [ev]
  refine kk H1 locs1 hS1 ⟨zP, zD.weaken (fun k q _ z => pv_free hD1 hS hA q.1 z), zo⟩ ⟨hP2.kept (fun k q hq => ?_), hD2, o2⟩ (g2 v rfl)
  obtain ⟨k1, k2⟩ := pv_ws_mem hq
  refine hk q.1 (hP2 k q hq).lt ?_
  rintro (⟨j, e2, hj⟩ | hj)
  · obtain ⟨j1, j2⟩ := pv_ws_mem hj
    exact hap j k j1 k1 (j2.symm.trans k2)
  · have := (hP2 k q hq).lt
    omega
end TWOC
def R_law : String := "RodInThreeLaw"
def lw_P (b : Addr) (xs : List Int32) (args : Array Value) (s : State) : Prop := args = #[.ref b] ∧ s.IntsAt b xs ∧ xs.length ≤ 3072 ∧ (Jvm.Cond.and given_1 narrow_1).before args s = true
def lw_Q (_ : Array Value) (s : State) (o : Outcome) (t : State) : Prop := o = .returned (some (.int 1)) ∧ Framed s o t [] 600000 7302250
def lw_Z (below : List Frame) (a : Array Value) (s : State) : State → Prop := fun t => ∃ o, t.status = .running ∧ Ended t below o ∧ lw_Q a s o t
/-- the law's own end, with 1 on the stack, nothing written that was there before, its room as the claim has it -/
theorem lw_ret {p : Program} {l : Launch} {e : Env} {s : State} {m : MethodId} {below : List Frame} {meth : Method} {c : Code} {b : Nat} (hx : p.tables.exec = Jvm.exec) (hb : c.code = code) (hr : meth.sig.returnType = ret) (hlocks : meth.locks = false) {pc : Nat} {H : Heap} {ls : Array Slot} (hdg : decode code pc = .ok (.ireturn, 1)) : W p l e room_1 s m #[Value.ref b] below meth c H [] 600000 7302250 (lw_Z below #[Value.ref b] s) (F0 m pc ls [.int 1]) := by
  intro T hT X
  obtain ⟨fs, hret, hrun, hended, hW, hframe⟩ := X.leave (v := some (.int 1)) (hlocks := hlocks) (fun h => by rw [hr] at h; cases h)
  have hmeth' : T.vm.method? m = some meth := X.method'
  refine ⟨T.setFrames fs, ?_, .returned (some (.int 1)), hrun, hended, rfl, ⟨_, rfl⟩, hW, hframe⟩
  jvm_step X.here [X.here.top, hx, hb, hdg, hmeth', hr, ret, narrow_b1]
  (try refine ⟨rfl, ?_⟩); (try refine ⟨rfl, ?_⟩)
  first | (intro acts; rw [hret _ acts rfl rfl rfl]) | rw [hret _ _ rfl rfl rfl]
  exact Steps.refl _
/-- what holds at the law's entry: the machine, the code, the tables' words (any of lw_tbl by 'hts w (by decide +kernel)'), the script of L ints xs at the cell b, what the Statement gives of the start (any of its parts by flat_of_before) -/
def lw_At (p : Program) (s : State) (m : MethodId) (meth : Method) (c : Code) (b L : Nat) (xs : Nat → Int32) : Prop :=
  p.tables.exec = Jvm.exec ∧ c.code = code ∧ meth.sig.returnType = ret ∧ c.maxLocals = 4 ∧ s.vm.findClass R_law = some m.cls ∧ (∀ w ∈ lw_tbl, w.before #[Value.ref b] s = true) ∧ va_X b L xs s s.heap ∧ b < s.heap.size ∧ meth.locks = false ∧ (Jvm.Cond.and given_1 narrow_1).before #[Value.ref b] s = true
/-- a stack of the law's: numbers, and x (0), m (1), the script (2) -/
def lw_tv (x m b : Nat) : pv_V → Value
  | .inl z => .int (Int32.ofInt z)
  | .inr (.inl z) => .long (Int64.ofInt z)
  | .inr (.inr 0) => .ref x
  | .inr (.inr 1) => .ref m
  | .inr (.inr _) => .ref b
/-- numbers in their bounds -/
def lw_ok (v : pv_V) : Prop := pv_ok 3 v
/-- what stays all along the law's loop -/
def lw_F (s : State) (D : va_G) (aC : Nat → ClassId) (ad1 ad2 : Nat → Nat) : Prop := va_K D vwCl (pv_tys aC) s ∧ pv_St ad1 (fun q => s.heap.size ≤ q) s s.heap ∧ pv_St ad2 (fun q => s.heap.size ≤ q) s s.heap ∧ ∀ i j, i < pv_SC.length → j < pv_SM.length → ad1 i ≠ ad2 j
/-- from here, with the script at i, the law comes to its end with true -/
def LV (L : Nat) (xs : Nat → Int32) (pc i : Nat) (st : List pv_V) (hc hm : pv_H) : Prop :=
  ∀ (p : Program) (l : Launch) (e : Env) (s : State) (m : MethodId) (below : List Frame) (meth : Method) (c : Code) (b : Nat) (D : va_G) (aC : Nat → ClassId) (ad1 ad2 : Nat → Nat) (H : Heap) (locs : List Loc) (ls : Array Slot),
    lw_At p s m meth c b L xs → lw_F s D aC ad1 ad2 → va_S (fun q => s.heap.size ≤ q) s.heap H locs → lw_W D aC ad1 pv_SC (MC hc) (fun q => s.heap.size ≤ q) H → lw_W D aC ad2 pv_SM (MM hm) (fun q => s.heap.size ≤ q) H → lv_has ls 4 [(0, .ref b), (1, .ref (ad1 0)), (2, .ref (ad2 0)), (3, .int (Int32.ofInt (i : Int)))] → (∀ v ∈ st, lw_ok v) →
    W p l e room_1 s m #[Value.ref b] below meth c H locs 600000 7302250 (lw_Z below #[Value.ref b] s) (F0 m pc ls (st.map (lw_tv (ad1 0) (ad2 0) b)))
