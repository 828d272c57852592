/-- the words that every state of a run keeps; those of nest mates, which are carried -/
def pv_W : List Cond := lw_tbl.filter goodWord
def pv_isN : Cond → Bool
  | .fieldLinkNest _ _ _ _ _ _ => true
  | .methodLinkNest _ _ _ _ => true
  | _ => false
def pv_nest : List Cond := lw_tbl.filter pv_isN
theorem pv_isN_tab {w : Cond} (h : pv_isN w = true) : w.onTables = true := by
  cases w <;> first | rfl | cases h
theorem pv_isN_warm {w : Cond} (h : pv_isN w = true) {s U : State} (hW : s.WarmedH U.vm) (hZ : va_Nw w s) : va_Nw w U := by
  cases w <;> first | exact va_Nw.warmF hW hZ | exact va_Nw.warmM hW hZ | cases h
/-! what stands outside: three tables, two texts -/
def pv_t0 : List Int := [100, 5, 2, 1, 50, 0, 20, 0]
def pv_t1 : List Int := [3, 1, 1, 0, 0, 0, 0, 0, 0, 0, 0, 0, 0, 1, 0, 0, 1, 1, 0, 0, 0, 0, 0, 0, 0, 0, 0, 0, 0, 1, 0, 0, 0, 0, 1, 1, 0]
def pv_t2 : List Int := [60, 99, 999, 0, 0, 99, 99, 0, 0, 99, 99, 99, 0, 200, 200, 99, 9, 9, 100, 100, 100, 100, 0, 0, 0, 0, 0, 0, 0, 61, 99, 99, 99, 59, 60, 60, 999]
def pv_s0 : List Int := [99, 101, 108, 108, 115, 32, 115, 116, 105, 102, 102, 32, 115, 116, 114, 111, 110, 103, 32, 103, 108, 97, 115, 115, 32, 100, 97, 109, 112, 32, 110, 111, 116, 99, 104, 32, 102, 108, 97, 119, 115, 32, 97, 116, 32, 116, 111, 32, 98, 101, 110, 100, 32, 98, 97, 99, 107, 32, 116, 117, 114, 110, 32, 114, 101, 115, 116, 32, 102, 111, 114, 32, 98, 111, 117, 110, 99, 101, 32, 100, 105, 101, 32, 114, 117, 110, 32, 116, 119, 105, 115, 116, 32, 116, 97, 107, 101, 115, 32, 101, 99, 104, 111, 32, 114, 105, 110, 103, 32, 102, 105, 110, 103, 101, 114, 115, 32, 115, 101, 101, 107, 32, 105, 102, 32, 111, 114, 32, 97, 110, 100, 32, 110, 111, 116, 32, 102, 108, 97, 119, 101, 100, 32, 99, 114, 117, 115, 104, 101, 100, 32, 112, 105, 101, 99, 101, 115, 32, 119, 97, 118, 101, 100, 32, 108, 97, 116, 101, 32, 111, 102, 102, 115, 32, 102, 105, 114, 115, 116, 32, 108, 111, 110, 103, 101, 115, 116, 32, 115, 104, 111, 114, 116, 101, 115, 116, 32, 98, 101, 104, 105, 110, 100, 32]
def pv_s1t : List Int := 32 :: pv_s0
def pv_x0 : String := "cells stiff strong glass damp notch flaws at to bend back turn rest for bounce die run twist takes echo ring fingers seek if or and not flawed crushed pieces waved late offs first longest shortest behind "
def pv_x1 : String := " cells stiff strong glass damp notch flaws at to bend back turn rest for bounce die run twist takes echo ring fingers seek if or and not flawed crushed pieces waved late offs first longest shortest behind "
def pv_St (ad : Nat → Nat) (A : Nat → Prop) (U : State) (H : Heap) : Prop :=
  (va_Z "RodInThree" "LAW_WITHOUT" "[I" (.ref (ad pv_SB)) A U H ∧ va_T .int (ad pv_SB) 8 (fun j => .int (Int32.ofInt (pv_t0.getD j 0))) A U H) ∧
  (va_Z "RodInThree" "LEAST" "[I" (.ref (ad (pv_SB + 1))) A U H ∧ va_T .int (ad (pv_SB + 1)) 37 (fun j => .int (Int32.ofInt (pv_t1.getD j 0))) A U H) ∧
  (va_Z "RodInThree" "MOST" "[I" (.ref (ad (pv_SB + 2))) A U H ∧ va_T .int (ad (pv_SB + 2)) 37 (fun j => .int (Int32.ofInt (pv_t2.getD j 0))) A U H) ∧
  (va_Z "java/lang/String" "COMPACT_STRINGS" "Z" (.int 1) A U H ∧ va_Zq "jdk/internal/util/Preconditions" "SIOOBE_FORMATTER" "Ljava/util/function/BiFunction;" A U H) ∧
  vk_S 2 [204, 205] [pv_s0.map Int32.ofInt, pv_s1t.map Int32.ofInt] (fun i => ad (pv_SB + 3 + i)) (fun i => ad (pv_SB + 5 + i)) A U H ∧
  (vk_R RX4 47 pv_x0 (ad (pv_SB + 3)) U ∧ vk_R RX10 138 pv_x1 (ad (pv_SB + 4)) U) ∧
  (∀ w ∈ pv_nest, va_Nw w U) ∧ (va_AO RX5 U ∧ va_AO RX0 U ∧ va_AO RX8 U ∧ va_AO RX6 U)
theorem pv_St.moved {ad : Nat → Nat} {A : Nat → Prop} {u U : State} {H : Heap} (hW : u.vm.Alike U.vm) (hR : ∀ own k tx a, vk_R own k tx a u → vk_R own k tx a U) (hN : ∀ w, pv_isN w = true → va_Nw w u → va_Nw w U) (h : pv_St ad A u H) : pv_St ad A U H := by
  obtain ⟨⟨a1, a2⟩, ⟨b1, b2⟩, ⟨c1, c2⟩, ⟨d1, d2⟩, e1, ⟨f1, f2⟩, g1, g2, g3, g4, g5⟩ := h
  exact ⟨⟨a1.moved hW, a2.moved hW⟩, ⟨b1.moved hW, b2.moved hW⟩, ⟨c1.moved hW, c2.moved hW⟩, ⟨d1.moved hW, d2.moved hW⟩, e1.moved hW, ⟨hR _ _ _ _ f1, hR _ _ _ _ f2⟩, fun w hw => hN w (List.mem_filter.mp hw).2 (g1 w hw), g2.moved hW, g3.moved hW, g4.moved hW, g5.moved hW⟩
theorem pv_St.warm {ad : Nat → Nat} {A : Nat → Prop} {u U : State} {H : Heap} (hW : u.WarmedH U.vm) (h : pv_St ad A u H) : pv_St ad A U H := h.moved hW.alike (fun _ _ _ _ z => z.warm hW) (fun _ hw z => pv_isN_warm hw hW z)
theorem pv_St.same {ad : Nat → Nat} {A : Nat → Prop} {u U : State} {H : Heap} (hv : u.vm = U.vm) (h : pv_St ad A u H) : pv_St ad A U H := h.moved (by rw [hv]; exact Vm.Alike.refl U.vm) (fun _ _ _ _ z => z.same hv.symm) (fun _ hw z => z.same (pv_isN_tab hw) hv)
theorem pv_St.kept {ad : Nat → Nat} {A : Nat → Prop} {U : State} {H H1 : Heap} (h : pv_St ad A U H) (hq : ∀ a : Nat, a < H.size → ¬ A a → H1[a]? = H[a]?) : pv_St ad A U H1 := by
  obtain ⟨⟨a1, a2⟩, ⟨b1, b2⟩, ⟨c1, c2⟩, ⟨d1, d2⟩, e1, ⟨f1, f2⟩, g1, g2, g3, g4, g5⟩ := h
  exact ⟨⟨a1.kept hq, a2.kept hq⟩, ⟨b1.kept hq, b2.kept hq⟩, ⟨c1.kept hq, c2.kept hq⟩, ⟨d1.kept hq, d2.kept hq⟩, e1.kept hq, ⟨f1, f2⟩, g1, g2, g3, g4, g5⟩
theorem pv_St.narrow {ad : Nat → Nat} {A B : Nat → Prop} {U : State} {H : Heap} (h : pv_St ad A U H) (hq : ∀ q, B q → A q) : pv_St ad B U H := by
  obtain ⟨⟨a1, a2⟩, ⟨b1, b2⟩, ⟨c1, c2⟩, ⟨d1, d2⟩, e1, ⟨f1, f2⟩, g1, g2, g3, g4, g5⟩ := h
  exact ⟨⟨a1.narrow hq, a2.narrow hq⟩, ⟨b1.narrow hq, b2.narrow hq⟩, ⟨c1.narrow hq, c2.narrow hq⟩, ⟨d1.narrow hq, d2.narrow hq⟩, e1.narrow hq, ⟨f1, f2⟩, g1, g2, g3, g4, g5⟩
theorem pv_St.ag {ad ad' : Nat → Nat} {n : Nat} {A : Nat → Prop} {U : State} {H : Heap} (g : pv_ag ad ad' n) (h : pv_St ad A U H) : pv_St ad' A U H := by
  have k : ∀ j, ad' (pv_SB + j) = ad (pv_SB + j) := fun j => g _ (Or.inr (Nat.le_add_right _ _))
  have k3 : (fun i => ad' (pv_SB + 3 + i)) = (fun i => ad (pv_SB + 3 + i)) := by funext i; rw [Nat.add_assoc]; exact k _
  have k5 : (fun i => ad' (pv_SB + 5 + i)) = (fun i => ad (pv_SB + 5 + i)) := by funext i; rw [Nat.add_assoc]; exact k _
  have k0 : ad' pv_SB = ad pv_SB := k 0
  unfold pv_St
  rw [k3, k5, k0, k 1, k 2, k 3, k 4]
  exact h
/-! the judgements -/
def pv_rm (d mc ms : Nat) : Room := { frames := d, cells := mc, slots := ms, locals := 64 * d }
def pv_B (D : va_G) (aC : Nat → ClassId) (ad : Nat → Nat) (sh : pv_Sh) (h : pv_H) (A : Nat → Prop) (U : State) : Prop := va_P D vwCl (pv_ws aC ad sh h) U.heap ∧ va_K D vwCl (pv_tys aC) U ∧ va_D A (pv_ws aC ad sh h) ∧ pv_oH sh h
def pv_Q (D : va_G) (aC : Nat → ClassId) (ad : Nat → Nat) (n : Nat) (sh' : pv_Sh) (h' : pv_H) (r : Option pv_V) (A : Nat → Prop) : Array Value → State → Outcome → State → Prop := fun _ st oc t =>
  (∃ ad' : Nat → Nat, pv_ag ad ad' n ∧ oc = .returned (r.map (pv_tv ad')) ∧ (∀ v, r = some v → pv_ok sh'.length v) ∧ pv_B D aC ad' sh' h' A t) ∧ va_F A st t
/-- a call of a method: from a picture and arguments to a picture and an answer, d frames deep -/
def CALL (y : MethodName) (cc : ByteArray) (mL : Nat) (ret : Option FieldType) (d : Nat) (sh : pv_Sh) (h : pv_H) (as : List pv_V) (sh' : pv_Sh) (h' : pv_H) (r : Option pv_V) : Prop :=
  (∃ t, sh' = sh ++ t) ∧ ∀ (l : Launch) (D : va_G) (aC : Nat → ClassId) (ad : Nat → Nat) (sz : Nat),
    Met l y (.code y cc mL ret :: pv_W) (pv_rm d (sh'.length - sh.length) (pv_sl sh' - pv_sl sh))
      (va_Pc (as.map (pv_tv ad)) (fun U => U.heap.size = sz ∧ pv_B D aC ad sh h (fun _ => True) U ∧ pv_St ad (va_A (pv_ws aC ad sh h) sz) U U.heap ∧ ∀ v ∈ as, pv_ok sh.length v))
      (pv_Q D aC ad sh.length sh' h' r (va_A (pv_ws aC ad sh h) sz)) (sh'.length - sh.length) (pv_sl sh' - pv_sl sh) (va_A (pv_ws aC ad sh h) sz)
def pv_C (p : Program) (s : State) (m : MethodId) (args : Array Value) (meth : Method) (c : Code) (own : String) (cc : ByteArray) (nL : Nat) (ret : Option FieldType) (ini : Bool) (D : va_G) (aC : Nat → ClassId) (ad : Nat → Nat) (A : Nat → Prop) : Prop :=
  p.tables.exec = Jvm.exec ∧ c.code = cc ∧ c.maxLocals = nL ∧ meth.sig.returnType = ret ∧ s.vm.findClass own = some m.cls ∧ (∀ w ∈ pv_W, w.before args s = true) ∧ meth.locks = false ∧ (ini = true → meth.name = "<init>") ∧ (∀ q, s.heap.size ≤ q → A q) ∧ va_K D vwCl (pv_tys aC) s ∧ pv_St ad A s s.heap
/-- the counts: what was there at the method's start, what is there now, what is there at its end -/
def pv_N (n0 s0 cells slots mc ms : Nat) (sh sh' : pv_Sh) : Prop := cells + n0 = sh.length ∧ slots + s0 = pv_sl sh ∧ mc + n0 = sh'.length ∧ ms + s0 = pv_sl sh' ∧ cells ≤ mc ∧ slots ≤ ms
def pv_R (s : State) (D : va_G) (aC : Nat → ClassId) (ad0 ad : Nat → Nat) (A : Nat → Prop) (n0 : Nat) (H : Heap) (locs : List Loc) (ls : Array Slot) (nL : Nat) (L : List (Option pv_V)) (st : List pv_V) (sh : pv_Sh) (h : pv_H) : Prop :=
  pv_ag ad0 ad n0 ∧ va_P D vwCl (pv_ws aC ad sh h) H ∧ va_D A (pv_ws aC ad sh h) ∧ pv_oH sh h ∧ va_S A s.heap H locs ∧ lv_has ls nL (pv_L ad L) ∧ (∀ v, some v ∈ L → pv_ok sh.length v) ∧ ∀ v ∈ st, pv_ok sh.length v
/-- from here the method comes to its end with that picture and answer -/
def EV (own : String) (cc : ByteArray) (nL : Nat) (ret : Option FieldType) (ini : Bool) (d : Nat) (sh' : pv_Sh) (h' : pv_H) (r : Option pv_V) (pc : Nat) (L : List (Option pv_V)) (st : List pv_V) (sh : pv_Sh) (h : pv_H) : Prop :=
  ∀ (p : Program) (l : Launch) (e : Env) (s : State) (m : MethodId) (args : Array Value) (below : List Frame) (meth : Method) (c : Code) (D : va_G) (aC : Nat → ClassId) (ad0 ad : Nat → Nat) (A : Nat → Prop) (n0 s0 cells slots mc ms : Nat) (H : Heap) (locs : List Loc) (ls : Array Slot),
    pv_C p s m args meth c own cc nL ret ini D aC ad A → pv_N n0 s0 cells slots mc ms sh sh' → pv_R s D aC ad0 ad A n0 H locs ls nL L st sh h →
    W p l e (pv_rm d mc ms) s m args below meth c H locs cells slots (MQ below (pv_Q D aC ad0 n0 sh' h' r A) args s mc ms A) (F0 m pc ls (st.map (pv_tv ad)))
/-- the locals at the start -/
def pv_in0 : List pv_V → List (Option pv_V)
  | [] => []
  | v :: l => some v :: (bif pv_c2 v then none :: pv_in0 l else pv_in0 l)
theorem pv_in0_args {ad : Nat → Nat} : ∀ (as : List pv_V) (i j : Nat) (v : pv_V) (k : Nat), (pv_in0 as ++ List.replicate k none)[j]? = some (some v) → (i + j, pv_tv ad v) ∈ lv_args i (as.map (pv_tv ad))
  | [], i, j, v, k, h => by
    simp only [pv_in0, List.nil_append] at h
    have := List.mem_of_getElem? h
    simp at this
  | u :: as, i, j, v, k, h => by
    simp only [pv_in0, List.cons_append] at h
    have hcat : ((pv_tv ad u).category = 2) ↔ pv_c2 u = true := by rw [← pv_cat ad u]; simp
    cases j with
    | zero =>
      simp at h
      subst h
      exact List.mem_cons_self
    | succ j =>
      rw [List.getElem?_cons_succ] at h
      show _ ∈ (i, pv_tv ad u) :: lv_args _ _
      refine List.mem_cons_of_mem _ ?_
      cases hc : pv_c2 u with
      | false =>
        rw [hc] at h
        rw [if_neg (by rw [hcat, hc]; simp)]
        have := pv_in0_args (ad := ad) as (i + 1) j v k h
        rwa [show i + (j + 1) = i + 1 + j by omega]
      | true =>
        rw [hc] at h
        rw [if_pos (hcat.mpr hc)]
        simp only [cond_true, List.cons_append] at h
        cases j with
        | zero => simp at h
        | succ j =>
          rw [List.getElem?_cons_succ] at h
          have := pv_in0_args (ad := ad) as (i + 2) j v k h
          rwa [show i + (j + 1 + 1) = i + 2 + j by omega]
theorem pv_in0_len (ad : Nat → Nat) : ∀ as : List pv_V, (lg_sl (as.map (pv_tv ad))).length = (pv_in0 as).length
  | [] => rfl
  | u :: as => by
    have ih := pv_in0_len ad as
    have hcat : ((pv_tv ad u).category = 2) ↔ pv_c2 u = true := by rw [← pv_cat ad u]; simp
    simp only [lg_sl, List.map_cons, List.flatMap_cons, List.length_append] at ih ⊢
    rw [ih]
    simp only [pv_in0, List.length_cons]
    cases hc : pv_c2 u with
    | false => rw [if_neg (by rw [hcat, hc]; simp)]; simp; omega
    | true => rw [if_pos (hcat.mpr hc)]; simp; omega
theorem pv_in0_ok {n k : Nat} : ∀ (as : List pv_V), (∀ v ∈ as, pv_ok n v) → ∀ v, some v ∈ pv_in0 as ++ List.replicate k none → pv_ok n v
  | [], _, v, hv => by simp [pv_in0] at hv
  | u :: as, h, v, hv => by
    simp only [pv_in0, List.cons_append, List.mem_cons, Option.some.injEq] at hv
    rcases hv with rfl | hv
    · exact h v List.mem_cons_self
    · refine pv_in0_ok (k := k) as (fun w hw => h w (List.mem_cons_of_mem _ hw)) v ?_
      cases hc : pv_c2 u with
      | false => rw [hc] at hv; exact hv
      | true =>
        rw [hc] at hv
        simp only [cond_true, List.cons_append, List.mem_cons] at hv
        rcases hv with hv | hv
        · cases hv
        · exact hv
theorem pv_sl_app (a b : pv_Sh) : pv_sl (a ++ b) = pv_sl a + pv_sl b := by simp [pv_sl]
/-- a method out of its body -/
theorem EV.call {own : String} {y : MethodName} {cc : ByteArray} {mL : Nat} {ret : Option FieldType} {ini : Bool} {d : Nat} {sh sh' : pv_Sh} {h h' : pv_H} {r : Option pv_V} {as : List pv_V} (hy : plainName y.cls = true) (ho : y.cls = own) (hi : ini = true → y.name = "<init>") (hp : ∃ t, sh' = sh ++ t) (hl : (pv_in0 as).length ≤ mL)
    (k : EV own cc mL ret ini d sh' h' r 0 (pv_in0 as ++ List.replicate (mL - (pv_in0 as).length) none) [] sh h) : CALL y cc mL ret d sh h as sh' h' r := by
  refine ⟨hp, fun l D aC ad sz => ?_⟩
  refine Met.ofW (cc := cc) (maxL := mL) (ret := ret) hy rfl ?_
  intro p e s m args below meth c s1 B hml hv
  obtain ⟨rfl, hsz, ⟨hP, hK, hD0, oH⟩, hSt, oA⟩ := hv
  have hts := atoms_spec (ws := .code y cc mL ret :: pv_W) B.pre
  have hown : s.vm.findClass own = some m.cls := by rw [← ho]; exact findClass_of_methodNamed B.named
  subst hsz
  have hD := hD0.self (sz := s.heap.size)
  have hl0 := lv_entry (as.map (pv_tv ad)) (n := mL) (by rw [pv_in0_len]; exact hl)
  rw [lg_entry_eq]
  generalize (lg_sl (as.map (pv_tv ad)) ++ List.replicate (mL - (lg_sl (as.map (pv_tv ad))).length) Slot.unset).toArray = ls at hl0 ⊢
  obtain ⟨t, ht⟩ := hp
  have e1 : sh'.length = sh.length + t.length := by rw [ht]; simp
  have e2 : pv_sl sh' = pv_sl sh + pv_sl t := by rw [ht, pv_sl_app]
  refine k p l e s m _ below meth c D aC ad ad (va_A (pv_ws aC ad sh h) s.heap.size) sh.length (pv_sl sh) 0 0 _ _ s.heap [] ls ?_ ?_ ?_
  · exact ⟨B.exec, B.bytes, hml, B.returns, hown, fun w hw => hts w (List.mem_cons_of_mem _ hw), B.notSynchronized, fun z => (name_of_methodNamed B.named B.method).1.trans (hi z), fun q hq => Or.inr hq, hK, hSt⟩
  · exact ⟨by omega, by omega, by omega, by omega, by omega, by omega⟩
  · refine ⟨pv_ag.rf, hP, hD, oH, va_S.rf, pv_L_weak hl0 ?_, pv_in0_ok as oA, fun v hv => by cases hv⟩
    rintro ⟨j, w⟩ hq
    obtain ⟨v, hv, rfl⟩ := pv_L_mem.mp hq
    have := pv_in0_args (ad := ad) as 0 j v _ hv
    rwa [Nat.zero_add] at this
