/-! pictures whose references are those of the start: functions over the numbers alone -/
def pv_fx (sh : pv_Sh) (mu : Nat → Nat → Bool) (i k : Nat) : Bool := (match sh[i]? with
  | some q => pv_kd q k == 2 || q.1 == 9
  | none => false) && !mu i k
def pv_mx (sh : pv_Sh) (mu : Nat → Nat → Bool) (h0 h : pv_H) : pv_H := fun i k => bif pv_fx sh mu i k then h0 i k else h i k
def pv_b {α β : Type} (a : α) (f : α → Option β) : Option β := f a
def pv_c1 {α β : Type} (a : Option α) (f : α → Option β) : Option β := match a with
  | some x => f x
  | none => none
def pv_c2b {β : Type} (a : Option (pv_H × Int)) (f : pv_H → Int → Option β) : Option β := match a with
  | some x => f x.1 x.2
  | none => none
theorem pv_bo {α β : Type} {a : α} {f : α → Option β} {r : β} (h : pv_b a f = some r) : ∃ x, a = x ∧ f x = some r := ⟨a, rfl, h⟩
theorem pv_c1o {α β : Type} {a : Option α} {f : α → Option β} {r : β} (h : pv_c1 a f = some r) : ∃ x, a = some x ∧ f x = some r := by
  cases a with
  | none => cases h
  | some x => exact ⟨x, rfl, h⟩
theorem pv_c2o {β : Type} {a : Option (pv_H × Int)} {f : pv_H → Int → Option β} {r : β} (h : pv_c2b a f = some r) : ∃ x y, a = some (x, y) ∧ f x y = some r := by
  cases a with
  | none => cases h
  | some x => exact ⟨x.1, x.2, rfl, h⟩
theorem pv_gd {c : Prop} {β : Type} [Decidable c] {a : Option β} {r : β} (h : (if c then a else none) = some r) : c ∧ a = some r := by
  by_cases hc : c
  · rw [if_pos hc] at h; exact ⟨hc, h⟩
  · rw [if_neg hc] at h; cases h
theorem pv_gp {c : Prop} {β : Type} [Decidable c] {a b : Option β} {r : β} (h : (if c then a else b) = some r) (hc : c) : a = some r := by rw [if_pos hc] at h; exact h
theorem pv_gn {c : Prop} {β : Type} [Decidable c] {a b : Option β} {r : β} (h : (if c then a else b) = some r) (hc : ¬ c) : b = some r := by rw [if_neg hc] at h; exact h
def pv_sub : List (Option pv_V) → List (Option pv_V) → Prop
  | [], [] => True
  | none :: a, _ :: b => pv_sub a b
  | some v :: a, some u :: b => v = u ∧ pv_sub a b
  | _, _ => False
theorem pv_sub.at : ∀ {a b : List (Option pv_V)}, pv_sub a b → ∀ (j : Nat) (v : pv_V), a[j]? = some (some v) → b[j]? = some (some v)
  | [], [], _, j, v, h => by simp at h
  | none :: a, o :: b, hl, j, v, h => by
    cases j with
    | zero => simp at h
    | succ j => exact pv_sub.at (a := a) (b := b) hl j v h
  | some w :: a, some u :: b, hl, j, v, h => by
    cases j with
    | zero =>
      have : w = v := by simpa using h
      rw [← this, hl.1]; rfl
    | succ j => exact pv_sub.at (a := a) (b := b) hl.2 j v h
  | some w :: a, none :: b, hl, j, v, h => by cases hl
  | [], o :: b, hl, j, v, h => by simp at h
  | none :: a, [], hl, j, v, h => by cases hl
  | some w :: a, [], hl, j, v, h => by cases hl
section FVR
variable {own : String} {cc : ByteArray} {nL : Nat} {ret : Option FieldType} {ini : Bool} {d : Nat} {sh' : pv_Sh} {h' : pv_H} {r : Option pv_V} {pc : Nat} {L : List (Option pv_V)} {st : List pv_V} {sh : pv_Sh} {mu : Nat → Nat → Bool} {h0 h : pv_H}
theorem EV.weak {L2 : List (Option pv_V)} {h : pv_H} (hL : pv_sub L2 L) (k : EV own cc nL ret ini d sh' h' r pc L2 st sh h) : EV own cc nL ret ini d sh' h' r pc L st sh h := by
  intro p l e s m args below meth c D aC ad0 ad A n0 s0 cells slots mc ms H locs ls C N R
  obtain ⟨ag, hP, hD, oH, hS, hl, oL, oS⟩ := R
  refine k p l e s m args below meth c D aC ad0 ad A n0 s0 cells slots mc ms H locs ls C N ⟨ag, hP, hD, oH, hS, pv_L_weak hl ?_, ?_, oS⟩
  · rintro ⟨j, w⟩ hq
    obtain ⟨v, hv, rfl⟩ := pv_L_mem.mp hq
    exact pv_L_mem.mpr ⟨v, hL.at j v hv, rfl⟩
  · intro v hv
    obtain ⟨j, hj⟩ := List.getElem?_of_mem hv
    exact oL v (List.mem_of_getElem? (hL.at j v hj))
theorem pv_mx_int {q : Nat × Nat} {i k : Nat} (e : sh[i]? = some q) (hk : pv_kd q k ≠ 2) (h9 : q.1 ≠ 9 := by intro z; cases z) : pv_mx sh mu h0 h i k = h i k := by
  unfold pv_mx pv_fx
  rw [e]
  have h1 : (pv_kd q k == 2) = false := by simpa using hk
  have h2 : (q.1 == 9) = false := by simpa using h9
  simp [h1, h2]
theorem pv_mx_mu {i k : Nat} (hm : mu i k = true) : pv_mx sh mu h0 h i k = h i k := by
  unfold pv_mx pv_fx
  simp [hm]
theorem pv_mx_ref {q : Nat × Nat} {i k : Nat} (e : sh[i]? = some q) (hk : pv_kd q k = 2) (hm : mu i k = false) : pv_mx sh mu h0 h i k = h0 i k := by
  unfold pv_mx pv_fx
  rw [e]
  simp [hk, hm]
theorem pv_mx_upg {i k : Nat} {x : Int} (hf : pv_fx sh mu i k = false) : pv_up (pv_mx sh mu h0 h) i k x = pv_mx sh mu h0 (pv_up h i k x) := by
  funext a b
  unfold pv_mx pv_up
  by_cases hab : a = i ∧ b = k
  · obtain ⟨rfl, rfl⟩ := hab
    simp [hf]
  · rw [if_neg hab, if_neg hab]
theorem pv_mx_up {q : Nat × Nat} {i k : Nat} {x : Int} (e : sh[i]? = some q) (hk : pv_kd q k ≠ 2) (h9 : q.1 ≠ 9 := by intro z; cases z) : pv_up (pv_mx sh mu h0 h) i k x = pv_mx sh mu h0 (pv_up h i k x) := by
  refine pv_mx_upg ?_
  unfold pv_fx
  rw [e]
  have h1 : (pv_kd q k == 2) = false := by simpa using hk
  have h2 : (q.1 == 9) = false := by simpa using h9
  simp [h1, h2]
theorem pv_mx_ur {q : Nat × Nat} {i : Nat} {f : Nat → Int} (e : sh[i]? = some q) (hk : ∀ k, pv_kd q k ≠ 2) (h9 : q.1 ≠ 9 := by intro z; cases z) : pv_ur (pv_mx sh mu h0 h) i f = pv_mx sh mu h0 (pv_ur h i f) := by
  funext a b
  unfold pv_ur
  by_cases ha : a = i
  · subst ha
    rw [if_pos rfl, pv_mx_int e (hk b) h9, if_pos rfl]
  · rw [if_neg ha]
    simp only [pv_mx, if_neg ha]
theorem pv_mx_row {q : Nat × Nat} {i : Nat} (e : sh[i]? = some q) (hk : ∀ k, pv_kd q k ≠ 2) (h9 : q.1 ≠ 9 := by intro z; cases z) : pv_mx sh mu h0 h i = h i := by
  funext b
  exact pv_mx_int e (hk b) h9
/-! the rules over such pictures -/
theorem FV.getI {q ci z idx : Nat} (hd : decode cc pc = .ok (.getfield idx, 3)) (e0 : sh[q]? = some (0, ci)) (hf : pv_FL own idx ci z) (hk0 : pv_fk (pv_ty ci z) = 0) (k : EV own cc nL ret ini d sh' h' r (pc + 3) L (.inl (h q z) :: st) sh (pv_mx sh mu h0 h)) : EV own cc nL ret ini d sh' h' r pc L (.inr (.inr q) :: st) sh (pv_mx sh mu h0 h) := by
  refine EV.getI hd e0 hf hk0 ?_
  rw [pv_mx_int e0 (by show pv_fk (pv_ty ci z) ≠ 2; rw [hk0]; decide)]
  exact k
theorem FV.getF {v q ci z idx : Nat} (hd : decode cc pc = .ok (.getfield idx, 3)) (e0 : sh[q]? = some (0, ci)) (hf : pv_FL own idx ci z) (hk0 : pv_fk (pv_ty ci z) = 2) (hm : mu q z = false) (hv : h0 q z = (v : Int)) (k : EV own cc nL ret ini d sh' h' r (pc + 3) L (.inr (.inr v) :: st) sh (pv_mx sh mu h0 h)) : EV own cc nL ret ini d sh' h' r pc L (.inr (.inr q) :: st) sh (pv_mx sh mu h0 h) :=
  EV.getV hd e0 hf hk0 (by rw [pv_mx_ref e0 hk0 hm]; exact hv) k
theorem FV.getM {v q ci z idx : Nat} (hd : decode cc pc = .ok (.getfield idx, 3)) (e0 : sh[q]? = some (0, ci)) (hf : pv_FL own idx ci z) (hk0 : pv_fk (pv_ty ci z) = 2) (hm : mu q z = true) (h1 : 0 ≤ h q z) (hv : (h q z).toNat = v) (k : EV own cc nL ret ini d sh' h' r (pc + 3) L (.inr (.inr v) :: st) sh (pv_mx sh mu h0 h)) : EV own cc nL ret ini d sh' h' r pc L (.inr (.inr q) :: st) sh (pv_mx sh mu h0 h) :=
  EV.getV hd e0 hf hk0 (by rw [pv_mx_mu hm]; omega) k
theorem FV.putI {x : Int} {q ci z idx : Nat} {h1 : pv_H} (hd : decode cc pc = .ok (.putfield idx, 3)) (e0 : sh[q]? = some (0, ci)) (hf : pv_FL own idx ci z) (hfin : (pv_T ci z).2.2.2 = false) (hty : pv_ty ci z = .int) (eh : pv_up h q z x = h1) (k : EV own cc nL ret ini d sh' h' r (pc + 3) L st sh (pv_mx sh mu h0 h1)) : EV own cc nL ret ini d sh' h' r pc L (.inl x :: .inr (.inr q) :: st) sh (pv_mx sh mu h0 h) := by
  subst eh
  refine EV.put hd e0 hf hfin ⟨rfl, Or.inl hty⟩ ?_
  rw [pv_mx_up e0 (by show pv_fk (pv_ty ci z) ≠ 2; rw [hty]; decide)]
  exact k
theorem FV.putZ {x : Int} {q ci z idx : Nat} {h1 : pv_H} (hd : decode cc pc = .ok (.putfield idx, 3)) (e0 : sh[q]? = some (0, ci)) (hf : pv_FL own idx ci z) (hfin : (pv_T ci z).2.2.2 = false) (hty : pv_ty ci z = .boolean) (h01 : x = 0 ∨ x = 1) (eh : pv_up h q z x = h1) (k : EV own cc nL ret ini d sh' h' r (pc + 3) L st sh (pv_mx sh mu h0 h1)) : EV own cc nL ret ini d sh' h' r pc L (.inl x :: .inr (.inr q) :: st) sh (pv_mx sh mu h0 h) := by
  subst eh
  refine EV.put hd e0 hf hfin ⟨rfl, Or.inr ⟨hty, h01⟩⟩ ?_
  rw [pv_mx_up e0 (by show pv_fk (pv_ty ci z) ≠ 2; rw [hty]; decide)]
  exact k
theorem FV.putM {v q ci z idx : Nat} {h1 : pv_H} (hd : decode cc pc = .ok (.putfield idx, 3)) (e0 : sh[q]? = some (0, ci)) (hf : pv_FL own idx ci z) (hfin : (pv_T ci z).2.2.2 = false) (hty : pv_fk (pv_ty ci z) = 2) (hm : mu q z = true) (hv : v < sh.length) (eh : pv_up h q z (v : Int) = h1) (k : EV own cc nL ret ini d sh' h' r (pc + 3) L st sh (pv_mx sh mu h0 h1)) : EV own cc nL ret ini d sh' h' r pc L (.inr (.inr v) :: .inr (.inr q) :: st) sh (pv_mx sh mu h0 h) := by
  subst eh
  refine EV.put hd e0 hf hfin ⟨rfl, hv, hty⟩ ?_
  rw [pv_mx_upg (by unfold pv_fx; simp [hm])]
  exact k
theorem FV.iald {q n j : Nat} {i : Int} (hd : decode cc pc = .ok (.iaload, 1)) (e0 : sh[q]? = some (1, n)) (h1 : 0 ≤ i) (h2 : i < (n : Int)) (hj : i.toNat = j) (k : EV own cc nL ret ini d sh' h' r (pc + 1) L (.inl (h q j) :: st) sh (pv_mx sh mu h0 h)) : EV own cc nL ret ini d sh' h' r pc L (.inl i :: .inr (.inr q) :: st) sh (pv_mx sh mu h0 h) := by
  subst hj
  refine EV.iald hd e0 h1 h2 ?_
  rw [pv_mx_int e0 (fun z => by cases z)]
  exact k
theorem FV.zald {q n j : Nat} {i : Int} (hd : decode cc pc = .ok (.baload, 1)) (e0 : sh[q]? = some (3, n)) (h1 : 0 ≤ i) (h2 : i < (n : Int)) (hj : i.toNat = j) (k : EV own cc nL ret ini d sh' h' r (pc + 1) L (.inl (h q j) :: st) sh (pv_mx sh mu h0 h)) : EV own cc nL ret ini d sh' h' r pc L (.inl i :: .inr (.inr q) :: st) sh (pv_mx sh mu h0 h) := by
  subst hj
  refine EV.zald hd e0 h1 h2 ?_
  rw [pv_mx_int e0 (fun z => by cases z)]
  exact k
theorem FV.bald {q n j : Nat} {i : Int} (hd : decode cc pc = .ok (.baload, 1)) (e0 : sh[q]? = some (4, n)) (h1 : 0 ≤ i) (h2 : i < (n : Int)) (hj : i.toNat = j) (k : EV own cc nL ret ini d sh' h' r (pc + 1) L (.inl (h q j) :: st) sh (pv_mx sh mu h0 h)) : EV own cc nL ret ini d sh' h' r pc L (.inl i :: .inr (.inr q) :: st) sh (pv_mx sh mu h0 h) := by
  subst hj
  refine EV.bald hd e0 h1 h2 ?_
  rw [pv_mx_int e0 (fun z => by cases z)]
  exact k
theorem FV.lald {q n j : Nat} {i : Int} (hd : decode cc pc = .ok (.laload, 1)) (e0 : sh[q]? = some (2, n)) (h1 : 0 ≤ i) (h2 : i < (n : Int)) (hj : i.toNat = j) (k : EV own cc nL ret ini d sh' h' r (pc + 1) L (.inr (.inl (h q j)) :: st) sh (pv_mx sh mu h0 h)) : EV own cc nL ret ini d sh' h' r pc L (.inl i :: .inr (.inr q) :: st) sh (pv_mx sh mu h0 h) := by
  subst hj
  refine EV.lald hd e0 h1 h2 ?_
  rw [pv_mx_int e0 (fun z => by cases z)]
  exact k
theorem FV.aald {a q n j v : Nat} {i : Int} (hd : decode cc pc = .ok (.aaload, 1)) (e0 : sh[q]? = some (a + 5, n)) (ha : a < 4) (h1 : 0 ≤ i) (h2 : i < (n : Int)) (hj : i.toNat = j) (hm : mu q j = false) (hv : h0 q j = (v : Int)) (k : EV own cc nL ret ini d sh' h' r (pc + 1) L (.inr (.inr v) :: st) sh (pv_mx sh mu h0 h)) : EV own cc nL ret ini d sh' h' r pc L (.inl i :: .inr (.inr q) :: st) sh (pv_mx sh mu h0 h) := by
  subst hj
  have hk : pv_kd (a + 5, n) i.toNat = 2 := by
    have h4 : a = 0 ∨ a = 1 ∨ a = 2 ∨ a = 3 := by omega
    rcases h4 with rfl | rfl | rfl | rfl <;> rfl
  have e : pv_mx sh mu h0 h q i.toNat = (v : Int) := by rw [pv_mx_ref e0 hk hm]; exact hv
  refine EV.aald hd e0 (by omega) h1 h2 (by rw [e]; omega) ?_
  rw [e, Int.toNat_natCast]
  exact k
theorem FV.cald {q n j : Nat} {i v : Int} (hd : decode cc pc = .ok (.caload, 1)) (e0 : sh[q]? = some (9, n)) (h1 : 0 ≤ i) (h2 : i < (n : Int)) (hj : i.toNat = j) (hm : mu q j = false) (hv : h0 q j = v) (k : EV own cc nL ret ini d sh' h' r (pc + 1) L (.inl v :: st) sh (pv_mx sh mu h0 h)) : EV own cc nL ret ini d sh' h' r pc L (.inl i :: .inr (.inr q) :: st) sh (pv_mx sh mu h0 h) := by
  subst hj; subst hv
  refine EV.cald hd e0 h1 h2 ?_
  have e : pv_mx sh mu h0 h q i.toNat = h0 q i.toNat := by
    unfold pv_mx pv_fx
    rw [e0]
    simp [hm]
  rw [e]
  exact k
theorem FV.iast {q n j : Nat} {i x : Int} {h2' : pv_H} (hd : decode cc pc = .ok (.iastore, 1)) (e0 : sh[q]? = some (1, n)) (h1 : 0 ≤ i) (h2 : i < (n : Int)) (hj : i.toNat = j) (eh : pv_up h q j x = h2') (k : EV own cc nL ret ini d sh' h' r (pc + 1) L st sh (pv_mx sh mu h0 h2')) : EV own cc nL ret ini d sh' h' r pc L (.inl x :: .inl i :: .inr (.inr q) :: st) sh (pv_mx sh mu h0 h) := by
  subst hj; subst eh
  refine EV.iast hd e0 h1 h2 ?_
  rw [pv_mx_up e0 (fun z => by cases z)]
  exact k
theorem FV.last {q n j : Nat} {i x : Int} {h2' : pv_H} (hd : decode cc pc = .ok (.lastore, 1)) (e0 : sh[q]? = some (2, n)) (h1 : 0 ≤ i) (h2 : i < (n : Int)) (hj : i.toNat = j) (eh : pv_up h q j x = h2') (k : EV own cc nL ret ini d sh' h' r (pc + 1) L st sh (pv_mx sh mu h0 h2')) : EV own cc nL ret ini d sh' h' r pc L (.inr (.inl x) :: .inl i :: .inr (.inr q) :: st) sh (pv_mx sh mu h0 h) := by
  subst hj; subst eh
  refine EV.last hd e0 h1 h2 ?_
  rw [pv_mx_up e0 (fun z => by cases z)]
  exact k
theorem FV.zast {q n j : Nat} {i x : Int} {h2' : pv_H} (hd : decode cc pc = .ok (.bastore, 1)) (e0 : sh[q]? = some (3, n)) (h1 : 0 ≤ i) (h2 : i < (n : Int)) (h01 : x = 0 ∨ x = 1) (hj : i.toNat = j) (eh : pv_up h q j x = h2') (k : EV own cc nL ret ini d sh' h' r (pc + 1) L st sh (pv_mx sh mu h0 h2')) : EV own cc nL ret ini d sh' h' r pc L (.inl x :: .inl i :: .inr (.inr q) :: st) sh (pv_mx sh mu h0 h) := by
  subst hj; subst eh
  refine EV.zast hd e0 h1 h2 h01 ?_
  rw [pv_mx_up e0 (fun z => by cases z)]
  exact k
theorem FV.bast {q n j : Nat} {i x : Int} {h2' : pv_H} (hd : decode cc pc = .ok (.bastore, 1)) (e0 : sh[q]? = some (4, n)) (h1 : 0 ≤ i) (h2 : i < (n : Int)) (hj : i.toNat = j) (eh : pv_up h q j (pv_w8 x) = h2') (k : EV own cc nL ret ini d sh' h' r (pc + 1) L st sh (pv_mx sh mu h0 h2')) : EV own cc nL ret ini d sh' h' r pc L (.inl x :: .inl i :: .inr (.inr q) :: st) sh (pv_mx sh mu h0 h) := by
  subst hj; subst eh
  refine EV.bast hd e0 h1 h2 ?_
  rw [pv_mx_up e0 (fun z => by cases z)]
  exact k
theorem FV.copy {q0 n0 q1 n1 idx : Nat} {sp dp n : Int} {h2' : pv_H} (hd : decode cc pc = .ok (.invokestatic idx, 3)) (hl1 : Cond.methodLink own idx arraycopyName ∈ pv_W) (hdd : 1 ≤ d) (hc : pv_cs st ≤ 8) (e0 : sh[q0]? = some (1, n0)) (e1 : sh[q1]? = some (1, n1)) (h1 : 0 ≤ sp) (h2 : 0 ≤ dp) (h3 : 0 ≤ n) (h4 : sp + n ≤ (n0 : Int)) (h5 : dp + n ≤ (n1 : Int)) (eh : pv_ur h q1 (pv_cp (h q0) (h q1) sp.toNat dp.toNat n.toNat) = h2') (k : EV own cc nL ret ini d sh' h' r (pc + 3) L st sh (pv_mx sh mu h0 h2')) : EV own cc nL ret ini d sh' h' r pc L (.inl n :: .inl dp :: .inr (.inr q1) :: .inl sp :: .inr (.inr q0) :: st) sh (pv_mx sh mu h0 h) := by
  subst eh
  refine EV.copy hd hl1 w_acn w_acs w_aci hdd hc e0 e1 h1 h2 h3 h4 h5 ?_
  rw [pv_mx_row e0 (fun _ z => by cases z), pv_mx_row e1 (fun _ z => by cases z), pv_mx_ur e1 (fun _ z => by cases z)]
  exact k
theorem FV.copyT {q1 n1 idx : Nat} {sp dp n : Int} {h2' : pv_H} (hd : decode cc pc = .ok (.invokestatic idx, 3)) (hl1 : Cond.methodLink own idx arraycopyName ∈ pv_W) (hdd : 1 ≤ d) (hc : pv_cs st ≤ 8) (e1 : sh[q1]? = some (1, n1)) (h1 : 0 ≤ sp) (h2 : 0 ≤ dp) (h3 : 0 ≤ n) (h4 : sp + n ≤ 8) (h5 : dp + n ≤ (n1 : Int)) (eh : pv_ur h q1 (pv_cp (fun j => pv_t0.getD j 0) (h q1) sp.toNat dp.toNat n.toNat) = h2') (k : EV own cc nL ret ini d sh' h' r (pc + 3) L st sh (pv_mx sh mu h0 h2')) : EV own cc nL ret ini d sh' h' r pc L (.inl n :: .inl dp :: .inr (.inr q1) :: .inl sp :: .inr (.inr pv_SB) :: st) sh (pv_mx sh mu h0 h) := by
  subst eh
  refine EV.copyT hd hl1 w_acn w_acs w_aci hdd hc e1 h1 h2 h3 h4 h5 ?_
  rw [pv_mx_row e1 (fun _ z => by cases z), pv_mx_ur e1 (fun _ z => by cases z)]
  exact k
theorem FV.sti {z : Fin 4} {i : Nat} {x x1 : Int} {L2 : List (Option pv_V)} {h : pv_H} (hd : decode cc pc = .ok (.istore_n z, 1)) (hi : (z : Nat) = i) (hn : i < nL) (ex : x = x1) (hL : pv_set L i (.inl x1) = L2) (k : EV own cc nL ret ini d sh' h' r (pc + 1) L2 st sh h) : EV own cc nL ret ini d sh' h' r pc L (.inl x :: st) sh h := by
  subst ex; subst hL
  exact EV.istore_n hd hi hn k
theorem FV.stiw {i : Nat} {x x1 : Int} {L2 : List (Option pv_V)} {h : pv_H} (hd : decode cc pc = .ok (.istore i, 2)) (hn : i < nL) (ex : x = x1) (hL : pv_set L i (.inl x1) = L2) (k : EV own cc nL ret ini d sh' h' r (pc + 2) L2 st sh h) : EV own cc nL ret ini d sh' h' r pc L (.inl x :: st) sh h := by
  subst ex; subst hL
  exact EV.istore hd hn k
theorem FV.sta {z : Fin 4} {i x x1 : Nat} {L2 : List (Option pv_V)} {h : pv_H} (hd : decode cc pc = .ok (.astore_n z, 1)) (hi : (z : Nat) = i) (hn : i < nL) (ex : x = x1) (hL : pv_set L i (.inr (.inr x1)) = L2) (k : EV own cc nL ret ini d sh' h' r (pc + 1) L2 st sh h) : EV own cc nL ret ini d sh' h' r pc L (.inr (.inr x) :: st) sh h := by
  subst ex; subst hL
  exact EV.astore_n hd hi hn k
theorem FV.staw {i x x1 : Nat} {L2 : List (Option pv_V)} {h : pv_H} (hd : decode cc pc = .ok (.astore i, 2)) (hn : i < nL) (ex : x = x1) (hL : pv_set L i (.inr (.inr x1)) = L2) (k : EV own cc nL ret ini d sh' h' r (pc + 2) L2 st sh h) : EV own cc nL ret ini d sh' h' r pc L (.inr (.inr x) :: st) sh h := by
  subst ex; subst hL
  exact EV.astore hd hn k
theorem FV.stl {z : Fin 4} {i : Nat} {x x1 : Int} {L2 : List (Option pv_V)} {h : pv_H} (hd : decode cc pc = .ok (.lstore_n z, 1)) (hi : (z : Nat) = i) (hn : i + 1 < nL) (ex : x = x1) (hL : pv_set L i (.inr (.inl x1)) = L2) (k : EV own cc nL ret ini d sh' h' r (pc + 1) L2 st sh h) : EV own cc nL ret ini d sh' h' r pc L (.inr (.inl x) :: st) sh h := by
  subst ex; subst hL
  exact EV.lstore_n hd hi hn k
theorem FV.stlw {i : Nat} {x x1 : Int} {L2 : List (Option pv_V)} {h : pv_H} (hd : decode cc pc = .ok (.lstore i, 2)) (hn : i + 1 < nL) (ex : x = x1) (hL : pv_set L i (.inr (.inl x1)) = L2) (k : EV own cc nL ret ini d sh' h' r (pc + 2) L2 st sh h) : EV own cc nL ret ini d sh' h' r pc L (.inr (.inl x) :: st) sh h := by
  subst ex; subst hL
  exact EV.lstore hd hn k
theorem FV.inc {i : Nat} {n x x1 : Int} {L2 : List (Option pv_V)} {h : pv_H} (hd : decode cc pc = .ok (.iinc i n, 3)) (e0 : L[i]? = some (some (.inl x))) (hn : i < nL) (ex : pv_w (x + n) = x1) (hL : pv_set L i (.inl x1) = L2) (k : EV own cc nL ret ini d sh' h' r (pc + 3) L2 st sh h) : EV own cc nL ret ini d sh' h' r pc L st sh h := by
  subst ex; subst hL
  exact EV.iinc hd e0 hn k
end FVR
theorem FV.iret {own : String} {cc : ByteArray} {nL : Nat} {ini : Bool} {d pc : Nat} {L : List (Option pv_V)} {sh : pv_Sh} {mu : Nat → Nat → Bool} {h0 h h' : pv_H} {x r : Int} (hd : decode cc pc = .ok (.ireturn, 1)) (e : some (h, x) = some (h', r)) : EV own cc nL (some .int) ini d sh (pv_mx sh mu h0 h') (some (.inl r)) pc L [.inl x] sh (pv_mx sh mu h0 h) := by
  cases e
  exact EV.iret hd
theorem FV.zret {own : String} {cc : ByteArray} {nL : Nat} {ini : Bool} {d pc : Nat} {L : List (Option pv_V)} {sh : pv_Sh} {mu : Nat → Nat → Bool} {h0 h h' : pv_H} {x r : Int} (hd : decode cc pc = .ok (.ireturn, 1)) (h01 : x = 0 ∨ x = 1) (e : some (h, x) = some (h', r)) : EV own cc nL (some .boolean) ini d sh (pv_mx sh mu h0 h') (some (.inl r)) pc L [.inl x] sh (pv_mx sh mu h0 h) := by
  cases e
  exact EV.zret hd h01
theorem FV.lret {own : String} {cc : ByteArray} {nL : Nat} {ini : Bool} {d pc : Nat} {L : List (Option pv_V)} {sh : pv_Sh} {mu : Nat → Nat → Bool} {h0 h h' : pv_H} {x r : Int} (hd : decode cc pc = .ok (.lreturn, 1)) (e : some (h, x) = some (h', r)) : EV own cc nL (some .long) ini d sh (pv_mx sh mu h0 h') (some (.inr (.inl r))) pc L [.inr (.inl x)] sh (pv_mx sh mu h0 h) := by
  cases e
  exact EV.lret hd
theorem FV.vret {own : String} {cc : ByteArray} {nL : Nat} {ini : Bool} {d pc : Nat} {L : List (Option pv_V)} {sh : pv_Sh} {mu : Nat → Nat → Bool} {h0 h h' : pv_H} (hd : decode cc pc = .ok (.return_, 1)) (e : some h = some h') : EV own cc nL none ini d sh (pv_mx sh mu h0 h') none pc L [] sh (pv_mx sh mu h0 h) := by
  cases e
  exact EV.vret hd
theorem FV.iretp {own : String} {cc : ByteArray} {nL : Nat} {ini : Bool} {d pc : Nat} {L : List (Option pv_V)} {sh : pv_Sh} {mu : Nat → Nat → Bool} {h0 h : pv_H} {x r : Int} (hd : decode cc pc = .ok (.ireturn, 1)) (e : some x = some r) : EV own cc nL (some .int) ini d sh (pv_mx sh mu h0 h) (some (.inl r)) pc L [.inl x] sh (pv_mx sh mu h0 h) := by
  cases e
  exact EV.iret hd
theorem FV.zretp {own : String} {cc : ByteArray} {nL : Nat} {ini : Bool} {d pc : Nat} {L : List (Option pv_V)} {sh : pv_Sh} {mu : Nat → Nat → Bool} {h0 h : pv_H} {x r : Int} (hd : decode cc pc = .ok (.ireturn, 1)) (h01 : x = 0 ∨ x = 1) (e : some x = some r) : EV own cc nL (some .boolean) ini d sh (pv_mx sh mu h0 h) (some (.inl r)) pc L [.inl x] sh (pv_mx sh mu h0 h) := by
  cases e
  exact EV.zret hd h01
theorem FV.lretp {own : String} {cc : ByteArray} {nL : Nat} {ini : Bool} {d pc : Nat} {L : List (Option pv_V)} {sh : pv_Sh} {mu : Nat → Nat → Bool} {h0 h : pv_H} {x r : Int} (hd : decode cc pc = .ok (.lreturn, 1)) (e : some x = some r) : EV own cc nL (some .long) ini d sh (pv_mx sh mu h0 h) (some (.inr (.inl r))) pc L [.inr (.inl x)] sh (pv_mx sh mu h0 h) := by
  cases e
  exact EV.lret hd
