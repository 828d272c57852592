/-! a small logic of programs over pictures -/
def wpz {α : Type} (o : Option α) (Q : α → Prop) : Prop := ∃ x, o = some x ∧ Q x
theorem wp_some {α : Type} {a : α} {Q : α → Prop} : wpz (some a) Q ↔ Q a := ⟨fun ⟨x, e, h⟩ => by cases e; exact h, fun h => ⟨a, rfl, h⟩⟩
theorem wp_none {α : Type} {Q : α → Prop} : wpz (none : Option α) Q ↔ False := ⟨fun ⟨x, e, h⟩ => (by cases e), fun h => False.elim h⟩
theorem wp_b {α β : Type} {a : α} {f : α → Option β} {Q : β → Prop} : wpz (pv_b a f) Q ↔ wpz (f a) Q := Iff.rfl
theorem wp_bI {α β : Type} {a : α} {f : α → Option β} {Q : β → Prop} (k : ∀ x, x = a → wpz (f x) Q) : wpz (pv_b a f) Q := k a rfl
theorem wp_c1 {α β : Type} {o : Option α} {f : α → Option β} {Q : β → Prop} : wpz (pv_c1 o f) Q ↔ wpz o fun x => wpz (f x) Q := by
  cases o with
  | none => simp [pv_c1, wpz]
  | some x => simp [pv_c1, wpz]
theorem wp_c2 {β : Type} {o : Option (pv_H × Int)} {f : pv_H → Int → Option β} {Q : β → Prop} : wpz (pv_c2b o f) Q ↔ wpz o fun x => wpz (f x.1 x.2) Q := by
  cases o with
  | none => simp [pv_c2b, wpz]
  | some x => simp [pv_c2b, wpz]
theorem wp_mono {α : Type} {o : Option α} {P Q : α → Prop} (h : wpz o P) (k : ∀ a, P a → Q a) : wpz o Q := by
  obtain ⟨x, e, hx⟩ := h
  exact ⟨x, e, k x hx⟩
theorem wp_c1I {α β : Type} {o : Option α} {f : α → Option β} {P : α → Prop} {Q : β → Prop} (h : wpz o P) (k : ∀ x, P x → wpz (f x) Q) : wpz (pv_c1 o f) Q := wp_c1.mpr (wp_mono h k)
theorem wp_c2I {β : Type} {o : Option (pv_H × Int)} {f : pv_H → Int → Option β} {P : pv_H × Int → Prop} {Q : β → Prop} (h : wpz o P) (k : ∀ h' r, P (h', r) → wpz (f h' r) Q) : wpz (pv_c2b o f) Q := wp_c2.mpr (wp_mono h fun x hx => k x.1 x.2 hx)
theorem wp_gd {α : Type} {c : Prop} [Decidable c] {a : Option α} {Q : α → Prop} (hc : c) (h : wpz a Q) : wpz (if c then a else none) Q := by rw [if_pos hc]; exact h
theorem wp_if {α : Type} {c : Prop} [Decidable c] {a b : Option α} {Q : α → Prop} (h1 : c → wpz a Q) (h2 : ¬ c → wpz b Q) : wpz (if c then a else b) Q := by
  by_cases hc : c
  · rw [if_pos hc]; exact h1 hc
  · rw [if_neg hc]; exact h2 hc
theorem wp_ip {α : Type} {c : Prop} [Decidable c] {a b : Option α} {Q : α → Prop} (hc : c) (h : wpz a Q) : wpz (if c then a else b) Q := by rw [if_pos hc]; exact h
theorem wp_in {α : Type} {c : Prop} [Decidable c] {a b : Option α} {Q : α → Prop} (hc : ¬ c) (h : wpz b Q) : wpz (if c then a else b) Q := by rw [if_neg hc]; exact h
theorem wp_ex {α : Type} {o : Option α} {Q : α → Prop} (h : wpz o Q) : ∃ x, o = some x ∧ Q x := h
theorem wp_of {α : Type} {o : Option α} {x : α} {Q : α → Prop} (e : o = some x) (h : Q x) : wpz o Q := ⟨x, e, h⟩
/-- two programs beside one another, as the law's steps want it -/
theorem wp_two {o1 o2 : Option (pv_H × Int)} {S : pv_H → pv_H → Prop} (h : wpz o1 fun c => wpz o2 fun m => c.2 = m.2 ∧ S c.1 m.1) : ∃ hc2 hm2 r, o1 = some (hc2, r) ∧ o2 = some (hm2, r) ∧ S hc2 hm2 := by
  obtain ⟨⟨hc, r⟩, e1, ⟨hm, r2⟩, e2, e3, hS⟩ := h
  cases e3
  exact ⟨hc, hm, _, e1, e2, hS⟩
theorem wp_two0 {o1 : Option Int} {o2 : Option (pv_H × Int)} {S : pv_H → Prop} (h : wpz o1 fun c => wpz o2 fun m => c = m.2 ∧ S m.1) : ∃ hm2 r, o1 = some r ∧ o2 = some (hm2, r) ∧ S hm2 := by
  obtain ⟨r, e1, ⟨hm, r2⟩, e2, e3, hS⟩ := h
  cases e3
  exact ⟨hm, _, e1, e2, hS⟩
theorem c1s {α β : Type} {x : α} {f : α → Option β} : pv_c1 (some x) f = f x := rfl
theorem c2s {β : Type} {h : pv_H} {r : Int} {f : pv_H → Int → Option β} : pv_c2b (some (h, r)) f = f h r := rfl
theorem bbs {α β : Type} {x : α} {f : α → Option β} : pv_b x f = f x := rfl
/-! numbers -/
theorem pws {i : Nat} (h : i < 2000000000) : pv_w ((i : Int) + 1) = ((i + 1 : Nat) : Int) := by rw [pv_w_id (by omega) (by omega)]; omega
theorem pws1 {i : Nat} {x : Int} (e : x = (i : Int)) (h : i < 2000000000) : pv_w (x + 1) = ((i + 1 : Nat) : Int) := by rw [pv_w_id (by omega) (by omega)]; omega
theorem tnc (i : Nat) : Int.toNat (i : Int) = i := Int.toNat_natCast i
theorem tnl (a w : Nat) : Int.toNat ((a : Int) + (w : Int)) = a + w := by omega
theorem tno (a w : Nat) : Int.toNat ((OfNat.ofNat a : Int) + (w : Int)) = OfNat.ofNat a + w := by
  show Int.toNat ((a : Int) + (w : Int)) = a + w
  omega
theorem tdn {a b : Int} (h : 0 ≤ a) : Int.tdiv a b = a / b := Int.tdiv_eq_ediv_of_nonneg h
theorem tmn {a b : Int} (h : 0 ≤ a) : Int.tmod a b = a % b := Int.tmod_eq_emod_of_nonneg h
theorem pu_eq {h : pv_H} {i k a b : Nat} {x : Int} (q1 : a = i) (q2 : b = k) : pv_up h i k x a b = x := by subst q1; subst q2; exact pv_up_self h a b x
theorem pu_ne {h : pv_H} {i k a b : Nat} {x : Int} (q : a ≠ i ∨ b ≠ k) : pv_up h i k x a b = h a b := pv_up_ne q
theorem pu_if {h : pv_H} {i k a b : Nat} {x : Int} : pv_up h i k x a b = if a = i ∧ b = k then x else h a b := rfl
theorem pr_if {h : pv_H} {i a b : Nat} {f : Nat → Int} : pv_ur h i f a b = if a = i then f b else h a b := by
  unfold pv_ur
  by_cases q : a = i <;> simp [q]
theorem pr_ne {h : pv_H} {i a : Nat} {f : Nat → Int} (q : a ≠ i) : pv_ur h i f a = h a := pv_ur_ne q
theorem cp_lt {f g : Nat → Int} {n k : Nat} (h : k < n) : pv_cp f g (Int.toNat 0) (Int.toNat 0) n k = f k := by
  simp [pv_cp, h]
/-- pictures that are alike outside of some places -/
def frz (P : Nat → Nat → Prop) (h h' : pv_H) : Prop := ∀ i k, ¬ P i k → h' i k = h i k
theorem frz.rf {P : Nat → Nat → Prop} {h : pv_H} : frz P h h := fun _ _ _ => rfl
theorem frz.tr {P : Nat → Nat → Prop} {h h1 h2 : pv_H} (a : frz P h h1) (b : frz P h1 h2) : frz P h h2 := fun i k q => (b i k q).trans (a i k q)
theorem frz.up {P : Nat → Nat → Prop} {h h1 : pv_H} {i k : Nat} {x : Int} (a : frz P h h1) (q : P i k) : frz P h (pv_up h1 i k x) := fun a' b' n => by
  rw [pv_up_ne, a _ _ n]
  by_cases e : a' = i
  · right; intro e2; subst e; subst e2; exact n q
  · left; exact e
theorem frz.ur {P : Nat → Nat → Prop} {h h1 : pv_H} {i : Nat} {f : Nat → Int} (a : frz P h h1) (q : ∀ k, P i k) : frz P h (pv_ur h1 i f) := fun a' b' n => by
  rw [pv_ur_ne, a _ _ n]
  intro e
  subst e
  exact n (q b')
theorem frz.mono {P Q : Nat → Nat → Prop} {h h1 : pv_H} (a : frz P h h1) (q : ∀ i k, P i k → Q i k) : frz Q h h1 := fun i k n => a i k fun z => n (q i k z)
