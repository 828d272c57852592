/-! a plain picture of the heap: rows of numbers by number of the object; values; what the machine holds for them -/
abbrev pv_V : Type := Int ⊕ (Int ⊕ Nat)
abbrev pv_H : Type := Nat → Nat → Int
abbrev pv_Sh : Type := List (Nat × Nat)
def pv_SB : Nat := 1000000
def pv_w (x : Int) : Int := (Int32.ofInt x).toInt
def pv_wl (x : Int) : Int := (Int64.ofInt x).toInt
def pv_w8 (x : Int) : Int := (Int8.ofInt x).toInt
def pv_w16 (x : Int) : Int := (Int16.ofInt x).toInt
def pv_tv (ad : Nat → Nat) : pv_V → Value
  | .inl x => .int (Int32.ofInt x)
  | .inr (.inl y) => .long (Int64.ofInt y)
  | .inr (.inr q) => .ref (ad q)
/-- the kind of a slot by its type: 0 an int, 1 a long, 2 a reference -/
def pv_fk (t : FieldType) : Nat := match t with
  | .long => 1
  | .object _ => 2
  | .array _ => 2
  | _ => 0
def pv_ty (ci : Nat) : Nat → FieldType := match ci with
  | 0 => tyX0
  | 1 => tyX1
  | 2 => tyX2
  | 3 => tyX3
  | 4 => tyX4
  | 5 => tyX5
  | 6 => tyX6
  | 7 => tyX7
  | 8 => tyX8
  | 9 => tyX9
  | _ => tyX10
def pv_nf (ci : Nat) : Nat := match ci with
  | 0 => 4
  | 1 => 18
  | 2 => 2
  | 3 => 5
  | 4 => 14
  | 5 => 7
  | 6 => 4
  | 7 => 5
  | 8 => 7
  | 9 => 8
  | _ => 66
def pv_sv (ad : Nat → Nat) (kd : Nat) (x : Int) : Value := match kd with
  | 0 => .int (Int32.ofInt x)
  | 1 => .long (Int64.ofInt x)
  | _ => if x < 0 then .null else .ref (ad x.toNat)
/-- a cell: kind 0 an object of a class; 1 int[], 2 long[], 3 boolean[], 4 byte[], 9 char[], 5 to 8 rows of references -/
def pv_ce (aC : Nat → ClassId) (ad : Nat → Nat) (q : Nat × Nat) (f : Nat → Int) : va_E := match q.1 with
  | 0 => .inr (q.2, (List.range (pv_nf q.2)).map (fun k => pv_sv ad (pv_fk (pv_ty q.2 k)) (f k)))
  | 1 => .inl (aC 1, q.2, .inl (fun k => Int32.ofInt (f k)))
  | 2 => .inl (aC 2, q.2, .inr (.inl (fun k => Int64.ofInt (f k))))
  | 3 => .inl (aC 3, q.2, .inl (fun k => Int32.ofInt (f k)))
  | 4 => .inl (aC 4, q.2, .inl (fun k => Int32.ofInt (f k)))
  | 9 => .inl (aC 9, q.2, .inl (fun k => Int32.ofInt (f k)))
  | a => .inl (aC a, q.2, .inr (.inr (.inr (.inr (fun k => if f k < 0 then none else some (ad (f k).toNat))))))
def pv_ws (aC : Nat → ClassId) (ad : Nat → Nat) (sh : pv_Sh) (h : pv_H) : va_W := (List.range sh.length).map (fun i => (ad i, pv_ce aC ad (sh.getD i (0, 0)) (h i)))
def pv_tys (aC : Nat → ClassId) : List (ClassId × FieldType) := [(aC 1, .int), (aC 2, .long), (aC 3, .boolean), (aC 4, .byte), (aC 5, .object RX5), (aC 6, .object RX0), (aC 7, .object RX8), (aC 8, .object RX6), (aC 9, .char)]
def pv_ok (n : Nat) : pv_V → Prop
  | .inl x => -2147483648 ≤ x ∧ x ≤ 2147483647
  | .inr (.inl y) => -9223372036854775808 ≤ y ∧ y ≤ 9223372036854775807
  | .inr (.inr q) => q < n ∨ pv_SB ≤ q
def pv_os (n : Nat) (kd : Nat) (x : Int) : Prop := match kd with
  | 0 => -2147483648 ≤ x ∧ x ≤ 2147483647
  | 1 => -9223372036854775808 ≤ x ∧ x ≤ 9223372036854775807
  | _ => x < (n : Int)
def pv_kd (q : Nat × Nat) (k : Nat) : Nat := match q.1 with
  | 0 => pv_fk (pv_ty q.2 k)
  | 1 => 0
  | 2 => 1
  | 3 => 0
  | 4 => 0
  | 9 => 0
  | _ => 2
def pv_oH (sh : pv_Sh) (h : pv_H) : Prop := ∀ (i : Nat) (q : Nat × Nat), sh[i]? = some q → ∀ k : Nat, pv_os sh.length (pv_kd q k) (h i k)
def pv_s1 (q : Nat × Nat) : Nat := if q.1 = 0 then pv_nf q.2 else q.2
def pv_sl (sh : pv_Sh) : Nat := (sh.map pv_s1).sum
/-- the locals, by their places -/
def pv_L (ad : Nat → Nat) (L : List (Option pv_V)) : List (Nat × Value) := (List.range L.length).filterMap (fun j => (L.getD j none).map (fun v => (j, pv_tv ad v)))
def pv_c2 : pv_V → Bool
  | .inr (.inl _) => true
  | _ => false
def pv_o2 : Option pv_V → Bool
  | some v => pv_c2 v
  | none => false
def pv_hd : List (Option pv_V) → List (Option pv_V)
  | [] => []
  | _ :: l => none :: l
/-- a store into the locals -/
def pv_set : List (Option pv_V) → Nat → pv_V → List (Option pv_V)
  | [], _, _ => []
  | _ :: l, 0, v => some v :: (bif pv_c2 v then pv_hd l else l)
  | o :: l, i + 1, v => (bif (i == 0) && pv_o2 o then none else o) :: pv_set l i v
/-- a row's number changed; a whole row changed -/
def pv_up (h : pv_H) (i k : Nat) (x : Int) : pv_H := fun a b => if a = i ∧ b = k then x else h a b
def pv_ur (h : pv_H) (i : Nat) (f : Nat → Int) : pv_H := fun a => if a = i then f else h a
theorem pv_up_self (h : pv_H) (i k : Nat) (x : Int) : pv_up h i k x i k = x := by simp [pv_up]
theorem pv_up_ne {h : pv_H} {i k : Nat} {x : Int} {a b : Nat} (q : a ≠ i ∨ b ≠ k) : pv_up h i k x a b = h a b := by
  unfold pv_up
  rw [if_neg]
  rintro ⟨rfl, rfl⟩
  rcases q with q | q <;> exact q rfl
theorem pv_up_row {h : pv_H} {i k : Nat} {x : Int} {a : Nat} (q : a ≠ i) : pv_up h i k x a = h a := by
  funext b
  exact pv_up_ne (Or.inl q)
theorem pv_ur_self (h : pv_H) (i : Nat) (f : Nat → Int) : pv_ur h i f i = f := by simp [pv_ur]
theorem pv_ur_ne {h : pv_H} {i : Nat} {f : Nat → Int} {a : Nat} (q : a ≠ i) : pv_ur h i f a = h a := by simp [pv_ur, q]
/-! numbers -/
theorem pv_w_of (x : Int) : Int32.ofInt (pv_w x) = Int32.ofInt x := Int32.ofInt_toInt _
theorem pv_wl_of (x : Int) : Int64.ofInt (pv_wl x) = Int64.ofInt x := Int64.ofInt_toInt _
theorem pv_w_lo (x : Int) : -2147483648 ≤ pv_w x := by have := Int32.le_toInt (Int32.ofInt x); simpa [pv_w] using this
theorem pv_w_hi (x : Int) : pv_w x ≤ 2147483647 := by have := Int32.toInt_lt (Int32.ofInt x); unfold pv_w; omega
theorem pv_wl_lo (x : Int) : -9223372036854775808 ≤ pv_wl x := by have := Int64.le_toInt (Int64.ofInt x); simpa [pv_wl] using this
theorem pv_wl_hi (x : Int) : pv_wl x ≤ 9223372036854775807 := by have := Int64.toInt_lt (Int64.ofInt x); unfold pv_wl; omega
theorem pv_w_id {x : Int} (h1 : -2147483648 ≤ x) (h2 : x ≤ 2147483647) : pv_w x = x := Int32.toInt_ofInt_of_le (by omega) (by omega)
theorem pv_wl_id {x : Int} (h1 : -9223372036854775808 ≤ x) (h2 : x ≤ 9223372036854775807) : pv_wl x = x := Int64.toInt_ofInt_of_le (by omega) (by omega)
theorem pv_toInt {x : Int} (h1 : -2147483648 ≤ x) (h2 : x ≤ 2147483647) : (Int32.ofInt x).toInt = x := pv_w_id h1 h2
theorem pv_toIntl {x : Int} (h1 : -9223372036854775808 ≤ x) (h2 : x ≤ 9223372036854775807) : (Int64.ofInt x).toInt = x := pv_wl_id h1 h2
theorem pv_w8_lo (x : Int) : -128 ≤ pv_w8 x := by have := Int8.le_toInt (Int8.ofInt x); simpa [pv_w8] using this
theorem pv_w8_hi (x : Int) : pv_w8 x ≤ 127 := by have := Int8.toInt_lt (Int8.ofInt x); unfold pv_w8; omega
theorem pv_w16_lo (x : Int) : -32768 ≤ pv_w16 x := by have := Int16.le_toInt (Int16.ofInt x); simpa [pv_w16] using this
theorem pv_w16_hi (x : Int) : pv_w16 x ≤ 32767 := by have := Int16.toInt_lt (Int16.ofInt x); unfold pv_w16; omega
theorem pv_clamp {x : Int} (h1 : -2147483648 ≤ x) (h2 : x ≤ 2147483647) : (Int32.ofInt x).toNatClampNeg = x.toNat := Int32.toNatClampNeg_ofInt_of_le (by omega) (by omega)
theorem pv_lt {x y : Int} (h1 : -2147483648 ≤ x) (h2 : x ≤ 2147483647) (h3 : -2147483648 ≤ y) (h4 : y ≤ 2147483647) : Int32.ofInt x < Int32.ofInt y ↔ x < y := by
  rw [Int32.lt_iff_toInt_lt, pv_toInt h1 h2, pv_toInt h3 h4]
theorem pv_le {x y : Int} (h1 : -2147483648 ≤ x) (h2 : x ≤ 2147483647) (h3 : -2147483648 ≤ y) (h4 : y ≤ 2147483647) : Int32.ofInt x ≤ Int32.ofInt y ↔ x ≤ y := by
  rw [Int32.le_iff_toInt_le, pv_toInt h1 h2, pv_toInt h3 h4]
theorem pv_eq {x y : Int} (h1 : -2147483648 ≤ x) (h2 : x ≤ 2147483647) (h3 : -2147483648 ≤ y) (h4 : y ≤ 2147483647) : Int32.ofInt x = Int32.ofInt y ↔ x = y := by
  rw [← Int32.toInt_inj, pv_toInt h1 h2, pv_toInt h3 h4]
theorem pv_z : (0 : Int32) = Int32.ofInt 0 := by decide
theorem pv_in {x : Int} {n : Nat} (h1 : 0 ≤ x) (h2 : x < n) (h3 : x ≤ 2147483647) : vp_in (Int32.ofInt x) n := by
  unfold vp_in
  rw [pv_clamp (by omega) h3, pv_z, pv_lt (by omega) h3 (by decide) (by decide)]
  omega
/-! worlds -/
theorem pv_ws_at {aC : Nat → ClassId} {ad : Nat → Nat} {sh : pv_Sh} {h : pv_H} {i : Nat} {q : Nat × Nat} (e : sh[i]? = some q) : (pv_ws aC ad sh h)[i]? = some (ad i, pv_ce aC ad q (h i)) := by
  have hi : i < sh.length := (List.getElem?_eq_some_iff.mp e).1
  have hq : sh.getD i (0, 0) = q := by rw [List.getD_eq_getElem?_getD, e]; rfl
  unfold pv_ws
  rw [List.getElem?_map, List.getElem?_range hi, Option.map_some, hq]
theorem pv_ws_len {aC : Nat → ClassId} {ad : Nat → Nat} {sh : pv_Sh} {h : pv_H} : (pv_ws aC ad sh h).length = sh.length := by simp [pv_ws]
/-- one cell changed -/
theorem pv_ws_set {aC : Nat → ClassId} {ad : Nat → Nat} {sh : pv_Sh} {h h1 : pv_H} {i : Nat} {q : Nat × Nat} (e : sh[i]? = some q) (ho : ∀ j, j ≠ i → h1 j = h j) : pv_ws aC ad sh h1 = (pv_ws aC ad sh h).set i (ad i, pv_ce aC ad q (h1 i)) := by
  apply List.ext_getElem?
  intro j
  by_cases hj : j = i
  · subst hj
    have hi : j < sh.length := (List.getElem?_eq_some_iff.mp e).1
    rw [pv_ws_at e, List.getElem?_set_self (by rw [pv_ws_len]; exact hi)]
  · rw [List.getElem?_set_ne (Ne.symm hj)]
    simp only [pv_ws, List.getElem?_map]
    by_cases hl : j < sh.length
    · rw [List.getElem?_range hl]; simp [ho j hj]
    · rw [List.getElem?_eq_none (by simpa using Nat.not_lt.mp hl)]; rfl
def pv_ag (ad ad' : Nat → Nat) (n : Nat) : Prop := ∀ i, i < n ∨ pv_SB ≤ i → ad' i = ad i
theorem pv_ag.rf {ad : Nat → Nat} {n : Nat} : pv_ag ad ad n := fun _ _ => rfl
theorem pv_ag.tr {a b c : Nat → Nat} {n k : Nat} (h1 : pv_ag a b n) (h2 : pv_ag b c k) (h : n ≤ k) : pv_ag a c n := fun i hi => (h2 i (hi.elim (fun z => Or.inl (Nat.lt_of_lt_of_le z h)) Or.inr)).trans (h1 i hi)
theorem pv_ag.tv {ad ad' : Nat → Nat} {n : Nat} (h : pv_ag ad ad' n) {v : pv_V} (hv : pv_ok n v) : pv_tv ad' v = pv_tv ad v := by
  rcases v with x | y | q
  · rfl
  · rfl
  · show Value.ref (ad' q) = Value.ref (ad q)
    rw [h q hv]
theorem pv_ok.mono {n k : Nat} (h : n ≤ k) {v : pv_V} (hv : pv_ok n v) : pv_ok k v := by
  rcases v with x | y | q
  · exact hv
  · exact hv
  · exact hv.elim (fun z => Or.inl (Nat.lt_of_lt_of_le z h)) Or.inr
theorem pv_ag.sv {ad ad' : Nat → Nat} {n : Nat} (h : pv_ag ad ad' n) {kd : Nat} {x : Int} (hv : pv_os n kd x) : pv_sv ad' kd x = pv_sv ad kd x := by
  match kd, hv with
  | 0, _ => rfl
  | 1, _ => rfl
  | kd + 2, hv =>
    simp only [pv_sv]
    have hx : x < (n : Int) := hv
    by_cases h0 : x < 0
    · rw [if_pos h0, if_pos h0]
    · rw [if_neg h0, if_neg h0, h x.toNat (Or.inl (by omega))]
/-- the same picture under other addresses of what isn't there yet -/
theorem pv_ag.ce {ad ad' : Nat → Nat} {n : Nat} {aC : Nat → ClassId} (h : pv_ag ad ad' n) {q : Nat × Nat} {f : Nat → Int} (hv : ∀ k, pv_os n (pv_kd q k) (f k)) : pv_ce aC ad' q f = pv_ce aC ad q f := by
  obtain ⟨a, b⟩ := q
  have rf : (∀ k, pv_os n 2 (f k)) → (fun k => if f k < 0 then none else some (ad' (f k).toNat)) = (fun k => if f k < 0 then none else some (ad (f k).toNat)) := by
    intro hv
    funext k
    have hx : f k < (n : Int) := hv k
    by_cases h0 : f k < 0
    · rw [if_pos h0, if_pos h0]
    · rw [if_neg h0, if_neg h0, h (f k).toNat (Or.inl (by omega))]
  match a, hv with
  | 0, hv =>
    simp only [pv_ce]
    congr 2
    apply List.map_congr_left
    intro k _
    exact h.sv (hv k)
  | 1, _ => rfl
  | 2, _ => rfl
  | 3, _ => rfl
  | 4, _ => rfl
  | 5, hv =>
    simp only [pv_ce]
    rw [rf hv]
  | 6, hv =>
    simp only [pv_ce]
    rw [rf hv]
  | 7, hv =>
    simp only [pv_ce]
    rw [rf hv]
  | 8, hv =>
    simp only [pv_ce]
    rw [rf hv]
  | 9, _ => rfl
  | a + 10, hv =>
    simp only [pv_ce]
    rw [rf hv]
theorem pv_ag.ws {ad ad' : Nat → Nat} {aC : Nat → ClassId} {sh : pv_Sh} {h : pv_H} (g : pv_ag ad ad' sh.length) (o : pv_oH sh h) : pv_ws aC ad' sh h = pv_ws aC ad sh h := by
  unfold pv_ws
  apply List.map_congr_left
  intro i hi
  have hi' : i < sh.length := List.mem_range.mp hi
  have e : sh[i]? = some (sh.getD i (0, 0)) := by rw [List.getD_eq_getElem?_getD, List.getElem?_eq_getElem hi']; rfl
  rw [g i (Or.inl hi'), g.ce (o i _ e)]
/-! locals -/
theorem pv_L_mem {ad : Nat → Nat} {L : List (Option pv_V)} {j : Nat} {w : Value} : (j, w) ∈ pv_L ad L ↔ ∃ v, L[j]? = some (some v) ∧ w = pv_tv ad v := by
  unfold pv_L
  rw [List.mem_filterMap]
  constructor
  · rintro ⟨i, hi, he⟩
    have hi' : i < L.length := List.mem_range.mp hi
    rw [List.getD_eq_getElem?_getD, List.getElem?_eq_getElem hi', Option.getD_some] at he
    cases hv : L[i] with
    | none => rw [hv] at he; cases he
    | some v =>
      rw [hv] at he
      cases he
      exact ⟨v, by rw [List.getElem?_eq_getElem hi', hv], rfl⟩
  · rintro ⟨v, he, rfl⟩
    have hj : j < L.length := (List.getElem?_eq_some_iff.mp he).1
    exact ⟨j, List.mem_range.mpr hj, by rw [List.getD_eq_getElem?_getD, he]; rfl⟩
theorem pv_L_at {ad : Nat → Nat} {L : List (Option pv_V)} {ls : Array Slot} {nL j : Nat} {v : pv_V} (h : lv_has ls nL (pv_L ad L)) (e : L[j]? = some (some v)) : ls[j]? = some (.val (pv_tv ad v)) := h.2.2 (j, _) (pv_L_mem.mpr ⟨v, e, rfl⟩)
theorem pv_L_weak {ls : Array Slot} {nL : Nat} {l l' : List (Nat × Value)} (h : lv_has ls nL l) (hl : ∀ q ∈ l', q ∈ l) : lv_has ls nL l' := ⟨h.1, h.2.1, fun q hq => h.2.2 q (hl q hq)⟩
theorem pv_set_at : ∀ (L : List (Option pv_V)) (i j : Nat) (v w : pv_V), (pv_set L i v)[j]? = some (some w) → (j = i ∧ w = v) ∨ (j ≠ i ∧ L[j]? = some (some w) ∧ ¬ (pv_c2 v = true ∧ j = i + 1) ∧ ¬ (j + 1 = i ∧ pv_c2 w = true))
  | [], i, j, v, w, h => by simp [pv_set] at h
  | o :: L, 0, 0, v, w, h => by
    simp [pv_set] at h
    exact Or.inl ⟨rfl, h.symm⟩
  | o :: L, 0, j + 1, v, w, h => by
    simp only [pv_set, List.getElem?_cons_succ] at h
    refine Or.inr ⟨by omega, ?_, ?_, by omega⟩
    · cases hc : pv_c2 v with
      | false => rw [hc] at h; simpa using h
      | true =>
        rw [hc] at h
        cases L with
        | nil => simp [pv_hd] at h
        | cons o2 L =>
          cases j with
          | zero => simp [pv_hd] at h
          | succ j => simpa [pv_hd] using h
    · rintro ⟨hc, hj⟩
      have hj0 : j = 0 := by omega
      subst hj0
      rw [hc] at h
      cases L with
      | nil => simp [pv_hd] at h
      | cons o2 L => simp [pv_hd] at h
  | o :: L, i + 1, 0, v, w, h => by
    simp only [pv_set, List.getElem?_cons_zero, Option.some.injEq] at h
    refine Or.inr ⟨by omega, ?_, by omega, ?_⟩
    · cases hc : ((i == 0) && pv_o2 o) with
      | false => rw [hc] at h; simpa using h
      | true => rw [hc] at h; cases h
    · rintro ⟨hi, hw⟩
      have hi0 : i = 0 := by omega
      subst hi0
      cases hc : pv_o2 o with
      | false =>
        rw [hc] at h
        simp at h
        subst h
        simp [pv_o2, hw] at hc
      | true => rw [hc] at h; simp at h
  | o :: L, i + 1, j + 1, v, w, h => by
    simp only [pv_set, List.getElem?_cons_succ] at h
    rcases pv_set_at L i j v w h with ⟨h1, h2⟩ | ⟨h1, h2, h3, h4⟩
    · exact Or.inl ⟨by omega, h2⟩
    · refine Or.inr ⟨by omega, by simpa using h2, ?_, ?_⟩
      · rintro ⟨a, b⟩; exact h3 ⟨a, by omega⟩
      · rintro ⟨a, b⟩; exact h4 ⟨by omega, b⟩
theorem pv_cat (ad : Nat → Nat) (v : pv_V) : ((pv_tv ad v).category == 2) = pv_c2 v := by
  rcases v with x | y | q <;> rfl
theorem pv_set_ok {n : Nat} {L : List (Option pv_V)} {i : Nat} {v : pv_V} (h : ∀ w, some w ∈ L → pv_ok n w) (hv : pv_ok n v) : ∀ w, some w ∈ pv_set L i v → pv_ok n w := by
  intro w hw
  obtain ⟨j, hj⟩ := List.getElem?_of_mem hw
  rcases pv_set_at L i j v w hj with ⟨-, rfl⟩ | ⟨-, h2, -⟩
  · exact hv
  · exact h w (List.mem_of_getElem? h2)
theorem pv_set_1 {ad : Nat → Nat} {L : List (Option pv_V)} {i : Nat} {v : pv_V} (hc : pv_c2 v = false) : ∀ q ∈ pv_L ad (pv_set L i v), q ∈ (i, pv_tv ad v) :: (pv_L ad L).filter (fun q => !(q.1 == i) && !(q.1 + 1 == i && q.2.category == 2)) := by
  rintro ⟨j, w⟩ hq
  obtain ⟨u, hu, rfl⟩ := pv_L_mem.mp hq
  rcases pv_set_at L i j v u hu with ⟨rfl, rfl⟩ | ⟨h1, h2, h3, h4⟩
  · exact List.mem_cons_self
  · refine List.mem_cons_of_mem _ (List.mem_filter.mpr ⟨pv_L_mem.mpr ⟨u, h2, rfl⟩, ?_⟩)
    rw [pv_cat]
    have e1 : (j == i) = false := by simpa using h1
    rw [e1]
    cases hd : pv_c2 u with
    | false => simp
    | true =>
      have : (j + 1 == i) = false := by simp; exact fun z => h4 ⟨z, hd⟩
      rw [this]; rfl
theorem pv_set_2 {ad : Nat → Nat} {L : List (Option pv_V)} {i : Nat} {v : pv_V} (hc : pv_c2 v = true) : ∀ q ∈ pv_L ad (pv_set L i v), q ∈ (i, pv_tv ad v) :: (pv_L ad L).filter (fun q => !(q.1 == i) && (!(q.1 == i + 1) && !(q.1 + 1 == i && q.2.category == 2))) := by
  rintro ⟨j, w⟩ hq
  obtain ⟨u, hu, rfl⟩ := pv_L_mem.mp hq
  rcases pv_set_at L i j v u hu with ⟨rfl, rfl⟩ | ⟨h1, h2, h3, h4⟩
  · exact List.mem_cons_self
  · refine List.mem_cons_of_mem _ (List.mem_filter.mpr ⟨pv_L_mem.mpr ⟨u, h2, rfl⟩, ?_⟩)
    rw [pv_cat]
    have e1 : (j == i) = false := by simpa using h1
    have e2 : (j == i + 1) = false := by simp; exact fun z => h3 ⟨hc, z⟩
    rw [e1, e2]
    cases hd : pv_c2 u with
    | false => simp
    | true =>
      have : (j + 1 == i) = false := by simp; exact fun z => h4 ⟨z, hd⟩
      rw [this]; rfl
