/-! how a run begins, both -/
/-- the class and the reference, ready to run -/
def RDC (hc : pv_H) (r n : Nat) (st sg su lw str bd tn : Nat → Int) (last : Nat) : Prop := clz hc r n st sg su lw ∧ (∀ i, i < n → hc 92 i = str i) ∧ rdz hc n st lw str bd tn last
def RDM (hm : pv_H) (n : Nat) (st sg su lw str bd tn : Nat → Int) (last : Nat) : Prop := mlz hm n st sg su lw ∧ (∀ i, i < n → hm 11 i = str i) ∧ hm 0 29 = (last : Int) ∧ last ≤ 4000 ∧ 0 ≤ hm 0 30 ∧ hm 0 30 ≤ 237600 ∧ ∀ t, t < last → hm 12 t = bd t ∧ hm 13 t = tn t ∧ 0 ≤ bd t ∧ bd t ≤ hm 0 30 ∧ 0 ≤ tn t ∧ tn t ≤ 300000
/-- where a run writes -/
def RCz (x y : Nat) : Prop := DCz x y ∨ x = 78 ∧ (y = 8 ∨ y = 9) ∨ x = 80 ∧ (y = 1 ∨ y = 4 ∨ y = 7) ∨ x = 83
def RMz (x y : Nat) : Prop := DMz x y ∨ x = 0 ∧ (y = 36 ∨ y = 37 ∨ y = 41 ∨ y = 42) ∨ x = 24
section BEGIN
variable {N n r : Nat} {st sg su lw str bd tn : Nat → Int} {last : Nat} {hc hm : pv_H} {a1 al : Int}
theorem kof_C (gb : brz n st sg su) (c : clz hc r n st sg su lw) (hs : ∀ i, i < n → hc 92 i = str i) {i : Nat} (hi : i < n) (e : hc 78 6 = (i : Int)) : fX1_kindOfFirst N hc = some (kdz n sg str i) := by
  obtain ⟨n3, n60, _⟩ := gb
  obtain ⟨r1, r2⟩ := rod_g c
  unfold fX1_kindOfFirst fX1_kindOfFirst_42 kdz
  rw [e, end_C c n3 n60 hi, c1s]
  by_cases q : i = 0 ∨ i = n - 1
  · rw [if_pos q, if_pos q, if_neg (by omega)]
  · rw [if_neg q, if_neg q, if_pos rfl, if_pos (by omega), if_pos r1, bbs, r2, if_pos (by omega), tnc, (c.2.2.2.2.1 i hi).2.1, hs i hi]
    by_cases z : sg i ≤ str i
    · rw [if_pos z, if_neg (by omega)]
    · rw [if_neg z, if_pos (by omega)]
theorem off_C (l : lwB lw) (e : ∀ j, j < 8 → hc 24 j = lw j) {t : Int} (t0 : 0 ≤ t) (t1 : t ≤ 300000) : fX2_offBy N 23 t hc = some (if lw 3 ≤ lw 2 then t * lw 4 / 100 else 0) := by
  unfold fX2_offBy fX2_offBy_30
  have e2 : hc (23 + 1) 2 = lw 2 := e 2 (by omega)
  have e3 : hc (23 + 1) 3 = lw 3 := e 3 (by omega)
  have e4 : hc (23 + 1) 4 = lw 4 := e 4 (by omega)
  have l4 : 0 ≤ lw 4 ∧ lw 4 ≤ 100 := by obtain ⟨_, _, _, _, _, _, _, _, l1, l2, _⟩ := l; exact ⟨l1, l2⟩
  have p0 : 0 ≤ t * lw 4 := Int.mul_nonneg t0 l4.1
  have p1 : t * lw 4 ≤ t * 100 := Int.mul_le_mul_of_nonneg_left l4.2 t0
  rw [e2, e3, e4]
  by_cases z : lw 2 < lw 3
  · rw [if_pos z, if_neg (by omega)]
  · rw [if_neg z, if_pos (by omega), pv_w_id (x := t * lw 4) (by omega) (by omega), Int.tdiv_eq_ediv_of_nonneg p0, pv_w_id (by omega) (by omega)]
theorem weak_l (gb : brz n st sg su) (l : lwB lw) (m : mlz hm n st sg su lw) (hs : ∀ i, i < n → hm 11 i = str i) (hs2 : ∀ i, i < n → 1 ≤ str i ∧ str i ≤ 999) (z18 : ∀ i, i < n → hm 18 i = 0) {b : Int} (e36 : hm 0 36 = b) (b0 : 0 ≤ b) (b1 : b ≤ 237600) : ∀ (f k : Nat), k ≤ n → n < k + f → fX10_weakest_6 N f (amz (fun i => ldz n (lw 7) st i b - str i) k).1 (amz (fun i => ldz n (lw 7) st i b - str i) k).2 (k : Int) hm = some (amz (fun i => ldz n (lw 7) st i b - str i) n).1 := by
  intro f
  induction f with
  | zero => intro k h1 h2; omega
  | succ f ih =>
    intro k h1 h2
    have n60 := gb.2.1
    rw [fX10_weakest_6, m.1]
    by_cases z : k = n
    · subst z
      rw [if_pos (by omega)]
    · have lb := ld_b gb l (show k < n by omega) b0
      have sb := hs2 k (by omega)
      rw [if_neg (by omega)]
      have eL : fX10_loadOf N (k : Int) hm = some (ldz n (lw 7) st k b) := by
        unfold fX10_loadOf
        rw [if_pos (by omega), tnc, z18 k (by omega), if_pos rfl, e36, load_M gb l m (by omega) b0 (by omega), c1s]
      rw [eL, c1s, if_pos (by omega), tnc, hs k (by omega), bbs, pv_w_id (by omega) (by omega)]
      unfold fX10_weakest_42
      have ea : amz (fun i => ldz n (lw 7) st i b - str i) (k + 1) = if (amz (fun i => ldz n (lw 7) st i b - str i) k).2 < ldz n (lw 7) st k b - str k then ((k : Int), ldz n (lw 7) st k b - str k) else amz (fun i => ldz n (lw 7) st i b - str i) k := rfl
      have := ih (k + 1) (by omega) (by omega)
      by_cases y : (amz (fun i => ldz n (lw 7) st i b - str i) k).2 < ldz n (lw 7) st k b - str k
      · rw [if_pos y] at ea
        rw [if_pos y, bbs, pws (by omega), ← this, ea]
      · rw [if_neg y] at ea
        rw [if_neg y, bbs, pws (by omega), ← this, ea]
/-- the reference clears its two arrays -/
theorem clear_M {k : Nat → Prop} (h60 : n ≤ 60) (m19 : hm 0 19 = (n : Int)) : ∀ (f i : Nat) (h : pv_H), i ≤ n → n < i + f → (∀ x y, ¬ ((x = 17 ∨ x = 18) ∧ y < i) → h x y = hm x y) → (∀ y, y < i → h 17 y = 0 ∧ h 18 y = 0) → ∃ (f' : Nat) (h' : pv_H), fX10_runs_37 N a1 f (i : Int) h = fX10_runs_37 N a1 (f' + 1) (n : Int) h' ∧ (∀ x y, x ≠ 17 → x ≠ 18 → h' x y = hm x y) ∧ ∀ y, y < n → h' 17 y = 0 ∧ h' 18 y = 0 := by
  intro f
  induction f with
  | zero => intro i h h1 h2; omega
  | succ f ih =>
    intro i h h1 h2 F Z
    by_cases z : i = n
    · subst z
      exact ⟨f, h, rfl, fun x y n1 n2 => F x y (by omega), Z⟩
    · have e : fX10_runs_37 N a1 (f + 1) (i : Int) h = fX10_runs_37 N a1 f ((i + 1 : Nat) : Int) (pv_up (pv_up h 17 i 0) 18 i 0) := by
        rw [fX10_runs_37, F 0 19 (by omega), m19, if_neg (by omega), if_pos (by omega), tnc, bbs, if_pos (by omega), bbs, bbs, pws (by omega)]
      rw [e]
      refine ih (i + 1) _ (by omega) (by omega) (fun x y np => ?_) (fun y hy => ?_)
      · rw [pv_up_ne (by omega), pv_up_ne (by omega)]
        exact F x y (by omega)
      · by_cases ey : y = i
        · subst ey
          rw [pv_up_ne (by omega), pv_up_self, pv_up_self]
          exact ⟨rfl, rfl⟩
        · rw [pv_up_ne (by omega), pv_up_ne (by omega), pv_up_ne (by omega), pv_up_ne (by omega)]
          exact Z y (by omega)
/-- the two arrays of a bending, read at the first tick -/
theorem ticks_M {t : Nat} {B : Nat → Int} (e29 : hm 0 29 = (last : Int)) (hl : last ≤ 4000) (e41 : hm 0 41 = (t : Int)) (ht : t ≤ last) (hb : ∀ k, k < last → hm 12 k = bd k ∧ hm 13 k = tn k) : (if hm 0 41 = 0 then (if hm 0 29 = 0 then fX10_runs_121 N a1 0 hm else fX10_runs_92 N a1 hm) else fX10_runs_92 N a1 hm) = fX10_runs_172 N a1 (if t < last then tn t else if last = 0 then 0 else tn (last - 1)) (pv_up hm 0 36 (if t < last then bd t else if last = 0 then 0 else bd (last - 1))) := by
  have e36 : ∀ v : Int, (pv_up hm 0 36 v) 0 41 = (t : Int) ∧ (pv_up hm 0 36 v) 0 29 = (last : Int) ∧ ∀ x, (pv_up hm 0 36 v) 13 x = hm 13 x := fun v => ⟨by rw [pv_up_ne (by omega)]; exact e41, by rw [pv_up_ne (by omega)]; exact e29, fun x => pv_up_ne (by omega)⟩
  have s2 : ∀ v : Int, (¬ last = 0) → fX10_runs_143 N a1 (pv_up hm 0 36 v) = fX10_runs_172 N a1 (if t < last then tn t else tn (last - 1)) (pv_up hm 0 36 v) := by
    intro v n0
    obtain ⟨q1, q2, q3⟩ := e36 v
    unfold fX10_runs_143
    rw [q1, q2]
    by_cases z : t < last
    · rw [if_neg (by omega), if_pos z]
      unfold fX10_runs_171
      rw [if_pos (by omega), tnc, q3, (hb t z).2]
    · have ew : pv_w ((last : Int) - 1) = ((last - 1 : Nat) : Int) := by rw [pv_w_id (by omega) (by omega)]; omega
      rw [if_pos (by omega), if_neg z, ew]
      unfold fX10_runs_171
      rw [if_pos (by omega), tnc, q3, (hb (last - 1) (by omega)).2]
  have s1 : (¬ last = 0) → fX10_runs_92 N a1 hm = fX10_runs_172 N a1 (if t < last then tn t else tn (last - 1)) (pv_up hm 0 36 (if t < last then bd t else bd (last - 1))) := by
    intro n0
    have s121 : ∀ v : Int, fX10_runs_121 N a1 v hm = fX10_runs_143 N a1 (pv_up hm 0 36 v) := by
      intro v
      obtain ⟨q1, q2, q3⟩ := e36 v
      unfold fX10_runs_121
      rw [bbs, q1, q2]
      by_cases z : t = 0
      · rw [if_pos (by omega), if_neg (by omega)]
      · rw [if_neg (by omega)]
    unfold fX10_runs_92
    rw [e29, e41]
    by_cases z : t < last
    · rw [if_neg (by omega), if_pos z]
      unfold fX10_runs_120
      rw [if_pos (by omega), tnc, (hb t z).1, s121, s2 _ n0, if_pos z, if_pos z]
    · have ew : pv_w ((last : Int) - 1) = ((last - 1 : Nat) : Int) := by rw [pv_w_id (by omega) (by omega)]; omega
      rw [if_pos (by omega), if_neg z, ew]
      unfold fX10_runs_120
      rw [if_pos (by omega), tnc, (hb (last - 1) (by omega)).1, s121, s2 _ n0, if_neg z, if_neg z]
  rw [e41, e29]
  by_cases n0 : last = 0
  · subst n0
    have t0 : t = 0 := by omega
    subst t0
    obtain ⟨q1, q2, q3⟩ := e36 0
    rw [if_pos (by omega), if_pos (by omega), if_neg (by omega), if_pos rfl, if_neg (by omega), if_pos rfl]
    unfold fX10_runs_121
    rw [bbs, q1, q2, if_pos (by omega), if_pos (by omega)]
  · rw [if_neg n0, if_neg n0]
    by_cases z : t = 0
    · rw [if_pos (by omega), if_neg (by omega), s1 n0]
    · rw [if_neg (by omega), s1 n0]
end BEGIN
