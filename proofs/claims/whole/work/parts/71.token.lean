/-! words of texts, the next TOKEN, both */ -/
def pv_wlen : List Nat := [5, 5, 6, 5, 4, 5, 5, 2, 2, 4, 4, 4, 4, 3, 6, 3, 3, 5, 5, 4, 4, 7, 4, 2, 2, 3, 3, 6, 7, 6, 5, 4, 4, 5, 7, 8, 6]
def wlz (n : Nat) : Nat := pv_wlen.getD n 0
def wsz : Nat → Nat
  | 0 => 0
  | n + 1 => wsz n + wlz n + 1
def wcz (k : Nat) : Int := (pv_tx 0).getD k 0
set_option maxRecDepth 20000 in
theorem wl_f : ∀ n : Nat, n < 37 → 2 ≤ wlz n ∧ wlz n ≤ 8 ∧ wsz n + wlz n < 204 ∧ wcz (wsz n + wlz n) = 32 := by decide +kernel
set_option maxRecDepth 20000 in
theorem wl_g : ∀ n : Nat, n < 37 → ∀ j : Nat, j < wlz n → 97 ≤ wcz (wsz n + j) ∧ wcz (wsz n + j) ≤ 122 := by decide +kernel
theorem wl_e : wsz 37 = 204 := by decide +kernel
theorem wc_1 (k : Nat) : (pv_tx 1).getD (k + 1) 0 = wcz k := rfl
theorem ws_s (n : Nat) : wsz (n + 1) = wsz n + wlz n + 1 := rfl
def mwz (s sz n : Nat) (B : Nat → Int) : Prop := sz = wlz n ∧ ∀ j, j < wlz n → B (s + j) = wcz (wsz n + j)
section WORDS
variable {N s sz n : Nat} {hc hm : pv_H} {B : Nat → Int}
/-- the class goes over one word -/
theorem cw_l (hn : n < 37) (h4 : s + sz ≤ 400) (hB : ∀ i, i < sz → hc 19 (s + i) = B (s + i)) : ∀ (d j g : Nat) (l : Int), j + d = wlz n → (l = (j : Int) ∧ (∀ i, i < j → i < sz ∧ B (s + i) = wcz (wsz n + i)) ∨ l = -1 ∧ ¬ mwz s sz n B) → (mwz s sz n B → fX4_wordFrom_8 N (s : Int) (sz : Int) (g + d + 1) (n : Int) l ((wsz n + j : Nat) : Int) hc = some (n : Int)) ∧ (¬ mwz s sz n B → fX4_wordFrom_8 N (s : Int) (sz : Int) (g + d + 1) (n : Int) l ((wsz n + j : Nat) : Int) hc = fX4_wordFrom_8 N (s : Int) (sz : Int) g ((n + 1 : Nat) : Int) 0 ((wsz (n + 1) : Nat) : Int) hc) := by
  obtain ⟨f1, f2, f3, f4⟩ := wl_f n hn
  intro d
  induction d with
  | zero =>
    intro j g l h1 hl
    have : j = wlz n := by omega
    subst this
    have e : fX4_wordFrom_8 N (s : Int) (sz : Int) (g + 0 + 1) (n : Int) l ((wsz n + wlz n : Nat) : Int) hc = if l = (sz : Int) then some (n : Int) else fX4_wordFrom_8 N (s : Int) (sz : Int) g ((n + 1 : Nat) : Int) 0 ((wsz (n + 1) : Nat) : Int) hc := by
      have ew : (pv_tx 0).getD (wsz n + wlz n) 0 = wcz (wsz n + wlz n) := rfl
      rw [Nat.add_zero, fX4_wordFrom_8, if_neg (by omega), if_pos (by omega), tnc, bbs, ew, if_pos f4]
      unfold fX4_wordFrom_85
      rw [bbs, bbs, pws (by omega), pws (by omega), ws_s]
    rw [e]
    refine ⟨fun m => ?_, fun m => ?_⟩
    · rcases hl with ⟨l1, l2⟩ | ⟨l1, l2⟩
      · rw [if_pos (by have := m.1; omega)]
      · exact absurd m l2
    · rcases hl with ⟨l1, l2⟩ | ⟨l1, l2⟩
      · rw [if_neg (fun z => m ⟨by omega, fun i hi => (l2 i hi).2⟩)]
      · rw [if_neg (by omega)]
  | succ d ih =>
    intro j g l h1 hl
    have w := wl_g n hn j (by omega)
    have step : ∀ l' : Int, fX4_wordFrom_8 N (s : Int) (sz : Int) (g + (d + 1) + 1) (n : Int) l ((wsz n + j : Nat) : Int) hc = fX4_wordFrom_8 N (s : Int) (sz : Int) (g + d + 1) (n : Int) l' ((wsz n + (j + 1) : Nat) : Int) hc → (l' = ((j + 1 : Nat) : Int) ∧ (∀ i, i < j + 1 → i < sz ∧ B (s + i) = wcz (wsz n + i)) ∨ l' = -1 ∧ ¬ mwz s sz n B) → (mwz s sz n B → fX4_wordFrom_8 N (s : Int) (sz : Int) (g + (d + 1) + 1) (n : Int) l ((wsz n + j : Nat) : Int) hc = some (n : Int)) ∧ (¬ mwz s sz n B → fX4_wordFrom_8 N (s : Int) (sz : Int) (g + (d + 1) + 1) (n : Int) l ((wsz n + j : Nat) : Int) hc = fX4_wordFrom_8 N (s : Int) (sz : Int) g ((n + 1 : Nat) : Int) 0 ((wsz (n + 1) : Nat) : Int) hc) := by
      intro l' e hl'
      rw [e]
      exact ih (j + 1) g l' (by omega) hl'
    have e82 : fX4_wordFrom_82 N (fun v3_ v4_ v5_ hh => fX4_wordFrom_8 N (s : Int) (sz : Int) (g + d + 1) v3_ v4_ v5_ hh) (s : Int) (sz : Int) (n : Int) ((wsz n + j : Nat) : Int) hc = fX4_wordFrom_8 N (s : Int) (sz : Int) (g + d + 1) (n : Int) (-1) ((wsz n + (j + 1) : Nat) : Int) hc := by
      unfold fX4_wordFrom_82 fX4_wordFrom_85
      rw [bbs, bbs, pws (by omega)]
      rfl
    have e0 : fX4_wordFrom_8 N (s : Int) (sz : Int) (g + (d + 1) + 1) (n : Int) l ((wsz n + j : Nat) : Int) hc = (if l < 0 then fX4_wordFrom_82 N (fun v3_ v4_ v5_ hh => fX4_wordFrom_8 N (s : Int) (sz : Int) (g + d + 1) v3_ v4_ v5_ hh) (s : Int) (sz : Int) (n : Int) ((wsz n + j : Nat) : Int) hc else if (sz : Int) ≤ l then fX4_wordFrom_82 N (fun v3_ v4_ v5_ hh => fX4_wordFrom_8 N (s : Int) (sz : Int) (g + d + 1) v3_ v4_ v5_ hh) (s : Int) (sz : Int) (n : Int) ((wsz n + j : Nat) : Int) hc else if 0 ≤ pv_w ((s : Int) + l) ∧ pv_w ((s : Int) + l) < 400 then (if hc 19 (Int.toNat (pv_w ((s : Int) + l))) = wcz (wsz n + j) then (pv_b (pv_w (l + 1)) fun x9 => fX4_wordFrom_85 N (fun v3_ v4_ v5_ hh => fX4_wordFrom_8 N (s : Int) (sz : Int) (g + d + 1) v3_ v4_ v5_ hh) (s : Int) (sz : Int) (n : Int) x9 ((wsz n + j : Nat) : Int) hc) else fX4_wordFrom_82 N (fun v3_ v4_ v5_ hh => fX4_wordFrom_8 N (s : Int) (sz : Int) (g + d + 1) v3_ v4_ v5_ hh) (s : Int) (sz : Int) (n : Int) ((wsz n + j : Nat) : Int) hc) else none) := by
      rw [show g + (d + 1) + 1 = (g + d + 1) + 1 by omega, fX4_wordFrom_8, if_neg (by omega), if_pos (by omega), tnc, bbs]
      have ew : (pv_tx 0).getD (wsz n + j) 0 = wcz (wsz n + j) := rfl
      rw [ew, if_neg (by omega)]
    rw [e82] at e0
    rcases hl with ⟨l1, l2⟩ | ⟨l1, l2⟩
    · rw [if_neg (by omega)] at e0
      by_cases y : sz ≤ j
      · rw [if_pos (by omega)] at e0
        exact step (-1) e0 (Or.inr ⟨rfl, fun m => by have := m.1; omega⟩)
      · have x : pv_w ((s : Int) + l) = ((s + j : Nat) : Int) := by rw [l1, pv_w_id (by omega) (by omega)]; omega
        rw [if_neg (by omega), x, if_pos (by omega), tnc, hB j (by omega)] at e0
        by_cases z : B (s + j) = wcz (wsz n + j)
        · rw [if_pos z] at e0
          unfold fX4_wordFrom_85 at e0
          rw [bbs, bbs, pws (show wsz n + j < 2000000000 by omega), l1, pws (show j < 2000000000 by omega)] at e0
          refine step ((j + 1 : Nat) : Int) ?_ (Or.inl ⟨rfl, fun i hi => ?_⟩)
          · rw [l1]; exact e0
          · by_cases ei : i = j
            · subst ei; exact ⟨by omega, z⟩
            · exact l2 i (by omega)
        · rw [if_neg z] at e0
          exact step (-1) e0 (Or.inr ⟨rfl, fun m => z (m.2 j (by omega))⟩)
    · rw [if_pos (by omega)] at e0
      exact step (-1) e0 (Or.inr ⟨rfl, l2⟩)
/-- the reference compares one word -/
theorem kw_l (hn : n < 37) {k4 : Int → Int → pv_H → Option Int} (h4 : s + sz ≤ 400) (e7 : hm 0 7 = (s : Int)) (e8 : hm 0 8 = ((s + sz : Nat) : Int)) (hB : ∀ i, i < sz → hm 4 (s + i) = B (s + i)) : ∀ (d i f : Nat), i + d = wlz n → d < f → (∀ i', i' < i → i' < sz ∧ B (s + i') = wcz (wsz n + i')) → (mwz s sz n B → fX10_keyAt_15 N k4 f (n : Int) ((wsz n + 1 : Nat) : Int) (i : Int) hm = some (n : Int)) ∧ (¬ mwz s sz n B → fX10_keyAt_15 N k4 f (n : Int) ((wsz n + 1 : Nat) : Int) (i : Int) hm = fX10_keyAt_97 N k4 N (n : Int) ((wsz n + 1 : Nat) : Int) hm) := by
  obtain ⟨f1, f2, f3, f4⟩ := wl_f n hn
  have x1 : ∀ i : Nat, i ≤ wlz n → pv_w (((wsz n + 1 : Nat) : Int) + (i : Int)) = ((wsz n + i + 1 : Nat) : Int) := fun i hi => by rw [pv_w_id (by omega) (by omega)]; omega
  have x2 : ∀ i : Nat, i ≤ wlz n → pv_w ((s : Int) + (i : Int)) = ((s + i : Nat) : Int) := fun i hi => by rw [pv_w_id (by omega) (by omega)]; omega
  intro d
  induction d with
  | zero =>
    intro i f h1 h2 hl
    obtain ⟨f, rfl⟩ : ∃ g, f = g + 1 := ⟨f - 1, by omega⟩
    have : i = wlz n := by omega
    subst this
    have e : fX10_keyAt_15 N k4 (f + 1) (n : Int) ((wsz n + 1 : Nat) : Int) (wlz n : Int) hm = if s + wlz n = s + sz then some (n : Int) else fX10_keyAt_97 N k4 N (n : Int) ((wsz n + 1 : Nat) : Int) hm := by
      rw [fX10_keyAt_15, x1 _ (Nat.le_refl _), if_pos (by omega), tnc, wc_1, if_pos f4]
      unfold fX10_keyAt_69
      rw [x1 _ (Nat.le_refl _), if_pos (by omega), tnc, wc_1, if_pos f4, e7, e8, x2 _ (Nat.le_refl _)]
      by_cases z : s + wlz n = s + sz
      · rw [if_pos z, if_pos (by omega)]
      · rw [if_neg z, if_neg (by omega)]
    rw [e]
    refine ⟨fun m => ?_, fun m => ?_⟩
    · rw [if_pos (by have := m.1; omega)]
    · rw [if_neg (fun z => m ⟨by omega, fun j hj => (hl j hj).2⟩)]
  | succ d ih =>
    intro i f h1 h2 hl
    obtain ⟨f, rfl⟩ : ∃ g, f = g + 1 := ⟨f - 1, by omega⟩
    have w := wl_g n hn i (by omega)
    have e69 : fX10_keyAt_69 N k4 (n : Int) ((wsz n + 1 : Nat) : Int) (i : Int) hm = fX10_keyAt_97 N k4 N (n : Int) ((wsz n + 1 : Nat) : Int) hm := by
      unfold fX10_keyAt_69
      rw [x1 i (by omega), if_pos (by omega), tnc, wc_1, if_neg (by omega)]
    rw [fX10_keyAt_15, x1 i (by omega), if_pos (by omega), tnc, wc_1, if_neg (by omega), e7, e8, x2 i (by omega), e69]
    by_cases y : s + sz ≤ s + i
    · rw [if_pos (by omega)]
      exact ⟨fun m => by have := m.1; omega, fun _ => rfl⟩
    · rw [if_neg (by omega), if_pos (by omega), if_pos (by omega), tnc, hB i (by omega)]
      by_cases z : B (s + i) = wcz (wsz n + i)
      · rw [if_pos z, bbs, pws (by omega)]
        refine ih (i + 1) f (by omega) (by omega) (fun j hj => ?_)
        by_cases ej : j = i
        · subst ej; exact ⟨by omega, z⟩
        · exact hl j (by omega)
      · rw [if_neg z]
        exact ⟨fun m => absurd (m.2 i (by omega)) z, fun _ => rfl⟩
/-- the reference goes to the next word -/
theorem sk_l (hn : n < 37) {k4 : Int → Int → pv_H → Option Int} : ∀ (d j f : Nat), j + d = wlz n → d < f → fX10_keyAt_97 N k4 f (n : Int) ((wsz n + j + 1 : Nat) : Int) hm = k4 ((n + 1 : Nat) : Int) ((wsz (n + 1) + 1 : Nat) : Int) hm := by
  obtain ⟨f1, f2, f3, f4⟩ := wl_f n hn
  intro d
  induction d with
  | zero =>
    intro j f h1 h2
    obtain ⟨f, rfl⟩ : ∃ g, f = g + 1 := ⟨f - 1, by omega⟩
    have : j = wlz n := by omega
    subst this
    rw [fX10_keyAt_97, if_pos (by omega), tnc, wc_1, if_pos f4, bbs, bbs, pws (by omega), pws (by omega)]
    rfl
  | succ d ih =>
    intro j f h1 h2
    obtain ⟨f, rfl⟩ : ∃ g, f = g + 1 := ⟨f - 1, by omega⟩
    have w := wl_g n hn j (by omega)
    rw [fX10_keyAt_97, if_pos (by omega), tnc, wc_1, if_neg (by omega), bbs, pws (by omega)]
    exact ih (j + 1) f (by omega) (by omega)
/-- which word it is, both -/
theorem word_l (hN : 1000 ≤ N) (h4 : s + sz ≤ 400) (e7 : hm 0 7 = (s : Int)) (e8 : hm 0 8 = ((s + sz : Nat) : Int)) (hB : ∀ i, i < sz → hc 19 (s + i) = hm 4 (s + i)) : ∀ (d n g f' : Nat), n + d = 37 → 204 < wsz n + g → d < f' → ∃ K : Int, fX4_wordFrom_8 N (s : Int) (sz : Int) g (n : Int) 0 ((wsz n : Nat) : Int) hc = some (if K ≤ 36 then K else K + 3) ∧ fX10_keyAt_4 N f' (n : Int) ((wsz n + 1 : Nat) : Int) hm = some K ∧ 0 ≤ K ∧ K ≤ 37 ∧ (K ≤ 36 → 2 ≤ sz) := by
  intro d
  induction d with
  | zero =>
    intro n g f' h1 h2 h3
    have : n = 37 := by omega
    subst this
    have e := wl_e
    obtain ⟨g, rfl⟩ : ∃ q, g = q + 1 := ⟨g - 1, by omega⟩
    obtain ⟨f', rfl⟩ : ∃ q, f' = q + 1 := ⟨f' - 1, by omega⟩
    refine ⟨37, ?_, ?_, by omega, by omega, fun y => by omega⟩
    · rw [fX4_wordFrom_8, if_pos (by omega), if_neg (by omega)]
      rfl
    · rw [fX10_keyAt_4, if_pos (by omega)]
  | succ d ih =>
    intro n g f' h1 h2 h3
    have hn : n < 37 := by omega
    obtain ⟨f1, f2, f3, f4⟩ := wl_f n hn
    have es := ws_s n
    obtain ⟨g0, hg⟩ : ∃ g0, g = g0 + wlz n + 1 := ⟨g - wlz n - 1, by omega⟩
    obtain ⟨f', rfl⟩ : ∃ q, f' = q + 1 := ⟨f' - 1, by omega⟩
    have c := cw_l (N := N) (s := s) (sz := sz) (hc := hc) (B := hm 4) hn h4 hB (wlz n) 0 g0 0 (by omega) (Or.inl ⟨rfl, fun i hi => by omega⟩)
    have k := kw_l (N := N) (s := s) (sz := sz) (hm := hm) (B := hm 4) (k4 := fun v1_ v2_ hh => fX10_keyAt_4 N f' v1_ v2_ hh) hn h4 e7 e8 (fun _ _ => rfl) (wlz n) 0 N (by omega) (by omega) (fun i hi => by omega)
    have eC : fX4_wordFrom_8 N (s : Int) (sz : Int) g (n : Int) 0 ((wsz n : Nat) : Int) hc = fX4_wordFrom_8 N (s : Int) (sz : Int) (g0 + wlz n + 1) (n : Int) 0 ((wsz n + 0 : Nat) : Int) hc := by rw [hg]; rfl
    have eM : fX10_keyAt_4 N (f' + 1) (n : Int) ((wsz n + 1 : Nat) : Int) hm = fX10_keyAt_15 N (fun v1_ v2_ hh => fX10_keyAt_4 N f' v1_ v2_ hh) N (n : Int) ((wsz n + 1 : Nat) : Int) ((0 : Nat) : Int) hm := by
      rw [fX10_keyAt_4, if_neg (by omega)]
      rfl
    by_cases m : mwz s sz n (hm 4)
    · refine ⟨(n : Int), ?_, ?_, by omega, by omega, fun _ => by have := m.1; omega⟩
      · rw [eC, c.1 m, if_pos (by omega)]
      · rw [eM, k.1 m]
    · obtain ⟨K, y1, y2, y3⟩ := ih (n + 1) g0 f' (by omega) (by omega) (by omega)
      refine ⟨K, ?_, ?_, y3⟩
      · rw [eC, c.2 m, y1]
      · rw [eM, k.2 m]
        have := sk_l (N := N) (hm := hm) (k4 := fun v1_ v2_ hh => fX10_keyAt_4 N f' v1_ v2_ hh) hn (wlz n) 0 N (by omega) (by omega)
        rw [Nat.add_zero] at this
        rw [this, y2]
end WORDS
def tkz (k : Int) : Int := if k ≤ 36 then k else k + 3
/-- no FAULT yet, and the class stands where the reference does -/
def NXz (L p : Nat) (hc hm : pv_H) : Prop := RBz L hc hm ∧ p ≤ L ∧ hc 1 10 = (p : Int) ∧ hm 0 8 = (p : Int) ∧ hm 0 12 = 0 ∧ hc 1 1 = 0 ∧ hc 1 2 = -1
/-- the TOKEN that stands ready (from s to p) -/
def TYz (L s p : Nat) (hc hm : pv_H) : Prop := RBz L hc hm ∧ s ≤ p ∧ p ≤ L ∧ hc 1 10 = (p : Int) ∧ hm 0 8 = (p : Int) ∧ hc 1 12 = (s : Int) ∧ hm 0 7 = (s : Int) ∧ 0 ≤ hm 0 10 ∧ hm 0 10 ≤ 43 ∧ hc 1 11 = tkz (hm 0 10) ∧ (hm 0 10 ≠ 42 → s < p) ∧ (hm 0 10 ≤ 36 → s + 2 ≤ p) ∧ (hm 0 10 = 38 → hc 1 13 = hm 0 11 ∧ 0 ≤ hm 0 11 ∧ hm 0 11 ≤ 999) ∧ hm 0 12 = 0 ∧ (hm 0 10 ≠ 43 → hc 1 1 = 0 ∧ hc 1 2 = -1) ∧ (hm 0 10 = 43 → hc 1 1 = 1 ∧ hc 1 2 = (s : Int))
def RCf (x y : Nat) : Prop := x = 1 ∧ (y = 1 ∨ y = 2 ∨ 10 ≤ y ∧ y ≤ 13)
def RMf (x y : Nat) : Prop := x = 0 ∧ (y = 7 ∨ y = 8 ∨ 10 ≤ y ∧ y ≤ 13)
theorem t172 {N : Nat} {h : pv_H} : fX4_next_172 N h = if h 1 11 = 46 ∧ h 1 1 = 0 then some (pv_up (pv_up h 1 1 1) 1 2 (h 1 12)) else some h := by
  unfold fX4_next_172 fX4_fail fX4_fail_20 fX4_next_187
  by_cases z : h 1 11 = 46
  · rw [if_pos z]
    by_cases y : h 1 1 = 0
    · rw [if_pos y, if_pos ⟨z, y⟩, bbs, bbs, c2s, pv_up_ne (by omega)]
    · rw [if_neg y, if_neg (fun u => y u.2), c2s]
  · rw [if_neg z, if_neg (fun u => z u.1)]
theorem next_2 {N L p : Nat} {hc hm : pv_H} (hN : 1000 ≤ N) (X : NXz L p hc hm) : ∃ (s p' : Nat) (hc' hm' : pv_H), fX4_next N hc = some hc' ∧ fX10_next N hm = some hm' ∧ TYz L s p' hc' hm' ∧ p ≤ s ∧ (∀ x y, ¬ RCf x y → hc' x y = hc x y) ∧ ∀ x y, ¬ RMf x y → hm' x y = hm x y := by
  obtain ⟨R, pL, e1, e2, e12, e11, e112⟩ := X
  obtain ⟨r1, r2, r3, r4⟩ := id R
  obtain ⟨q, g, g', hc2, hm2, x1, x2, x3, x4, x5, x6, x7, x8, x9, x10, x11⟩ := skip_2 (N := N) (L - p) p N N hc (pv_up hm 0 7 (p : Int)) (by omega) (by omega) (by omega) (R.frm (fun _ _ _ => rfl) (fun x y u => pv_up_ne (by omega))) e1 (pv_up_self _ _ _ _)
  have k9 : ∀ x y, ¬ (x = 0 ∧ y = 7) → hm2 x y = hm x y := fun x y np => by rw [x10 x y np, pv_up_ne (by omega)]
  have R2 : RBz L hc2 hm2 := R.frm (fun x y u => x9 x y (by omega)) (fun x y u => k9 x y (by omega))
  obtain ⟨g, rfl⟩ : ∃ u, g = u + 1 := ⟨g - 1, by omega⟩
  obtain ⟨g', rfl⟩ : ∃ u, g' = u + 1 := ⟨g' - 1, by omega⟩
  obtain ⟨s1, s2, s3, s4⟩ := id R2
  obtain ⟨hc3, h3⟩ : ∃ h, h = pv_up hc2 1 12 (q : Int) := ⟨_, rfl⟩
  obtain ⟨hm3, m3⟩ : ∃ h, h = pv_up hm2 0 8 (q : Int) := ⟨_, rfl⟩
  have F3 : ∀ x y, ¬ (x = 1 ∧ (y = 10 ∨ y = 12)) → hc3 x y = hc x y := fun x y np => by rw [h3, pv_up_ne (by omega), x9 x y (by omega)]
  have G3 : ∀ x y, ¬ (x = 0 ∧ (y = 7 ∨ y = 8)) → hm3 x y = hm x y := fun x y np => by rw [m3, pv_up_ne (by omega), k9 x y (by omega)]
  have c9 : hc3 1 10 = (q : Int) := by rw [h3, pv_up_ne (by omega)]; exact x7
  have c11 : hc3 1 12 = (q : Int) := by rw [h3, pv_up_self]
  have d7 : hm3 0 7 = (q : Int) := by rw [m3, pv_up_ne (by omega)]; exact x8
  have d8 : hm3 0 8 = (q : Int) := by rw [m3, pv_up_self]
  have R3 : RBz L hc3 hm3 := R.frm (fun x y u => F3 x y (by omega)) (fun x y u => G3 x y (by omega))
  obtain ⟨t1, t2, t3, t4⟩ := id R3
  have z11 : hc3 1 1 = 0 := by rw [F3 _ _ (by omega)]; exact e11
  have z12 : hc3 1 2 = -1 := by rw [F3 _ _ (by omega)]; exact e112
  have w12 : hm3 0 12 = 0 := by rw [G3 _ _ (by omega)]; exact e12
  have eC : fX4_next N hc = if q < L then (pv_c1 (fX4_isLetter N (q : Int) hc3) fun r9 => if r9 = 0 then (pv_c1 (fX4_isDigit N (q : Int) hc3) fun r12 => if r12 = 0 then (pv_c1 (fX4_takeSign N hc3) fun h15 => fX4_next_172 N h15) else (pv_c1 (fX4_takeNumber N hc3) fun h17 => fX4_next_172 N h17)) else (fX4_next_91 N N hc3)) else some (pv_up hc3 1 11 45) := by
    unfold fX4_next
    rw [x5]
    have e52 : fX4_next_0 N (g + 1) hc2 = fX4_next_52 N hc2 := by
      rw [fX4_next_0, s2, x7]
      by_cases z : L ≤ q
      · rw [if_pos (by omega)]
      · have b := s4 q (by omega)
        have nb := x11 (by omega)
        rw [if_neg (by omega), if_pos (by omega), tnc, if_neg (fun u => nb.2 ((b.eqc (by omega) (by omega)).mp u)), if_pos (by omega), if_neg (fun u => nb.1 ((b.eqc (by omega) (by omega)).mp u))]
    rw [e52]
    unfold fX4_next_52
    rw [bbs, x7, ← h3, c9, t2]
    by_cases z : q < L
    · rw [if_pos z, if_pos (by omega)]
    · rw [if_neg z, if_neg (by omega), bbs, t172, if_neg (fun u => by have := u.1; rw [pv_up_self] at this; omega)]
  have eM : fX10_next N hm = if q < L then (if 97 ≤ hm3 4 q ∧ hm3 4 q ≤ 122 then fX10_next_89 N N hm3 else if 48 ≤ hm3 4 q ∧ hm3 4 q ≤ 57 then fX10_next_146 N N (pv_up hm3 0 11 0) else some (pv_up (pv_up hm3 0 8 ((q + 1 : Nat) : Int)) 0 10 (if hm3 4 q = 59 then 39 else if hm3 4 q = 40 then 40 else if hm3 4 q = 41 then 41 else 43))) else some (pv_up hm3 0 10 42) := by
    unfold fX10_next
    rw [bbs, e2, x6, fX10_next_8, x8, see_M s3 s1, c1s]
    have nb : ¬ (if L ≤ q then (-1 : Int) else hm2 4 q) = 10 ∧ ¬ (if L ≤ q then (-1 : Int) else hm2 4 q) = 32 := by
      by_cases z : L ≤ q
      · rw [if_pos z]; omega
      · rw [if_neg z]; exact x11 (by omega)
    rw [if_neg nb.1, c1s, if_neg nb.2, bbs, ← m3, d7, t3]
    by_cases z : q < L
    · rw [if_pos z, if_pos (by omega), see_M t3 t1, if_neg (show ¬ L ≤ q by omega), c1s, small_M, c1s]
      by_cases y : 97 ≤ hm3 4 q ∧ hm3 4 q ≤ 122
      · rw [if_neg (fun u => i10.mp u y), if_pos y]
      · rw [if_pos (i10.mpr y), if_neg y, c1s, digit_M, c1s]
        by_cases x : 48 ≤ hm3 4 q ∧ hm3 4 q ≤ 57
        · rw [if_neg (fun u => i10.mp u x), if_pos x, bbs]
        · have f8 : ∀ a b, ¬ (a = 0 ∧ b = 8) → pv_up hm3 0 8 ((q + 1 : Nat) : Int) a b = hm3 a b := fun a b np => pv_up_ne (by omega)
          have e4 : pv_up hm3 0 8 ((q + 1 : Nat) : Int) 4 q = hm3 4 q := f8 _ _ (by omega)
          have e7 : pv_up hm3 0 8 ((q + 1 : Nat) : Int) 0 7 = (q : Int) := by rw [f8 _ _ (by omega)]; exact d7
          have e9 : pv_up hm3 0 8 ((q + 1 : Nat) : Int) 0 9 = (L : Int) := by rw [f8 _ _ (by omega)]; exact t3
          rw [if_pos (i10.mpr x), if_neg x, bbs, d8, pws (by omega), e7, see_M e9 t1, if_neg (show ¬ L ≤ q by omega), e4, c1s]
          unfold fX10_next_303 fX10_next_306
          rw [bbs, bbs, bbs, bbs]
          by_cases u1 : hm3 4 q = 59
          · rw [if_pos u1, if_pos u1]
          · rw [if_neg u1, if_neg u1, c1s]
            by_cases u2 : hm3 4 q = 40
            · rw [if_pos u2, if_pos u2]
            · rw [if_neg u2, if_neg u2, c1s]
              by_cases u3 : hm3 4 q = 41
              · rw [if_pos u3, if_pos u3]
              · rw [if_neg u3, if_neg u3]
    · rw [if_neg z, if_neg (by omega), bbs]
      rfl
  rw [eC, eM]
  by_cases z : q < L
  · rw [if_pos z, if_pos z]
    have b := t4 q z
    rw [letter_C (by omega), c1s]
    by_cases y : 97 ≤ hm3 4 q ∧ hm3 4 q ≤ 122
    · -- a word
      rw [if_neg (fun u => i10.mp u ((b.rng (by omega) (by omega)).mpr y)), if_pos y]
      obtain ⟨e, hc4, hm4, y1, y2, y3, y4, y5, y6, y7, y8, y9, y10⟩ := lets_2 (N := N) (L - q) q N N hc3 hm3 (by omega) (by omega) (by omega) R3 c9 d8
      have R4 : RBz L hc4 hm4 := R3.frm (fun x y u => y7 x y (by omega)) (fun x y u => y8 x y (by omega))
      obtain ⟨v1, v2, v3, v4⟩ := id R4
      have qe := y9 z y
      have low : ∀ i, i < e - q → hc4 19 (q + i) = hm4 4 (q + i) := fun i hi => by
        have u := y10 (q + i) (by omega) (by omega)
        have u2 := v4 (q + i) (by omega)
        exact u2.low (by rw [y8 _ _ (by omega)]; omega)
      obtain ⟨K, j1, j2, j3, j4, j5⟩ := word_l (N := N) (s := q) (sz := e - q) (hc := hc4) (hm := hm4) hN (by omega) (by rw [y8 _ _ (by omega)]; exact d7) (by rw [y6]; congr 1; omega) low 37 0 N N (by omega) (by have : wsz 0 = 0 := rfl; omega) (by omega)
      rw [y3, y4]
      have c411 : hc4 1 12 = (q : Int) := by rw [y7 _ _ (by omega)]; exact c11
      have ew : pv_w ((e : Int) - (q : Int)) = ((e - q : Nat) : Int) := by rw [pv_w_id (by omega) (by omega)]; omega
      have eT : fX4_next_126 N hc4 = some (pv_up hc4 1 11 (tkz K)) := by
        unfold fX4_next_126 fX4_wordFrom
        rw [y5, c411, ew]
        have j1' : fX4_wordFrom_8 N (q : Int) ((e - q : Nat) : Int) N 0 0 0 hc4 = some (tkz K) := j1
        rw [j1', c1s, bbs, t172, if_neg (fun u => by
          have := u.1
          rw [pv_up_self] at this
          unfold tkz at this
          by_cases w : K ≤ 36
          · rw [if_pos w] at this; omega
          · rw [if_neg w] at this; omega)]
      have eK : fX10_keyAt N hm4 = some K := j2
      rw [eT, eK, c1s, bbs]
      unfold fX10_next_306
      refine ⟨q, e, _, _, rfl, rfl, ⟨R4.frm (fun x y u => pv_up_ne (by omega)) (fun x y u => pv_up_ne (by omega)), by omega, by omega, ?_, ?_, ?_, ?_, ?_, ?_, ?_, fun _ => by omega, fun w => ?_, fun w => ?_, ?_, fun _ => ⟨?_, ?_⟩, fun w => ?_⟩, x1, fun x y np => ?_, fun x y np => ?_⟩
      · rw [pv_up_ne (by omega)]; exact y5
      · rw [pv_up_ne (by omega)]; exact y6
      · rw [pv_up_ne (by omega)]; exact c411
      · rw [pv_up_ne (by omega), y8 _ _ (by omega)]; exact d7
      · rw [pv_up_self]; exact j3
      · rw [pv_up_self]; omega
      · rw [pv_up_self, pv_up_self]
      · rw [pv_up_self] at w
        have := j5 w
        omega
      · rw [pv_up_self] at w; omega
      · rw [pv_up_ne (by omega), y8 _ _ (by omega)]; exact w12
      · rw [pv_up_ne (by omega), y7 _ _ (by omega)]; exact z11
      · rw [pv_up_ne (by omega), y7 _ _ (by omega)]; exact z12
      · rw [pv_up_self] at w; omega
      · unfold RCf at np
        rw [pv_up_ne (by omega), y7 _ _ (by omega), F3 _ _ (by omega)]
      · unfold RMf at np
        rw [pv_up_ne (by omega), y8 _ _ (by omega), G3 _ _ (by omega)]
    · rw [if_pos (i10.mpr (fun u => y ((b.rng (by omega) (by omega)).mp u))), if_neg y, digit_C (by omega), c1s]
      by_cases x : 48 ≤ hm3 4 q ∧ hm3 4 q ≤ 57
      · -- a number
        rw [if_neg (fun u => i10.mp u ((b.rng (by omega) (by omega)).mpr x)), if_pos x]
        have eT : fX4_takeNumber N hc3 = fX4_takeNumber_11 N N (pv_up (pv_up hc3 1 13 0) 1 11 41) := by
          unfold fX4_takeNumber
          rw [bbs, bbs]
        have fa : ∀ a b, ¬ (a = 1 ∧ (b = 11 ∨ b = 13)) → pv_up (pv_up hc3 1 13 0) 1 11 41 a b = hc3 a b := fun a b np => by rw [pv_up_ne (by omega), pv_up_ne (by omega)]
        have fb : ∀ a b, ¬ (a = 0 ∧ b = 11) → pv_up hm3 0 11 0 a b = hm3 a b := fun a b np => pv_up_ne (by omega)
        have n0 : pv_up hm3 0 11 0 0 11 = 0 := pv_up_self _ _ _ _
        have n1 : pv_up (pv_up hc3 1 13 0) 1 11 41 1 13 = 0 := by rw [pv_up_ne (by omega), pv_up_self]
        obtain ⟨e, hc4, hm4, y1, y2, y3, y4, y5, y6, y7, y8, y9, y10, y11, y12, y13⟩ := digs_2 (N := N) (s := q) (L - q) q N N (pv_up (pv_up hc3 1 13 0) 1 11 41) (pv_up hm3 0 11 0) (by omega) (by omega) (by omega) (Nat.le_refl _) (R3.frm (fun a b u => fa a b (by omega)) (fun a b u => fb a b (by omega))) (by rw [fa _ _ (by omega)]; exact c9) (by rw [fb _ _ (by omega)]; exact d8) (by rw [fa _ _ (by omega)]; exact c11) (by rw [fb _ _ (by omega)]; exact d7) (by rw [n0, n1]) (by omega) (fun _ => n0) (fun _ => by omega) (fun _ => by omega) (by omega) (pv_up_self _ _ _ _)
        have FC : ∀ a b, ¬ (a = 1 ∧ (b = 10 ∨ b = 11 ∨ b = 12 ∨ b = 13)) → hc4 a b = hc a b := fun a b np => by rw [y11 a b (by omega), fa a b (by omega), F3 a b (by omega)]
        have GC : ∀ a b, ¬ (a = 0 ∧ (b = 7 ∨ b = 8 ∨ b = 10 ∨ b = 11)) → hm4 a b = hm a b := fun a b np => by rw [y12 a b (by omega), fb a b (by omega), G3 a b (by omega)]
        have qe := y13 z (by rw [fb _ _ (by omega)]; exact x)
        have c411 : hc4 1 12 = (q : Int) := by rw [y11 _ _ (by omega), fa _ _ (by omega)]; exact c11
        have d47 : hm4 0 7 = (q : Int) := by rw [y12 _ _ (by omega), fb _ _ (by omega)]; exact d7
        have q11 : hc4 1 1 = 0 := by rw [FC _ _ (by omega)]; exact e11
        have q12 : hc4 1 2 = -1 := by rw [FC _ _ (by omega)]; exact e112
        have R4 : RBz L hc4 hm4 := R.frm (fun a b u => FC a b (by omega)) (fun a b u => GC a b (by omega))
        rw [eT, y3, c1s, y4, t172]
        rcases y10 with ⟨u1, u2⟩ | ⟨u1, u2⟩
        · rw [if_neg (fun u => by have := u.1; omega)]
          refine ⟨q, e, _, _, rfl, rfl, ⟨R4, by omega, by omega, y5, y6, c411, d47, by omega, by omega, ?_, fun _ => by omega, fun w => by omega, fun _ => ⟨y7, y8, y9⟩, by rw [GC _ _ (by omega)]; exact e12, fun _ => ⟨q11, q12⟩, fun w => by omega⟩, x1, fun a b np => FC a b (by unfold RCf at np; omega), fun a b np => GC a b (by unfold RMf at np; omega)⟩
          rw [u1, u2]
          rfl
        · rw [if_pos ⟨u1, q11⟩]
          have fu : ∀ a b, ¬ (a = 1 ∧ (b = 1 ∨ b = 2)) → pv_up (pv_up hc4 1 1 1) 1 2 (hc4 1 12) a b = hc4 a b := fun a b np => by rw [pv_up_ne (by omega), pv_up_ne (by omega)]
          refine ⟨q, e, _, _, rfl, rfl, ⟨R4.frm (fun a b u => fu a b (by omega)) (fun _ _ _ => rfl), by omega, by omega, by rw [fu _ _ (by omega)]; exact y5, y6, by rw [fu _ _ (by omega)]; exact c411, d47, by omega, by omega, ?_, fun _ => by omega, fun w => by omega, fun w => by omega, by rw [GC _ _ (by omega)]; exact e12, fun w => absurd u2 w, fun _ => ⟨?_, ?_⟩⟩, x1, fun a b np => ?_, fun a b np => GC a b (by unfold RMf at np; omega)⟩
          · rw [fu _ _ (by omega), u1, u2]
            rfl
          · rw [pv_up_ne (by omega), pv_up_self]
          · rw [pv_up_self, c411]
          · unfold RCf at np
            rw [fu a b (by omega), FC a b (by omega)]
      · -- a sign, or none
        rw [if_pos (i10.mpr (fun u => x ((b.rng (by omega) (by omega)).mp u))), if_neg x]
        have q59 := b.eqc (c := 59) (by omega) (by omega)
        have q40 := b.eqc (c := 40) (by omega) (by omega)
        have q41 := b.eqc (c := 41) (by omega) (by omega)
        obtain ⟨k, hk⟩ : ∃ k : Int, k = if hm3 4 q = 59 then 39 else if hm3 4 q = 40 then 40 else if hm3 4 q = 41 then 41 else 43 := ⟨_, rfl⟩
        have kb : k = 39 ∨ k = 40 ∨ k = 41 ∨ k = 43 := by
          rw [hk]
          by_cases u1 : hm3 4 q = 59
          · rw [if_pos u1]; omega
          · rw [if_neg u1]
            by_cases u2 : hm3 4 q = 40
            · rw [if_pos u2]; omega
            · rw [if_neg u2]
              by_cases u3 : hm3 4 q = 41
              · rw [if_pos u3]; omega
              · rw [if_neg u3]; omega
        rw [← hk]
        have eS : fX4_takeSign N hc3 = some (pv_up (pv_up hc3 1 10 ((q + 1 : Nat) : Int)) 1 11 (k + 3)) := by
          unfold fX4_takeSign fX4_takeSign_71
          rw [c9, if_pos (by omega), tnc, bbs, bbs, pws (by omega), bbs, bbs, bbs, bbs, hk]
          by_cases u1 : hm3 4 q = 59
          · rw [if_pos (q59.mpr u1), if_pos u1]; rfl
          · rw [if_neg (fun u => u1 (q59.mp u)), if_neg u1]
            by_cases u2 : hm3 4 q = 40
            · rw [if_pos (q40.mpr u2), if_pos u2]; rfl
            · rw [if_neg (fun u => u2 (q40.mp u)), if_neg u2]
              by_cases u3 : hm3 4 q = 41
              · rw [if_pos (q41.mpr u3), if_pos u3]; rfl
              · rw [if_neg (fun u => u3 (q41.mp u)), if_neg u3]; rfl
        generalize hE : pv_up (pv_up hc3 1 10 ((q + 1 : Nat) : Int)) 1 11 (k + 3) = hc4 at eS
        have FC : ∀ a b, ¬ (a = 1 ∧ (b = 10 ∨ b = 11)) → hc4 a b = hc3 a b := fun a b np => by rw [← hE, pv_up_ne (by omega), pv_up_ne (by omega)]
        have h410 : hc4 1 11 = k + 3 := by rw [← hE, pv_up_self]
        have h49 : hc4 1 10 = ((q + 1 : Nat) : Int) := by rw [← hE, pv_up_ne (by omega), pv_up_self]
        generalize hG : pv_up (pv_up hm3 0 8 ((q + 1 : Nat) : Int)) 0 10 k = hm4
        have GC : ∀ a b, ¬ (a = 0 ∧ (b = 8 ∨ b = 10)) → hm4 a b = hm3 a b := fun a b np => by rw [← hG, pv_up_ne (by omega), pv_up_ne (by omega)]
        have m410 : hm4 0 10 = k := by rw [← hG, pv_up_self]
        have m48 : hm4 0 8 = ((q + 1 : Nat) : Int) := by rw [← hG, pv_up_ne (by omega), pv_up_self]
        have q11 : hc4 1 1 = 0 := by rw [FC _ _ (by omega)]; exact z11
        have c411 : hc4 1 12 = (q : Int) := by rw [FC _ _ (by omega)]; exact c11
        have tk4 : tkz k = k + 3 := by unfold tkz; rw [if_neg (by omega)]
        have R4 : RBz L hc4 hm4 := R3.frm (fun a b u => FC a b (by omega)) (fun a b u => GC a b (by omega))
        rw [eS, c1s, t172, h410]
        by_cases k43 : k = 43
        · rw [if_pos ⟨by omega, q11⟩]
          have fu : ∀ a b, ¬ (a = 1 ∧ (b = 1 ∨ b = 2)) → pv_up (pv_up hc4 1 1 1) 1 2 (hc4 1 12) a b = hc4 a b := fun a b np => by rw [pv_up_ne (by omega), pv_up_ne (by omega)]
          refine ⟨q, q + 1, _, _, rfl, rfl, ⟨R4.frm (fun a b u => fu a b (by omega)) (fun _ _ _ => rfl), by omega, by omega, by rw [fu _ _ (by omega)]; exact h49, m48, by rw [fu _ _ (by omega)]; exact c411, by rw [GC _ _ (by omega)]; exact d7, by omega, by omega, by rw [fu _ _ (by omega), h410, m410, tk4], fun _ => by omega, fun w => by omega, fun w => by omega, by rw [GC _ _ (by omega)]; exact w12, fun w => by omega, fun _ => ⟨?_, ?_⟩⟩, x1, fun a b np => ?_, fun a b np => ?_⟩
          · rw [pv_up_ne (by omega), pv_up_self]
          · rw [pv_up_self, c411]
          · unfold RCf at np
            rw [fu a b (by omega), FC a b (by omega), F3 a b (by omega)]
          · unfold RMf at np
            rw [GC a b (by omega), G3 a b (by omega)]
        · rw [if_neg (fun u => by have := u.1; omega)]
          refine ⟨q, q + 1, _, _, rfl, rfl, ⟨R4, by omega, by omega, h49, m48, c411, by rw [GC _ _ (by omega)]; exact d7, by omega, by omega, by rw [h410, m410, tk4], fun _ => by omega, fun w => by omega, fun w => by omega, by rw [GC _ _ (by omega)]; exact w12, fun _ => ⟨q11, by rw [FC _ _ (by omega)]; exact z12⟩, fun w => by omega⟩, x1, fun a b np => ?_, fun a b np => ?_⟩
          · unfold RCf at np
            rw [FC a b (by omega), F3 a b (by omega)]
          · unfold RMf at np
            rw [GC a b (by omega), G3 a b (by omega)]
  · -- the end
    rw [if_neg z, if_neg z]
    have qL : q = L := by omega
    refine ⟨q, q, _, _, rfl, rfl, ⟨R3.frm (fun a b u => pv_up_ne (by omega)) (fun a b u => pv_up_ne (by omega)), Nat.le_refl _, by omega, ?_, ?_, ?_, ?_, ?_, ?_, ?_, fun w => ?_, fun w => ?_, fun w => ?_, ?_, fun _ => ⟨?_, ?_⟩, fun w => ?_⟩, x1, fun a b np => ?_, fun a b np => ?_⟩
    · rw [pv_up_ne (by omega)]; exact c9
    · rw [pv_up_ne (by omega)]; exact d8
    · rw [pv_up_ne (by omega)]; exact c11
    · rw [pv_up_ne (by omega)]; exact d7
    · rw [pv_up_self]; omega
    · rw [pv_up_self]; omega
    · rw [pv_up_self, pv_up_self]; rfl
    · rw [pv_up_self] at w; omega
    · rw [pv_up_self] at w; omega
    · rw [pv_up_self] at w; omega
    · rw [pv_up_ne (by omega)]; exact w12
    · rw [pv_up_ne (by omega)]; exact z11
    · rw [pv_up_ne (by omega)]; exact z12
    · rw [pv_up_self] at w; omega
    · unfold RCf at np
      rw [pv_up_ne (by omega), F3 a b (by omega)]
    · unfold RMf at np
      rw [pv_up_ne (by omega), G3 a b (by omega)]
