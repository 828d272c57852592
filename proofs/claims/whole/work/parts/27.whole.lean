/-- a constructor of one picture, which grows; the other stays -/
theorem pv_twoI {p : Program} {l : Launch} {e : Env} {s : State} {m : MethodId} {args : Array Value} {below : List Frame} {meth : Method} {c : Code} {H : Heap} {locs : List Loc} {cells slots : Nat} {Q : State → Prop} {cc : ByteArray} {own : String} {nL : Nat} {D : va_G} {aC : Nat → ClassId} {ad1 ad2 : Nat → Nat} {sh1 sh1' sh2 : pv_Sh} {h1 h1' h2 : pv_H} {A : Nat → Prop} {y : MethodName} {bytes : ByteArray} {mL idx pc : Nat} {rest : List Value} {ls : Array Slot}
    (hx : p.tables.exec = Jvm.exec) (hb : c.code = cc) (hml : c.maxLocals = nL) (hown : s.vm.findClass own = some m.cls) (hts : ∀ w ∈ pv_W, w.before args s = true) (hA : ∀ q, s.heap.size ≤ q → A q) (hK : va_K D vwCl (pv_tys aC) s) (hSt : pv_St ad1 A s s.heap) (hS : va_S A s.heap H locs) (W1 : lw_W D aC ad1 sh1 h1 A H) (W2 : lw_W D aC ad2 sh2 h2 A H) (hap : ∀ i j, i < sh1.length → j < sh2.length → ad1 i ≠ ad2 j) (hl0 : 0 < sh1.length)
    (hd : decode cc pc = .ok (.invokespecial idx, 3)) (hm : pv_MD y bytes mL none 0) (hl1 : Cond.methodLink own idx y ∈ pv_W) (hl2 : Cond.instanceMethod y ∈ pv_W) (hy : y.name = "<init>") (hM : CALL y bytes mL none 1000 sh1 h1 [.inr (.inr 0)] sh1' h1' none) (hc : cells + (sh1'.length - sh1.length) ≤ 600000) (hs : slots + (pv_sl sh1' - pv_sl sh1) ≤ 7302250) (hcat : (rest.map fun v => v.category).sum ≤ 8) (hls : ls.size = nL)
    (kk : ∀ (ad1' : Nat → Nat) (H1 : Heap) (locs1 : List Loc), pv_ag ad1 ad1' sh1.length → va_S A s.heap H1 locs1 → lw_W D aC ad1' sh1' h1' A H1 → lw_W D aC ad2 sh2 h2 A H1 → (∀ i j, i < sh1'.length → j < sh2.length → ad1' i ≠ ad2 j) → W p l e room_1 s m args below meth c H1 locs1 (cells + (sh1'.length - sh1.length)) (slots + (pv_sl sh1' - pv_sl sh1)) Q (F0 m (pc + 3) ls rest)) : W p l e room_1 s m args below meth c H locs cells slots Q (F0 m pc ls (.ref (ad1 0) :: rest)) := by
  obtain ⟨hP1, hD1, o1⟩ := W1
  obtain ⟨hP2, hD2, o2⟩ := W2
  have oA' : ∀ v ∈ ([.inr (.inr 0)] : List pv_V), pv_ok sh1.length v := List.forall_mem_cons.mpr ⟨Or.inl hl0, fun _ h => by cases h⟩
  have hMet : Met l y (Cond.code y bytes mL none :: pv_W) (pv_rm 1000 (sh1'.length - sh1.length) (pv_sl sh1' - pv_sl sh1)) (pv_Pc D aC ad1 H.size sh1 h1 [.inr (.inr 0)]) (pv_Q D aC ad1 sh1.length sh1' h1' none (va_A (pv_ws aC ad1 sh1 h1) H.size)) (sh1'.length - sh1.length) (pv_sl sh1' - pv_sl sh1) (va_A (pv_ws aC ad1 sh1 h1) H.size) := hM.2 l D aC ad1 H.size
  have hR : (pv_rm 1000 (sh1'.length - sh1.length) (pv_sl sh1' - pv_sl sh1)).frames + 1 ≤ room_1.frames ∧ 8 + (mL + 11) + (pv_rm 1000 (sh1'.length - sh1.length) (pv_sl sh1' - pv_sl sh1)).locals ≤ room_1.locals := by
    refine ⟨Nat.le_of_ble_eq_true rfl, ?_⟩
    have := hm.2.2.2
    show 8 + (mL + 11) + 64 * 1000 ≤ 84000
    omega
  have cb := callB_of (R := room_1) 0 hts (pv_GI hm) rfl (rfl : (pv_rm 1000 (sh1'.length - sh1.length) (pv_sl sh1' - pv_sl sh1)).cells = _) (rfl : (pv_rm 1000 (sh1'.length - sh1.length) (pv_sl sh1' - pv_sl sh1)).slots = _) (hts _ hm.2.1) (hts _ hl1) hm.2.2.1 hR
  have hr := va_runI (l := l) (below := below) (meth := meth) (e := e) (H := H) (locs := locs) (cells := cells) (slots := slots) (b := ad1 0) (As := []) (rest := rest) (g := F0 m pc ls (.ref (ad1 0) :: rest)) ⟨hx, hb, hml, hown, hts⟩ hMet ⟨cb, hy, hts _ hl2⟩ ⟨pv_blind, fun U hU hW => pv_pre (as := [.inr (.inr 0)]) hP1 hK hD1 o1 hSt hS hA oA' hU hW⟩ rfl rfl hls rfl (lv_room hcat) hd ⟨hc, hs⟩
  refine pv_callF hr hS (fun q _ z => pv_free hD1 hS hA q z) (fun q z => pv_free hD1 hS hA q z) ?_
  intro ad' t H1 locs1 ht hvm g1 g2 ⟨zP, zK, zD, zo⟩ hz hk hS1
  rw [ht] at zP
  have key : ∀ i j, i < sh1'.length → j < sh2.length → ad' i ≠ ad2 j := by
    intro i j hi hj he
    have ei : sh1'[i]? = some (sh1'.getD i (0, 0)) := by rw [List.getD_eq_getElem?_getD, List.getElem?_eq_getElem hi]; rfl
    have ej : sh2[j]? = some (sh2.getD j (0, 0)) := by rw [List.getD_eq_getElem?_getD, List.getElem?_eq_getElem hj]; rfl
    have a1 : va_A (pv_ws aC ad1 sh1 h1) H.size (ad' i) := zD.2 i _ (pv_ws_at ei)
    have a2 := (hP2 j _ (pv_ws_at ej)).lt
    have a2 : ad2 j < H.size := a2
    rcases a1 with ⟨k, e2, hk2⟩ | hk2
    · obtain ⟨k1, k2⟩ := pv_ws_mem hk2
      exact hap k j k1 hj (k2.symm.trans he)
    · omega
  refine kk ad' H1 locs1 g1 hS1 ⟨zP, zD.weaken (fun k q _ z => pv_free hD1 hS hA q.1 z), zo⟩ ⟨hP2.kept (fun k q hq => ?_), hD2, o2⟩ key
  obtain ⟨k1, k2⟩ := pv_ws_mem hq
  refine hk q.1 (hP2 k q hq).lt ?_
  rintro (⟨j, e2, hj⟩ | hj)
  · obtain ⟨j1, j2⟩ := pv_ws_mem hj
    exact hap j k j1 k1 (j2.symm.trans k2)
  · have := (hP2 k q hq).lt
    omega
theorem lw_nil {D : va_G} {aC : Nat → ClassId} {ad : Nat → Nat} {h : pv_H} {A : Nat → Prop} {H : Heap} : lw_W D aC ad [] h A H := ⟨fun k q hq => by simp [pv_ws] at hq, ⟨fun i j a b hq => by simp [pv_ws] at hq, fun k q hq => by simp [pv_ws] at hq⟩, fun i q hq => by simp at hq⟩
/-- a new object with a picture of its own beside another -/
theorem lw_born {D : va_G} {aC : Nat → ClassId} {ad0 ad2 : Nat → Nat} {sh2 : pv_Sh} {h2 : pv_H} {A : Nat → Prop} {H1 : Heap} {ci q : Nat} (hci : ci < 11)
    (hP : va_P D vwCl (pv_ws aC ad2 sh2 h2 ++ [(q, .inr (ci, pv_fs ad0 ci (pv_nr ci)))]) H1) (hD : va_D A (pv_ws aC ad2 sh2 h2 ++ [(q, .inr (ci, pv_fs ad0 ci (pv_nr ci)))])) (o2 : pv_oH sh2 h2) : lw_W D aC (pv_an ad0 0 q) [(0, ci)] (pv_ur (fun _ _ => 0) 0 (pv_nr ci)) A H1 ∧ lw_W D aC ad2 sh2 h2 A H1 ∧ ∀ i j, i < ([(0, ci)] : pv_Sh).length → j < sh2.length → pv_an ad0 0 q i ≠ ad2 j := by
  have ef : pv_fs ad0 ci (pv_nr ci) = pv_fs (pv_an ad0 0 q) ci (pv_nr ci) := by
    unfold pv_fs
    apply List.map_congr_left
    intro j _
    exact ((pv_an_ag (n := 0) (by decide)).sv (pv_nr_os ci j)).symm
  have ew : pv_ws aC (pv_an ad0 0 q) [(0, ci)] (pv_ur (fun _ _ => 0) 0 (pv_nr ci)) = [(q, .inr (ci, pv_fs ad0 ci (pv_nr ci)))] := by
    rw [ef]
    show [(pv_an ad0 0 q 0, pv_ce aC (pv_an ad0 0 q) (0, ci) (pv_ur (fun _ _ => 0) 0 (pv_nr ci) 0))] = _
    rw [pv_ur_self]
    rfl
  have hq : (pv_ws aC ad2 sh2 h2 ++ [(q, Sum.inr (ci, pv_fs ad0 ci (pv_nr ci)))])[(pv_ws aC ad2 sh2 h2).length]? = some (q, Sum.inr (ci, pv_fs ad0 ci (pv_nr ci))) := by
    rw [List.getElem?_append_right (Nat.le_refl _), Nat.sub_self]
    rfl
  have hj : ∀ (j : Nat) (x : Nat × va_E), (pv_ws aC ad2 sh2 h2)[j]? = some x → (pv_ws aC ad2 sh2 h2 ++ [(q, Sum.inr (ci, pv_fs ad0 ci (pv_nr ci)))])[j]? = some x := fun j x h => by
    rw [List.getElem?_append_left (List.getElem?_eq_some_iff.mp h).1]
    exact h
  refine ⟨⟨?_, ?_, ?_⟩, ⟨fun k x h => hP k x (hj k x h), ⟨fun i j a b h1 h2 e => hD.1 i j a b (hj i a h1) (hj j b h2) e, fun k x h => hD.2 k x (hj k x h)⟩, o2⟩, ?_⟩
  · rw [ew]
    intro k x hk
    have hk0 : k < 1 := (List.getElem?_eq_some_iff.mp hk).1
    have hk0 : k = 0 := by omega
    subst hk0
    cases hk
    exact hP _ _ hq
  · rw [ew]
    refine ⟨fun i j a b h1 h2 _ => ?_, fun k x hk => ?_⟩
    · have h1 : i < 1 := (List.getElem?_eq_some_iff.mp h1).1
      have h2 : j < 1 := (List.getElem?_eq_some_iff.mp h2).1
      omega
    · have hk0 : k < 1 := (List.getElem?_eq_some_iff.mp hk).1
      have hk0 : k = 0 := by omega
      subst hk0
      cases hk
      exact hD.2 _ _ hq
  · intro i sq hi k
    have hi0 : i < 1 := (List.getElem?_eq_some_iff.mp hi).1
    have hi0 : i = 0 := by omega
    subst hi0
    cases hi
    rw [pv_ur_self]
    exact pv_nr_os ci k
  · intro i j hi hjl he
    have hi0 : i = 0 := by simp at hi; omega
    subst hi0
    have ej : sh2[j]? = some (sh2.getD j (0, 0)) := by rw [List.getD_eq_getElem?_getD, List.getElem?_eq_getElem hjl]; rfl
    have e1 : pv_an ad0 0 q 0 = q := by simp [pv_an]
    rw [e1] at he
    have hidx := hD.1 _ _ _ _ hq (hj j _ (pv_ws_at ej)) he
    have : (pv_ws aC ad2 sh2 h2).length = sh2.length := pv_ws_len
    omega
theorem pv_sv2 {ad : Nat → Nat} {x : Int} : pv_sv ad 2 x = if x < 0 then .null else .ref (ad x.toNat) := rfl
theorem pv_ce_congr {aC : Nat → ClassId} {ad ad' : Nat → Nat} {q : Nat × Nat} {F G : Nat → Int} (h : ∀ k, pv_sv ad' (pv_kd q k) (F k) = pv_sv ad (pv_kd q k) (G k)) : pv_ce aC ad' q F = pv_ce aC ad q G := by
  obtain ⟨a, b⟩ := q
  have rf : (∀ k, pv_sv ad' 2 (F k) = pv_sv ad 2 (G k)) → (fun k => if F k < 0 then none else some (ad' (F k).toNat)) = (fun k => if G k < 0 then none else some (ad (G k).toNat)) := by
    intro h
    funext k
    have h := h k
    rw [pv_sv2, pv_sv2] at h
    by_cases h1 : F k < 0
    · by_cases h2 : G k < 0
      · rw [if_pos h1, if_pos h2]
      · rw [if_pos h1, if_neg h2] at h
        cases h
    · by_cases h2 : G k < 0
      · rw [if_neg h1, if_pos h2] at h
        cases h
      · rw [if_neg h1, if_neg h2] at h
        rw [if_neg h1, if_neg h2]
        injection h with e
        rw [e]
  have it : (∀ k, pv_sv ad' 0 (F k) = pv_sv ad 0 (G k)) → (fun k => Int32.ofInt (F k)) = (fun k => Int32.ofInt (G k)) := by
    intro h
    funext k
    have h : Value.int (Int32.ofInt (F k)) = Value.int (Int32.ofInt (G k)) := h k
    injection h
  have lg : (∀ k, pv_sv ad' 1 (F k) = pv_sv ad 1 (G k)) → (fun k => Int64.ofInt (F k)) = (fun k => Int64.ofInt (G k)) := by
    intro h
    funext k
    have h : Value.long (Int64.ofInt (F k)) = Value.long (Int64.ofInt (G k)) := h k
    injection h
  match a, h with
  | 0, h =>
    simp only [pv_ce]
    congr 2
    apply List.map_congr_left
    intro k _
    exact h k
  | 1, h =>
    simp only [pv_ce]
    rw [it h]
  | 2, h =>
    simp only [pv_ce]
    rw [lg h]
  | 3, h =>
    simp only [pv_ce]
    rw [it h]
  | 4, h =>
    simp only [pv_ce]
    rw [it h]
  | 5, h =>
    simp only [pv_ce]
    rw [rf h]
  | 6, h =>
    simp only [pv_ce]
    rw [rf h]
  | 7, h =>
    simp only [pv_ce]
    rw [rf h]
  | 8, h =>
    simp only [pv_ce]
    rw [rf h]
  | 9, h =>
    simp only [pv_ce]
    rw [it h]
  | a + 10, h =>
    simp only [pv_ce]
    rw [rf h]
theorem pv_kd_le (q : Nat × Nat) (k : Nat) : pv_kd q k = 0 ∨ pv_kd q k = 1 ∨ pv_kd q k = 2 := by
  obtain ⟨a, b⟩ := q
  match a with
  | 0 =>
    have := pv_fk_le (pv_ty b k)
    have h : pv_kd (0, b) k = pv_fk (pv_ty b k) := rfl
    omega
  | 1 => exact Or.inl rfl
  | 2 => exact Or.inr (Or.inl rfl)
  | 3 => exact Or.inl rfl
  | 4 => exact Or.inl rfl
  | 5 => exact Or.inr (Or.inr rfl)
  | 6 => exact Or.inr (Or.inr rfl)
  | 7 => exact Or.inr (Or.inr rfl)
  | 8 => exact Or.inr (Or.inr rfl)
  | 9 => exact Or.inl rfl
  | a + 10 => exact Or.inr (Or.inr rfl)
/-- the same cells under other numbers: what was f i is i -/
def pv_pa (ad f : Nat → Nat) : Nat → Nat := fun i => if pv_SB ≤ i then ad i else ad (f i)
theorem pv_pa_ag {ad f : Nat → Nat} : pv_ag ad (pv_pa ad f) 0 := by
  intro i hi
  rcases hi with z | z
  · omega
  · exact if_pos z
theorem lw_W.perm {D : va_G} {aC : Nat → ClassId} {ad f g : Nat → Nat} {sh1 sh2 : pv_Sh} {h1 : pv_H} {A : Nat → Prop} {H : Heap} (hb : sh1.length ≤ pv_SB) (hl : sh2.length = sh1.length) (hf : ∀ i, i < sh1.length → f i < sh1.length ∧ g (f i) = i ∧ sh2.getD i (0, 0) = sh1.getD (f i) (0, 0)) (hg : ∀ i, i < sh1.length → g i < sh1.length ∧ f (g i) = i) (W1 : lw_W D aC ad sh1 h1 A H) : lw_W D aC (pv_pa ad f) sh2 (pv_ph sh2 f g h1) A H := by
  obtain ⟨hP, hD, o⟩ := W1
  have gd : ∀ {sh : pv_Sh} {i : Nat}, i < sh.length → sh[i]? = some (sh.getD i (0, 0)) := by
    intro sh i hi
    rw [List.getD_eq_getElem?_getD, List.getElem?_eq_getElem hi]
    rfl
  have key : ∀ (k : Nat) (q : Nat × va_E), (pv_ws aC (pv_pa ad f) sh2 (pv_ph sh2 f g h1))[k]? = some q → (pv_ws aC ad sh1 h1)[f k]? = some q := by
    intro k q hq
    have hk : k < sh2.length := (pv_ws_mem hq).1
    have hk1 : k < sh1.length := by omega
    obtain ⟨f1, f2, f3⟩ := hf k hk1
    have e2 := gd hk
    have e1 := gd f1
    rw [pv_ws_at e2] at hq
    rw [pv_ws_at e1, ← f3, ← hq]
    have ea : pv_pa ad f k = ad (f k) := if_neg (by omega)
    rw [ea]
    congr 2
    refine (pv_ce_congr (fun z => ?_)).symm
    have ob := o (f k) _ e1 z
    rw [← f3] at ob
    unfold pv_ph
    by_cases hz : pv_kd (sh2.getD k (0, 0)) z = 2
    · rw [if_pos hz, hz]
      rw [hz] at ob
      have ob : h1 (f k) z < (sh1.length : Int) := ob
      by_cases hn : h1 (f k) z < 0
      · rw [if_pos hn]
        rw [pv_sv2, pv_sv2]
        rw [if_pos hn, if_pos (by decide)]
      · rw [if_neg hn]
        rw [pv_sv2, pv_sv2]
        rw [if_neg hn, if_neg (by omega), Int.toNat_natCast]
        obtain ⟨g1, g2⟩ := hg (h1 (f k) z).toNat (by omega)
        have eb : pv_pa ad f (g (h1 (f k) z).toNat) = ad (f (g (h1 (f k) z).toNat)) := if_neg (by omega)
        rw [eb, g2]
    · rw [if_neg hz]
      rcases pv_kd_le (sh2.getD k (0, 0)) z with e | e | e
      · rw [e]; rfl
      · rw [e]; rfl
      · exact absurd e hz
  refine ⟨hP.by f key, hD.by f key (fun i j hi hj e => ?_), fun i q hq k => ?_⟩
  · rw [pv_ws_len, hl] at hi hj
    rw [← (hf i hi).2.1, ← (hf j hj).2.1, e]
  · have hi : i < sh2.length := (List.getElem?_eq_some_iff.mp hq).1
    have hi1 : i < sh1.length := by omega
    obtain ⟨f1, f2, f3⟩ := hf i hi1
    have e2 := gd hi
    rw [hq] at e2
    have e2 : q = sh2.getD i (0, 0) := Option.some.inj e2
    have ob := o (f i) _ (gd f1) k
    rw [← f3, ← e2] at ob
    rw [hl]
    unfold pv_ph
    rw [← e2]
    by_cases hz : pv_kd q k = 2
    · rw [if_pos hz, hz]
      rw [hz] at ob
      have ob : h1 (f i) k < (sh1.length : Int) := ob
      by_cases hn : h1 (f i) k < 0
      · rw [if_pos hn]
        show (-1 : Int) < _
        omega
      · rw [if_neg hn]
        obtain ⟨g1, g2⟩ := hg (h1 (f i) k).toNat (by omega)
        show ((g (h1 (f i) k).toNat : Nat) : Int) < _
        omega
    · rw [if_neg hz]
      exact ob
theorem lw_pf : ∀ i, i < pv_sc.length → pv_pf i < pv_sc.length ∧ pv_pg (pv_pf i) = i ∧ pv_SC.getD i (0, 0) = pv_sc.getD (pv_pf i) (0, 0) := by decide +kernel
theorem lw_pg : ∀ i, i < pv_sc.length → pv_pg i < pv_sc.length ∧ pv_pf (pv_pg i) = i := by decide +kernel
set_option maxHeartbeats 4000000 in
set_option maxRecDepth 20000 in
theorem whole_start0 {S : pv_H → pv_H → Prop} (s0 : S hC_fin hM_fin) (s_feed : sm_feed S) (s_text : sm_text S) (s_fault : sm_fault S) (s_rod : sm_rod S) (s_cell : sm_cell S) (s_strength : sm_strength S) (s_bent : sm_bent S) (s_go : sm_go S) (s_broke : sm_broke S) (s_piece : sm_piece S) (s_wave : sm_wave S) (s_run : sm_run S) (s_why : sm_why S) (s_film : sm_film S) (s_beyond : sm_beyond S) (s_odds : sm_odds S) (s_ends : sm_ends S) (s_paced : sm_paced S) (s_turned : sm_turned S) (s_least : sm_least S) (s_line : sm_line S) (s_notched : sm_notched S) (s_notch : sm_notch S) (s_longer : sm_longer S) (s_thinner : sm_thinner S) (s_beside : sm_beside S) (s_never : sm_never S) (s_read : sm_read S) (s_was : sm_was S) (s_found : sm_found S) (s_middle : sm_middle S) (s_filmed : sm_filmed S) (s_swapped : sm_swapped S) (s_grid : sm_grid S) (s_flies : sm_flies S) (s_row : sm_row S) (s_write : sm_write S) (s_keep : sm_keep S) (s_image : sm_image S) (s_restore : sm_restore S) (s_status : sm_status S) (s_count : sm_count S) {p : Program} {e : Env} {s : State} {m : MethodId} {below : List Frame} {meth : Method} {c : Code} (l : Launch) {b L : Nat} {xs : Nat → Int32} (hL : L ≤ 3072) (C0 : lw_At p s m meth c b L xs) : W p l e room_1 s m #[Value.ref b] below meth c s.heap [] 0 0 (lw_Z below #[Value.ref b] s) (entryFrame m ([Value.ref b] : List Value).toArray 4) := by
  obtain ⟨hx, hb, hr, hml, hown, hts, hX, hbl, hlocks, hgv⟩ := id C0
  have hA : ∀ q : Nat, s.heap.size ≤ q → (fun q : Nat => s.heap.size ≤ q) q := fun _ h => h
  have hW : ∀ w ∈ pv_W, w.before #[Value.ref b] s = true := lw_hts C0
  obtain ⟨ad, hSt⟩ := lw_stat (A := fun q : Nat => s.heap.size ≤ q) hgv hts (fun a h => Nat.not_le.mpr h)
  obtain ⟨D, aC, hK⟩ := lw_known hts
  have hS : va_S (fun q : Nat => s.heap.size ≤ q) s.heap s.heap [] := va_S.rf
  have hl := lv_entry ([.ref b]) (n := 4) (Nat.le_of_ble_eq_true rfl)
  rw [lg_entry_eq]
  generalize (lg_sl ([.ref b]) ++ List.replicate (4 - (lg_sl ([.ref b])).length) Slot.unset).toArray = ls at hl ⊢
  have hl : lv_has ls 4 [(0, .ref b)] := hl
  have N0 : lw_W D aC ad [] hC_0 (fun q : Nat => s.heap.size ≤ q) s.heap := lw_nil
  refine va_new (ci := 9) (fs := pv_fs ad 9 (pv_nr 9)) hx hb hW (pv_iw 9 (by decide)) (pv_ty 9) (pv_tyok 9 (by decide)) hown (hts (.classLink RL 7 RX9) (pv_m1 (i := 19) rfl)) (hW _ in_X9) (hW _ ii_X9) hK N0.1 N0.2.1 hS hA (pv_cl 9 (by decide)) (fun j hj => by rw [vp_V, List.getD_eq_getElem?_getD, pv_fs_at hj]; exact pv_def _ (pv_tys_ok 9 (by decide) j hj)) (Nat.le_of_ble_eq_true rfl) (Nat.le_of_ble_eq_true rfl) dL_law_0 (fun q1 H hP hD hS => ?_)
  obtain ⟨Z1, -, -⟩ := lw_born (by decide) hP hD N0.2.2
  have g1 : pv_ag ad (pv_an ad 0 q1) 0 := pv_an_ag (by decide)
  have hSt1 := hSt.ag g1
  have e1 : pv_an ad 0 q1 0 = q1 := by simp [pv_an]
  refine lv_dup hx hb dL_law_3 rfl ?_
  have Z2 : lw_W D aC ad [] hC_0 (fun q : Nat => s.heap.size ≤ q) H := lw_nil
  have k1 := pv_twoI (e := e) (l := l) (below := below) (meth := meth) (sh2 := []) (Q := lw_Z below #[Value.ref b] s) (ls := ls) (cells := 0 + 1) (slots := 0 + pv_nf 9) (rest := [.ref q1]) hx hb hml hown hW hA hK hSt1 hS Z1 Z2 (fun i j _ hj => by simp at hj) (by decide) dL_law_4 md_X9_init ml_L_9 im_X9_init rfl (ct_hC_0 (d := 1000) (by decide)) (by decide +kernel) (by decide +kernel) (Nat.le_of_ble_eq_true rfl) hl.1 (fun ad1 H locs1 ga hS W1 _ _ => ?_)
  · rw [e1] at k1
    exact k1
  have ea : pv_pa ad1 pv_pf 0 = q1 := by
    have e3 : pv_pa ad1 pv_pf 0 = ad1 0 := rfl
    rw [e3]
    exact (ga 0 (Or.inl (by decide))).trans e1
  have hSt1 := (hSt1.ag ga).ag (pv_pa_ag (f := pv_pf))
  have ec : pv_sc.take 225 = pv_sc := by decide +kernel
  rw [ec] at W1
  have W1 : lw_W D aC (pv_pa ad1 pv_pf) pv_SC hC_fin (fun q : Nat => s.heap.size ≤ q) _ := lw_W.perm (f := pv_pf) (g := pv_pg) (sh2 := pv_SC) (by decide +kernel) (by decide +kernel) lw_pf lw_pg W1
  generalize pv_pa ad1 pv_pf = ad1 at ea hSt1 W1
  refine lv_astore_n (lv' := [(1, .ref q1), (0, .ref b)]) hx hb dL_law_7 rfl hl (by decide) rfl (fun ls hl => ?_)
  refine va_new (ci := 10) (fs := pv_fs ad 10 (pv_nr 10)) hx hb hW (pv_iw 10 (by decide)) (pv_ty 10) (pv_tyok 10 (by decide)) hown (hts (.classLink RL 10 RX10) (pv_m5 (i := 67) rfl)) (hW _ in_X10) (hW _ ii_X10) hK W1.1 W1.2.1 hS hA (pv_cl 10 (by decide)) (fun j hj => by rw [vp_V, List.getD_eq_getElem?_getD, pv_fs_at hj]; exact pv_def _ (pv_tys_ok 10 (by decide) j hj)) (by decide +kernel) (by decide +kernel) dL_law_8 (fun q2 H hP hD hS => ?_)
  obtain ⟨Y1, Y2, hap⟩ := lw_born (by decide) hP hD W1.2.2
  have g2 : pv_ag ad (pv_an ad 0 q2) 0 := pv_an_ag (by decide)
  have hSt2 := hSt.ag g2
  have e2 : pv_an ad 0 q2 0 = q2 := by simp [pv_an]
  refine lv_dup hx hb dL_law_11 rfl ?_
  have k2 := pv_twoI (e := e) (l := l) (below := below) (meth := meth) (Q := lw_Z below #[Value.ref b] s) (ls := ls) (cells := 0 + 1 + ((pv_sc.take 225).length - (pv_sc.take 1).length) + 1) (slots := 0 + pv_nf 9 + (pv_sl (pv_sc.take 225) - pv_sl (pv_sc.take 1)) + pv_nf 10) (rest := [.ref q2]) hx hb hml hown hW hA hK hSt2 hS Y1 Y2 hap (by decide) dL_law_12 md_X10_init ml_L_12 im_X10_init rfl (ct_hM_0 (d := 1000) (by decide)) (by decide +kernel) (by decide +kernel) (Nat.le_of_ble_eq_true rfl) hl.1 (fun ad2 H locs2 gb hS W2 W1 hap => ?_)
  · rw [e2] at k2
    exact k2
  have eb : ad2 0 = q2 := (gb 0 (Or.inl (by decide))).trans e2
  have hSt2 := hSt2.ag gb
  have ed : pv_sm.take 36 = pv_SM := by decide +kernel
  rw [ed] at W2 hap
  refine lv_astore_n (lv' := [(2, .ref q2), (1, .ref q1), (0, .ref b)]) hx hb dL_law_15 rfl hl (by decide) rfl (fun ls hl => ?_)
  refine lv_iconst (v := 0) hx hb dL_law_16 (by decide) ?_
  refine lv_istore_n (lv' := [(3, .int 0), (2, .ref q2), (1, .ref q1), (0, .ref b)]) hx hb dL_law_17 rfl hl (by decide) rfl (fun ls hl => ?_)
  refine W.widen (k := 600000) (n := 7302250) (by decide +kernel) (by decide +kernel) ?_
  have eM : MC hC_fin = hC_fin := pv_mx_self
  rw [← eM] at W1
  have hl : lv_has ls 4 [(0, .ref b), (1, .ref (ad1 0)), (2, .ref (ad2 0)), (3, .int (Int32.ofInt ((0 : Nat) : Int)))] := by
    rw [ea, eb]
    exact lv_sub hl [3, 2, 1, 0] rfl
  exact lw_loop s_feed s_text s_fault s_rod s_cell s_strength s_bent s_go s_broke s_piece s_wave s_run s_why s_film s_beyond s_odds s_ends s_paced s_turned s_least s_line s_notched s_notch s_longer s_thinner s_beside s_never s_read s_was s_found s_middle s_filmed s_swapped s_grid s_flies s_row s_write s_keep s_image s_restore s_status s_count hL (L + 1) 0 hC_fin hM_fin (Nat.zero_le L) (by omega) s0 p l e s m below meth c b D aC ad1 ad2 H locs2 ls C0 ⟨hK, hSt1, hSt2, fun i j hi hj z => hap j i hj hi z.symm⟩ hS W1 W2 hl (fun v hv => by cases hv)
