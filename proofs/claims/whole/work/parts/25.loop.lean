theorem lw_and (x : Int32) : 0 ≤ (x &&& 63).toInt ∧ (x &&& 63).toInt ≤ 63 := by
  have h : (x &&& 63).toInt = ((x.toBitVec &&& 63#32).toNat : Int) := by
    have h1 : (x &&& 63).toInt = (x.toBitVec &&& 63#32).toInt := rfl
    have h2 : (x.toBitVec &&& 63#32).toNat ≤ 63 := by
      rw [BitVec.toNat_and]
      exact Nat.and_le_right
    rw [h1, BitVec.toInt_eq_toNat_of_lt (by omega)]
  have h2 : (x.toBitVec &&& 63#32).toNat ≤ 63 := by
    rw [BitVec.toNat_and]
    exact Nat.and_le_right
  omega
section LOOP
variable {S : pv_H → pv_H → Prop} {L : Nat} {xs : Nat → Int32}
theorem lw_ret0 (pc : Nat) (hd0 : decode cL_law pc = .ok (.iconst 1, 1)) (hd : decode cL_law (pc + 1) = .ok (.ireturn, 1)) {i : Nat} {hc hm : pv_H} : LV L xs pc i [] hc hm := by
  intro p l e s m below meth c b D aC ad1 ad2 H locs ls C F hS W1 W2 hl oS
  obtain ⟨hx, hb, hr, hml, hown, hts, hX, hbl, hlk, hgv⟩ := id C
  refine lv_iconst (v := 1) hx hb hd0 (by decide) ?_
  refine va_forget (fun q h => hS.2.2 q h) ?_
  exact lw_ret hx hb hr hlk hd
theorem lw_next {i : Nat} {hc hm : pv_H} (hi : i + 6 ≤ 3072) (k : LV L xs 18 (i + 6) [] hc hm) : LV L xs 2019 i [] hc hm := by
  intro p l e s m below meth c b D aC ad1 ad2 H locs ls C F hS W1 W2 hl oS
  obtain ⟨hx, hb, hr, hml, hown, hts, hX, hbl, hlk, hgv⟩ := id C
  refine lv_iinc (v := Int32.ofInt ((i + 6 : Nat) : Int)) (lv' := [(3, .int (Int32.ofInt ((i + 6 : Nat) : Int))), (0, .ref b), (1, .ref (ad1 0)), (2, .ref (ad2 0))]) hx hb dL_law_2019 hl (k := 3) rfl (by rw [← Int32.ofInt_add]; congr 1) (by decide) rfl (fun ls hl => ?_)
  refine lv_goto (tgt := 18) hx hb dL_law_2022 (by decide) ?_
  exact k p l e s m below meth c b D aC ad1 ad2 H locs ls C F hS W1 W2 (lv_sub hl [1, 2, 3, 0] rfl) oS
set_option maxHeartbeats 4000000 in
theorem lw_step (s_feed : sm_feed S) (s_text : sm_text S) (s_fault : sm_fault S) (s_rod : sm_rod S) (s_cell : sm_cell S) (s_strength : sm_strength S) (s_bent : sm_bent S) (s_go : sm_go S) (s_broke : sm_broke S) (s_piece : sm_piece S) (s_wave : sm_wave S) (s_run : sm_run S) (s_why : sm_why S) (s_film : sm_film S) (s_beyond : sm_beyond S) (s_odds : sm_odds S) (s_ends : sm_ends S) (s_paced : sm_paced S) (s_turned : sm_turned S) (s_least : sm_least S) (s_line : sm_line S) (s_notched : sm_notched S) (s_notch : sm_notch S) (s_longer : sm_longer S) (s_thinner : sm_thinner S) (s_beside : sm_beside S) (s_never : sm_never S) (s_read : sm_read S) (s_was : sm_was S) (s_found : sm_found S) (s_middle : sm_middle S) (s_filmed : sm_filmed S) (s_swapped : sm_swapped S) (s_grid : sm_grid S) (s_flies : sm_flies S) (s_row : sm_row S) (s_write : sm_write S) (s_keep : sm_keep S) (s_image : sm_image S) (s_restore : sm_restore S) (s_status : sm_status S) (s_count : sm_count S) (hLm : L ≤ 3072) {i : Nat} {hc hm : pv_H} (hi : i ≤ L) (hS0 : S hc hm) (k : i + 6 ≤ L → ∀ hc2 hm2, S hc2 hm2 → LV L xs 2019 i [] hc2 hm2) : LV L xs 18 i [] hc hm := by
  intro p l e s m below meth c b D aC ad1 ad2 H locs ls C F hS W1 W2 hl oS
  obtain ⟨hx, hb, hr, hml, hown, hts, hX, hbl, hlk, hgv⟩ := id C
  refine lv_iload_n hx hb dL_law_18 rfl (lv_at hl 3 rfl) ?_
  refine lv_aload_n hx hb dL_law_19 rfl (lv_at hl 0 rfl) ?_
  refine va_slen hx hb hX hbl (Nat.not_le.mpr hbl) hS dL_law_20 ?_
  refine lv_bipush (v := Int32.ofInt 6) hx hb dL_law_21 (by decide) ?_
  refine lv_isub hx hb dL_law_23 ?_
  have e0 : Int32.ofNat L - Int32.ofInt 6 = Int32.ofInt ((L : Int) - 6) := by rw [Int32.ofInt_sub, Int32.ofInt_eq_ofNat]
  rw [e0]
  refine lv_icmp_gt (tgt := 2025) hx hb dL_law_24 (by decide) (fun _ => ?_) (fun q => ?_)
  · exact lw_ret0 2025 dL_law_2025 dL_law_2026 p l e s m below meth c b D aC ad1 ad2 H locs ls C F hS W1 W2 hl oS
  · rw [pv_lt (by omega) (by omega) (by omega) (by omega)] at q
    have hL : i + 6 ≤ L := by omega
    have kk := k hL
    refine lv_aload_n hx hb dL_law_27 rfl (lv_at hl 0 rfl) ?_
    refine lv_iload_n hx hb dL_law_28 rfl (lv_at hl 3 rfl) ?_
    have ei : (Int32.ofInt (i : Int)).toNatClampNeg = i := by rw [pv_clamp (by omega) (by omega), Int.toNat_natCast]
    refine va_sld hx hb hX hbl (Nat.not_le.mpr hbl) hS (pv_in (by omega) (by omega) (by omega)) dL_law_29 ?_
    rw [ei]
    refine lv_bipush (v := 63) hx hb dL_law_30 (by decide) ?_
    refine lv_iand hx hb dL_law_32 ?_
    have hz := lw_and (xs i)
    generalize xs i &&& 63 = z at hz ⊢
    have go : ∀ pc, LV L xs pc i [] hc hm → W p l e room_1 s m #[Value.ref b] below meth c H locs 600000 7302250 (lw_Z below #[Value.ref b] s) (F0 m pc ls []) := fun pc h => h p l e s m below meth c b D aC ad1 ad2 H locs ls C F hS W1 W2 hl oS
    by_cases q0 : z.toInt = 0
    · refine lv_tableIn (tgt := 216) hx hb dL_law_33 (by omega) (by omega) (by rw [q0]; rfl) (by decide) ?_
      exact go _ (lc_feed hL hLm s_feed hS0 kk)
    by_cases q1 : z.toInt = 1
    · refine lv_tableIn (tgt := 279) hx hb dL_law_33 (by omega) (by omega) (by rw [q1]; rfl) (by decide) ?_
      exact go _ (lc_text hL hLm s_text hS0 kk)
    by_cases q2 : z.toInt = 2
    · refine lv_tableIn (tgt := 322) hx hb dL_law_33 (by omega) (by omega) (by rw [q2]; rfl) (by decide) ?_
      exact go _ (lc_fault hL hLm s_fault hS0 kk)
    by_cases q3 : z.toInt = 3
    · refine lv_tableIn (tgt := 345) hx hb dL_law_33 (by omega) (by omega) (by rw [q3]; rfl) (by decide) ?_
      exact go _ (lc_rod hL hLm s_rod hS0 kk)
    by_cases q4 : z.toInt = 4
    · refine lv_tableIn (tgt := 378) hx hb dL_law_33 (by omega) (by omega) (by rw [q4]; rfl) (by decide) ?_
      exact go _ (lc_cell hL hLm s_cell hS0 kk)
    by_cases q5 : z.toInt = 5
    · refine lv_tableIn (tgt := 421) hx hb dL_law_33 (by omega) (by omega) (by rw [q5]; rfl) (by decide) ?_
      exact go _ (lc_strength hL hLm s_strength hS0 kk)
    by_cases q6 : z.toInt = 6
    · refine lv_tableIn (tgt := 464) hx hb dL_law_33 (by omega) (by omega) (by rw [q6]; rfl) (by decide) ?_
      exact go _ (lc_bent hL hLm s_bent hS0 kk)
    by_cases q7 : z.toInt = 7
    · refine lv_tableIn (tgt := 523) hx hb dL_law_33 (by omega) (by omega) (by rw [q7]; rfl) (by decide) ?_
      exact go _ (lc_go hL hLm s_go hS0 kk)
    by_cases q8 : z.toInt = 8
    · refine lv_tableIn (tgt := 566) hx hb dL_law_33 (by omega) (by omega) (by rw [q8]; rfl) (by decide) ?_
      exact go _ (lc_broke hL hLm s_broke hS0 kk)
    by_cases q9 : z.toInt = 9
    · refine lv_tableIn (tgt := 599) hx hb dL_law_33 (by omega) (by omega) (by rw [q9]; rfl) (by decide) ?_
      exact go _ (lc_piece hL hLm s_piece hS0 kk)
    by_cases q10 : z.toInt = 10
    · refine lv_tableIn (tgt := 622) hx hb dL_law_33 (by omega) (by omega) (by rw [q10]; rfl) (by decide) ?_
      exact go _ (lc_wave hL hLm s_wave hS0 kk)
    by_cases q11 : z.toInt = 11
    · refine lv_tableIn (tgt := 655) hx hb dL_law_33 (by omega) (by omega) (by rw [q11]; rfl) (by decide) ?_
      exact go _ (lc_run hL hLm s_run hS0 kk)
    by_cases q12 : z.toInt = 12
    · refine lv_tableIn (tgt := 678) hx hb dL_law_33 (by omega) (by omega) (by rw [q12]; rfl) (by decide) ?_
      exact go _ (lc_why hL hLm s_why hS0 kk)
    by_cases q13 : z.toInt = 13
    · refine lv_tableIn (tgt := 691) hx hb dL_law_33 (by omega) (by omega) (by rw [q13]; rfl) (by decide) ?_
      exact go _ (lc_film hL hLm s_film hS0 kk)
    by_cases q14 : z.toInt = 14
    · refine lv_tableIn (tgt := 714) hx hb dL_law_33 (by omega) (by omega) (by rw [q14]; rfl) (by decide) ?_
      exact go _ (lc_beyond hL hLm s_beyond hS0 kk)
    by_cases q15 : z.toInt = 15
    · refine lv_tableIn (tgt := 767) hx hb dL_law_33 (by omega) (by omega) (by rw [q15]; rfl) (by decide) ?_
      exact go _ (lc_odds hL hLm s_odds hS0 kk)
    by_cases q16 : z.toInt = 16
    · refine lv_tableIn (tgt := 820) hx hb dL_law_33 (by omega) (by omega) (by rw [q16]; rfl) (by decide) ?_
      exact go _ (lc_ends hL hLm s_ends hS0 kk)
    by_cases q17 : z.toInt = 17
    · refine lv_tableIn (tgt := 873) hx hb dL_law_33 (by omega) (by omega) (by rw [q17]; rfl) (by decide) ?_
      exact go _ (lc_paced hL hLm s_paced hS0 kk)
    by_cases q18 : z.toInt = 18
    · refine lv_tableIn (tgt := 926) hx hb dL_law_33 (by omega) (by omega) (by rw [q18]; rfl) (by decide) ?_
      exact go _ (lc_turned hL hLm s_turned hS0 kk)
    by_cases q19 : z.toInt = 19
    · refine lv_tableIn (tgt := 979) hx hb dL_law_33 (by omega) (by omega) (by rw [q19]; rfl) (by decide) ?_
      exact go _ (lc_least hL hLm s_least hS0 kk)
    by_cases q20 : z.toInt = 20
    · refine lv_tableIn (tgt := 1022) hx hb dL_law_33 (by omega) (by omega) (by rw [q20]; rfl) (by decide) ?_
      exact go _ (lc_line hL hLm s_line hS0 kk)
    by_cases q21 : z.toInt = 21
    · refine lv_tableIn (tgt := 1075) hx hb dL_law_33 (by omega) (by omega) (by rw [q21]; rfl) (by decide) ?_
      exact go _ (lc_notched hL hLm s_notched hS0 kk)
    by_cases q22 : z.toInt = 22
    · refine lv_tableIn (tgt := 1138) hx hb dL_law_33 (by omega) (by omega) (by rw [q22]; rfl) (by decide) ?_
      exact go _ (lc_notch hL hLm s_notch hS0 kk)
    by_cases q23 : z.toInt = 23
    · refine lv_tableIn (tgt := 1191) hx hb dL_law_33 (by omega) (by omega) (by rw [q23]; rfl) (by decide) ?_
      exact go _ (lc_longer hL hLm s_longer hS0 kk)
    by_cases q24 : z.toInt = 24
    · refine lv_tableIn (tgt := 1244) hx hb dL_law_33 (by omega) (by omega) (by rw [q24]; rfl) (by decide) ?_
      exact go _ (lc_thinner hL hLm s_thinner hS0 kk)
    by_cases q25 : z.toInt = 25
    · refine lv_tableIn (tgt := 1297) hx hb dL_law_33 (by omega) (by omega) (by rw [q25]; rfl) (by decide) ?_
      exact go _ (lc_beside hL hLm s_beside hS0 kk)
    by_cases q26 : z.toInt = 26
    · refine lv_tableIn (tgt := 1350) hx hb dL_law_33 (by omega) (by omega) (by rw [q26]; rfl) (by decide) ?_
      exact go _ (lc_never hL hLm s_never hS0 kk)
    by_cases q27 : z.toInt = 27
    · refine lv_tableIn (tgt := 1383) hx hb dL_law_33 (by omega) (by omega) (by rw [q27]; rfl) (by decide) ?_
      exact go _ (lc_read hL hLm s_read hS0 kk)
    by_cases q28 : z.toInt = 28
    · refine lv_tableIn (tgt := 1436) hx hb dL_law_33 (by omega) (by omega) (by rw [q28]; rfl) (by decide) ?_
      exact go _ (lc_was hL hLm s_was hS0 kk)
    by_cases q29 : z.toInt = 29
    · refine lv_tableIn (tgt := 1489) hx hb dL_law_33 (by omega) (by omega) (by rw [q29]; rfl) (by decide) ?_
      exact go _ (lc_found hL hLm s_found hS0 kk)
    by_cases q30 : z.toInt = 30
    · refine lv_tableIn (tgt := 1552) hx hb dL_law_33 (by omega) (by omega) (by rw [q30]; rfl) (by decide) ?_
      exact go _ (lc_middle hL hLm s_middle hS0 kk)
    by_cases q31 : z.toInt = 31
    · refine lv_tableIn (tgt := 1605) hx hb dL_law_33 (by omega) (by omega) (by rw [q31]; rfl) (by decide) ?_
      exact go _ (lc_filmed hL hLm s_filmed hS0 kk)
    by_cases q32 : z.toInt = 32
    · refine lv_tableIn (tgt := 1668) hx hb dL_law_33 (by omega) (by omega) (by rw [q32]; rfl) (by decide) ?_
      exact go _ (lc_swapped hL hLm s_swapped hS0 kk)
    by_cases q33 : z.toInt = 33
    · refine lv_tableIn (tgt := 1711) hx hb dL_law_33 (by omega) (by omega) (by rw [q33]; rfl) (by decide) ?_
      exact go _ (lc_grid hL hLm s_grid hS0 kk)
    by_cases q34 : z.toInt = 34
    · refine lv_tableIn (tgt := 1754) hx hb dL_law_33 (by omega) (by omega) (by rw [q34]; rfl) (by decide) ?_
      exact go _ (lc_flies hL hLm s_flies hS0 kk)
    by_cases q35 : z.toInt = 35
    · refine lv_tableIn (tgt := 1777) hx hb dL_law_33 (by omega) (by omega) (by rw [q35]; rfl) (by decide) ?_
      exact go _ (lc_row hL hLm s_row hS0 kk)
    by_cases q36 : z.toInt = 36
    · refine lv_tableIn (tgt := 1820) hx hb dL_law_33 (by omega) (by omega) (by rw [q36]; rfl) (by decide) ?_
      exact go _ (lc_write hL hLm s_write hS0 kk)
    by_cases q37 : z.toInt = 37
    · refine lv_tableIn (tgt := 1894) hx hb dL_law_33 (by omega) (by omega) (by rw [q37]; rfl) (by decide) ?_
      exact go _ (lc_keep hL hLm s_keep hS0 kk)
    by_cases q38 : z.toInt = 38
    · refine lv_tableIn (tgt := 1927) hx hb dL_law_33 (by omega) (by omega) (by rw [q38]; rfl) (by decide) ?_
      exact go _ (lc_image hL hLm s_image hS0 kk)
    by_cases q39 : z.toInt = 39
    · refine lv_tableIn (tgt := 1950) hx hb dL_law_33 (by omega) (by omega) (by rw [q39]; rfl) (by decide) ?_
      exact go _ (lc_restore hL hLm s_restore hS0 kk)
    by_cases q40 : z.toInt = 40
    · refine lv_tableIn (tgt := 1973) hx hb dL_law_33 (by omega) (by omega) (by rw [q40]; rfl) (by decide) ?_
      exact go _ (lc_status hL hLm s_status hS0 kk)
    by_cases q41 : z.toInt = 41
    · refine lv_tableIn (tgt := 1996) hx hb dL_law_33 (by omega) (by omega) (by rw [q41]; rfl) (by decide) ?_
      exact go _ (lc_count hL hLm s_count hS0 kk)
    refine lv_tableOut (tgt := 2019) hx hb dL_law_33 (by omega) (by decide) ?_
    exact go _ (kk _ _ hS0)
theorem lw_loop (s_feed : sm_feed S) (s_text : sm_text S) (s_fault : sm_fault S) (s_rod : sm_rod S) (s_cell : sm_cell S) (s_strength : sm_strength S) (s_bent : sm_bent S) (s_go : sm_go S) (s_broke : sm_broke S) (s_piece : sm_piece S) (s_wave : sm_wave S) (s_run : sm_run S) (s_why : sm_why S) (s_film : sm_film S) (s_beyond : sm_beyond S) (s_odds : sm_odds S) (s_ends : sm_ends S) (s_paced : sm_paced S) (s_turned : sm_turned S) (s_least : sm_least S) (s_line : sm_line S) (s_notched : sm_notched S) (s_notch : sm_notch S) (s_longer : sm_longer S) (s_thinner : sm_thinner S) (s_beside : sm_beside S) (s_never : sm_never S) (s_read : sm_read S) (s_was : sm_was S) (s_found : sm_found S) (s_middle : sm_middle S) (s_filmed : sm_filmed S) (s_swapped : sm_swapped S) (s_grid : sm_grid S) (s_flies : sm_flies S) (s_row : sm_row S) (s_write : sm_write S) (s_keep : sm_keep S) (s_image : sm_image S) (s_restore : sm_restore S) (s_status : sm_status S) (s_count : sm_count S) (hLm : L ≤ 3072) : ∀ (n i : Nat) (hc hm : pv_H), i ≤ L → L < i + 6 * n → S hc hm → LV L xs 18 i [] hc hm := by
  intro n
  induction n with
  | zero => intro i hc hm h1 h2; omega
  | succ n ih =>
    intro i hc hm h1 h2 hS
    refine lw_step s_feed s_text s_fault s_rod s_cell s_strength s_bent s_go s_broke s_piece s_wave s_run s_why s_film s_beyond s_odds s_ends s_paced s_turned s_least s_line s_notched s_notch s_longer s_thinner s_beside s_never s_read s_was s_found s_middle s_filmed s_swapped s_grid s_flies s_row s_write s_keep s_image s_restore s_status s_count hLm h1 hS (fun hL hc2 hm2 hS2 => ?_)
    exact lw_next (by omega) (ih (i + 6) hc2 hm2 hL (by omega) hS2)
end LOOP
