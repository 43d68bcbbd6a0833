/-- what is owed of the pure part: each call of the class, then of the reference, answer alike and keep Iv -/
def Alike41 (Iv Iw : Mm → Prop) : Prop := (∀ (w0 w1 w2 w3 : Int32) (mem : Mm), Iv mem → W_X8_man w0 w1 w2 w3 mem (fun v m => W_X9_man w0 w1 w2 w3 m (fun v2 m2 => v = v2 ∧ Iw m2))) ∧ (∀ (w0 w1 : Int32) (mem : Mm), Iv mem → W_X8_told w0 w1 mem (fun v m => W_X9_told w0 w1 m (fun v2 m2 => v = v2 ∧ Iw m2))) ∧ (∀ (w0 w1 : Int32) (mem : Mm), Iv mem → W_X8_bears w0 w1 mem (fun v m => W_X9_bears w0 w1 m (fun v2 m2 => v = v2 ∧ Iw m2))) ∧ (∀ (w0 w1 : Int32) (mem : Mm), Iv mem → W_X8_as w0 w1 mem (fun v m => W_X9_as w0 w1 m (fun v2 m2 => v = v2 ∧ Iw m2))) ∧ (∀ (w0 w1 : Int32) (mem : Mm), Iv mem → W_X8_turns w0 w1 mem (fun v m => W_X9_turns w0 w1 m (fun v2 m2 => v = v2 ∧ Iw m2))) ∧ (∀ (w0 w1 w2 : Int32) (mem : Mm), Iv mem → W_X8_set w0 w1 w2 mem (fun v m => W_X9_set w0 w1 w2 m (fun v2 m2 => v = v2 ∧ Iw m2))) ∧ (∀ (w0 w1 w2 w3 : Int32) (mem : Mm), Iv mem → W_X8_says w0 w1 w2 w3 mem (fun v m => W_X9_says w0 w1 w2 w3 m (fun v2 m2 => v = v2 ∧ Iw m2))) ∧ (∀ (mem : Mm), Iv mem → W_X8_sets  mem (fun v m => W_X9_sets  m (fun v2 m2 => v = v2 ∧ Iw m2))) ∧ (∀ (w0 : Int32) (mem : Mm), Iv mem → W_X8_deal w0 mem (fun v m => W_X9_deal w0 m (fun v2 m2 => v = v2 ∧ Iw m2))) ∧ (∀ (w0 : Int32) (mem : Mm), Iv mem → W_X8_seed w0 mem (fun v m => W_X9_seed w0 m (fun v2 m2 => v = v2 ∧ Iw m2))) ∧ (∀ (w0 : Int32) (mem : Mm), Iv mem → W_X8_goes w0 mem (fun v m => W_X9_goes w0 m (fun v2 m2 => v = v2 ∧ Iw m2))) ∧ (∀ (w0 : Int32) (mem : Mm), Iv mem → W_X8_alley w0 mem (fun v m => W_X9_alley w0 m (fun v2 m2 => v = v2 ∧ Iw m2))) ∧ (∀ (w0 w1 : Int32) (mem : Mm), Iv mem → W_X8_best w0 w1 mem (fun v m => W_X9_best w0 w1 m (fun v2 m2 => v = v2 ∧ Iw m2))) ∧ (∀ (w0 : Int32) (mem : Mm), Iv mem → W_X8_pair w0 mem (fun v m => W_X9_pair w0 m (fun v2 m2 => v = v2 ∧ Iw m2))) ∧ (∀ (w0 : Int32) (mem : Mm), Iv mem → W_X8_clear w0 mem (fun v m => W_X9_clear w0 m (fun v2 m2 => v = v2 ∧ Iw m2))) ∧ (∀ (w0 w1 : Int32) (mem : Mm), Iv mem → W_X8_force w0 w1 mem (fun v m => W_X9_force w0 w1 m (fun v2 m2 => v = v2 ∧ Iw m2))) ∧ (∀ (w0 w1 : Int32) (mem : Mm), Iv mem → W_X8_behind w0 w1 mem (fun v m => W_X9_behind w0 w1 m (fun v2 m2 => v = v2 ∧ Iw m2))) ∧ (∀ (w0 : Int32) (mem : Mm), Iv mem → W_X8_falls w0 mem (fun v m => W_X9_falls w0 m (fun v2 m2 => v = v2 ∧ Iw m2))) ∧ (∀ (w0 w1 w2 : Int32) (mem : Mm), Iv mem → W_X8_becomes w0 w1 w2 mem (fun v m => W_X9_becomes w0 w1 w2 m (fun v2 m2 => v = v2 ∧ Iw m2))) ∧ (∀ (w0 w1 : Int32) (mem : Mm), Iv mem → W_X8_like w0 w1 mem (fun v m => W_X9_like w0 w1 m (fun v2 m2 => v = v2 ∧ Iw m2))) ∧ (∀ (mem : Mm), Iv mem → W_X8_fee  mem (fun v m => W_X9_fee  m (fun v2 m2 => v = v2 ∧ Iw m2))) ∧ (∀ (w0 : Int32) (mem : Mm), Iv mem → W_X8_fine w0 mem (fun v m => W_X9_fine w0 m (fun v2 m2 => v = v2 ∧ Iw m2))) ∧ (∀ (w0 w1 w2 : Int32) (mem : Mm), Iv mem → W_X8_feed w0 w1 w2 mem (fun v m => W_X9_feed w0 w1 w2 m (fun v2 m2 => v = v2 ∧ Iw m2))) ∧ (∀ (w0 : Int32) (mem : Mm), Iv mem → W_X8_trim w0 mem (fun v m => W_X9_trim w0 m (fun v2 m2 => v = v2 ∧ Iw m2))) ∧ (∀ (mem : Mm), Iv mem → W_X8_text  mem (fun v m => W_X9_text  m (fun v2 m2 => v = v2 ∧ Iw m2))) ∧ (∀ (w0 w1 : Int32) (mem : Mm), Iv mem → W_X8_textTold w0 w1 mem (fun v m => W_X9_textTold w0 w1 m (fun v2 m2 => v = v2 ∧ Iw m2))) ∧ (∀ (w0 : Int32) (mem : Mm), Iv mem → W_X8_why w0 mem (fun v m => W_X9_why w0 m (fun v2 m2 => v = v2 ∧ Iw m2))) ∧ (∀ (w0 w1 w2 : Int32) (mem : Mm), Iv mem → W_X8_sheet w0 w1 w2 mem (fun v m => W_X9_sheet w0 w1 w2 m (fun v2 m2 => v = v2 ∧ Iw m2))) ∧ (∀ (w0 w1 w2 : Int32) (mem : Mm), Iv mem → W_X8_mark w0 w1 w2 mem (fun v m => W_X9_mark w0 w1 w2 m (fun v2 m2 => v = v2 ∧ Iw m2))) ∧ (∀ (w0 : Int32) (mem : Mm), Iv mem → W_X8_pour w0 mem (fun v m => W_X9_pour w0 m (fun v2 m2 => v = v2 ∧ Iw m2))) ∧ (∀ (w0 : Int32) (mem : Mm), Iv mem → W_X8_reads w0 mem (fun v m => W_X9_reads w0 m (fun v2 m2 => v = v2 ∧ Iw m2))) ∧ (∀ (w0 w1 w2 w3 w4 : Int32) (mem : Mm), Iv mem → W_X8_copy w0 w1 w2 w3 w4 mem (fun v m => W_X9_copy w0 w1 w2 w3 w4 m (fun v2 m2 => v = v2 ∧ Iw m2))) ∧ (∀ (w0 w1 w2 : Int32) (mem : Mm), Iv mem → W_X8_lay w0 w1 w2 mem (fun v m => W_X9_lay w0 w1 w2 m (fun v2 m2 => v = v2 ∧ Iw m2))) ∧ (∀ (w0 w1 : Int32) (mem : Mm), Iv mem → W_X8_ask w0 w1 mem (fun v m => W_X9_ask w0 w1 m (fun v2 m2 => v = v2 ∧ Iw m2))) ∧ (∀ (w0 w1 : Int32) (mem : Mm), Iv mem → W_X8_item w0 w1 mem (fun v m => W_X9_item w0 w1 m (fun v2 m2 => v = v2 ∧ Iw m2))) ∧ (∀ (w0 w1 : Int32) (mem : Mm), Iv mem → W_X8_rest w0 w1 mem (fun v m => W_X9_rest w0 w1 m (fun v2 m2 => v = v2 ∧ Iw m2))) ∧ (∀ (w0 : Int32) (mem : Mm), Iv mem → W_X8_tell w0 mem (fun v m => W_X9_tell w0 m (fun v2 m2 => v = v2 ∧ Iw m2))) ∧ (∀ (w0 : Int32) (mem : Mm), Iv mem → W_X8_check w0 mem (fun v m => W_X9_check w0 m (fun v2 m2 => v = v2 ∧ Iw m2))) ∧ (∀ (mem : Mm), Iv mem → W_X8_keep  mem (fun v m => W_X9_keep  m (fun v2 m2 => v = v2 ∧ Iw m2))) ∧ (∀ (mem : Mm), Iv mem → W_X8_back  mem (fun v m => W_X9_back  m (fun v2 m2 => v = v2 ∧ Iw m2))) ∧ (∀ (w0 : Int32) (mem : Mm), Iv mem → W_X8_count w0 mem (fun v m => W_X9_count w0 m (fun v2 m2 => v = v2 ∧ Iw m2)))
theorem lw_cmp {L i : Nat} (hL : L ≤ 100000) (hi : i ≤ 200000) : nI L - 6 < nI i ↔ L < i + 6 := by
  have e : (6 : Int32) = nI 6 := rfl
  rw [Int32.lt_iff_toInt_lt, e, pk_sub_toInt (by omega) (by omega), nI_toInt (by omega)]
  omega
set_option maxRecDepth 100000 in
set_option maxHeartbeats 8000000 in
theorem law_loop (X : CX) (L : Nat) (xs : Nat → Int32) (hX : va_X (cx_b X) L xs (cx_s X) (cx_s X).heap) (hb9 : cx_b X < cx_n X) (hL : L ≤ 3072) (Iv : Nat → Mm → Prop) (hA : ∀ c, c ≤ 512 → Alike41 (Iv c) (Iv (c + 1))) (hup : ∀ c mem, Iv c mem → Iv (c + 1) mem) : ∀ (n c : Nat) (mem : Mm), 6 * c ≤ L + 6 → L + 6 < 6 * c + n → Iv c mem → GoC X 2048 600000 7302250 M_L_law 18 [some (.ref (cx_b X)), some (.ref (cx_n X + 0)), some (.ref (cx_n X + 82)), some (.int (nI (6 * c)))] [] (106 + 3 * c) (10000 + 200 * c) (cellAt X mem) (sz mem) (fun r _ _ => r = some (.int 1)) := by
  intro n
  induction n with
  | zero => intro c mem h1 h2 hI; omega
  | succ n ih =>
    intro c mem h1 h2 hI
    have next : ∀ (cn sn : Nat) (m2 : Mm), 6 * c + 6 ≤ L → cn ≤ 106 + 3 * (c + 1) → sn ≤ 10000 + 200 * (c + 1) → Iv (c + 1) m2 → GoC X 2048 600000 7302250 M_L_law 1445 [some (.ref (cx_b X)), some (.ref (cx_n X + 0)), some (.ref (cx_n X + 82)), some (.int (nI (6 * c)))] [] cn sn (cellAt X m2) (sz m2) (fun r _ _ => r = some (.int 1)) := by
      intro cn sn m2 q0 q1 q2 q3
      refine gc_widen q1 q2 ?_
      refine gc_iinc (v := nI (6 * (c + 1))) dL_law_1445 rfl (by rw [show 6 * (c + 1) = 6 * c + 6 by omega]; exact nI_add (6 * c) 6) (by decide) ?_
      refine gc_goto 18 dL_law_1448 (by decide) ?_
      exact ih (c + 1) m2 (by omega) (by omega) q3
    refine gc_iload_n dL_law_18 rfl ?_
    refine gc_aload_n dL_law_19 rfl ?_
    refine gc_slen hX hb9 dL_law_20 ?_
    refine gc_bipush (v := 6) dL_law_21 (by decide) ?_
    refine gc_isub dL_law_23 ?_
    refine gc_icmp_gt 1451 dL_law_24 (by decide) (fun hcz => ?_) (fun hcz => ?_)
    · refine gc_iconst (v := 1) dL_law_1451 (by decide) ?_
      exact gc_zret dL_law_1452 rfl rfl (by omega) (by omega) rfl
    have hi6 : 6 * c + 6 ≤ L := by
      have := mt (lw_cmp (L := L) (i := 6 * c) (by omega) (by omega)).mpr hcz
      omega
    obtain ⟨A0, A1, A2, A3, A4, A5, A6, A7, A8, A9, A10, A11, A12, A13, A14, A15, A16, A17, A18, A19, A20, A21, A22, A23, A24, A25, A26, A27, A28, A29, A30, A31, A32, A33, A34, A35, A36, A37, A38, A39, A40⟩ := hA c (by omega)
    refine gc_aload_n dL_law_27 rfl ?_
    refine gc_iload_n dL_law_28 rfl ?_
    refine gc_scr (6 * c) hX hb9 (by omega) dL_law_29 rfl (by omega) ?_
    refine gc_bipush (v := 63) dL_law_30 (by decide) ?_
    refine gc_iand dL_law_32 ?_
    by_cases hn0 : (xs (6 * c) &&& 63) = 0
    · refine gc_tabIn (off := 179) 212 dL_law_33 (by rw [hn0]; decide) (by rw [hn0]; decide) (by rw [hn0]; rfl) (by decide) ?_
      exact lw_c0 X L xs hX hb9 (by omega) (6 * c) _ _ hi6 (by omega) (by omega) mem (Iv (c + 1)) _ (A0 (xs (6 * c + 1)) (xs (6 * c + 2)) (xs (6 * c + 3)) (xs (6 * c + 4)) mem hI) (fun m2 hm2 => next _ _ m2 hi6 (by omega) (by omega) hm2)
    by_cases hn1 : (xs (6 * c) &&& 63) = 1
    · refine gc_tabIn (off := 232) 265 dL_law_33 (by rw [hn1]; decide) (by rw [hn1]; decide) (by rw [hn1]; rfl) (by decide) ?_
      exact lw_c1 X L xs hX hb9 (by omega) (6 * c) _ _ hi6 (by omega) (by omega) mem (Iv (c + 1)) _ (A1 (xs (6 * c + 1)) (xs (6 * c + 2)) mem hI) (fun m2 hm2 => next _ _ m2 hi6 (by omega) (by omega) hm2)
    by_cases hn2 : (xs (6 * c) &&& 63) = 2
    · refine gc_tabIn (off := 265) 298 dL_law_33 (by rw [hn2]; decide) (by rw [hn2]; decide) (by rw [hn2]; rfl) (by decide) ?_
      exact lw_c2 X L xs hX hb9 (by omega) (6 * c) _ _ hi6 (by omega) (by omega) mem (Iv (c + 1)) _ (A2 (xs (6 * c + 1)) (xs (6 * c + 2)) mem hI) (fun m2 hm2 => next _ _ m2 hi6 (by omega) (by omega) hm2)
    by_cases hn3 : (xs (6 * c) &&& 63) = 3
    · refine gc_tabIn (off := 298) 331 dL_law_33 (by rw [hn3]; decide) (by rw [hn3]; decide) (by rw [hn3]; rfl) (by decide) ?_
      exact lw_c3 X L xs hX hb9 (by omega) (6 * c) _ _ hi6 (by omega) (by omega) mem (Iv (c + 1)) _ (A3 (xs (6 * c + 1)) (xs (6 * c + 2)) mem hI) (fun m2 hm2 => next _ _ m2 hi6 (by omega) (by omega) hm2)
    by_cases hn4 : (xs (6 * c) &&& 63) = 4
    · refine gc_tabIn (off := 331) 364 dL_law_33 (by rw [hn4]; decide) (by rw [hn4]; decide) (by rw [hn4]; rfl) (by decide) ?_
      exact lw_c4 X L xs hX hb9 (by omega) (6 * c) _ _ hi6 (by omega) (by omega) mem (Iv (c + 1)) _ (A4 (xs (6 * c + 1)) (xs (6 * c + 2)) mem hI) (fun m2 hm2 => next _ _ m2 hi6 (by omega) (by omega) hm2)
    by_cases hn5 : (xs (6 * c) &&& 63) = 5
    · refine gc_tabIn (off := 364) 397 dL_law_33 (by rw [hn5]; decide) (by rw [hn5]; decide) (by rw [hn5]; rfl) (by decide) ?_
      exact lw_c5 X L xs hX hb9 (by omega) (6 * c) _ _ hi6 (by omega) (by omega) mem (Iv (c + 1)) _ (A5 (xs (6 * c + 1)) (xs (6 * c + 2)) (xs (6 * c + 3)) mem hI) (fun m2 hm2 => next _ _ m2 hi6 (by omega) (by omega) hm2)
    by_cases hn6 : (xs (6 * c) &&& 63) = 6
    · refine gc_tabIn (off := 407) 440 dL_law_33 (by rw [hn6]; decide) (by rw [hn6]; decide) (by rw [hn6]; rfl) (by decide) ?_
      exact lw_c6 X L xs hX hb9 (by omega) (6 * c) _ _ hi6 (by omega) (by omega) mem (Iv (c + 1)) _ (A6 (xs (6 * c + 1)) (xs (6 * c + 2)) (xs (6 * c + 3)) (xs (6 * c + 4)) mem hI) (fun m2 hm2 => next _ _ m2 hi6 (by omega) (by omega) hm2)
    by_cases hn7 : (xs (6 * c) &&& 63) = 7
    · refine gc_tabIn (off := 460) 493 dL_law_33 (by rw [hn7]; decide) (by rw [hn7]; decide) (by rw [hn7]; rfl) (by decide) ?_
      exact lw_c7 X L xs hX hb9 (by omega) (6 * c) _ _ hi6 (by omega) (by omega) mem (Iv (c + 1)) _ (A7  mem hI) (fun m2 hm2 => next _ _ m2 hi6 (by omega) (by omega) hm2)
    by_cases hn8 : (xs (6 * c) &&& 63) = 8
    · refine gc_tabIn (off := 473) 506 dL_law_33 (by rw [hn8]; decide) (by rw [hn8]; decide) (by rw [hn8]; rfl) (by decide) ?_
      exact lw_c8 X L xs hX hb9 (by omega) (6 * c) _ _ hi6 (by omega) (by omega) mem (Iv (c + 1)) _ (A8 (xs (6 * c + 1)) mem hI) (fun m2 hm2 => next _ _ m2 hi6 (by omega) (by omega) hm2)
    by_cases hn9 : (xs (6 * c) &&& 63) = 9
    · refine gc_tabIn (off := 496) 529 dL_law_33 (by rw [hn9]; decide) (by rw [hn9]; decide) (by rw [hn9]; rfl) (by decide) ?_
      exact lw_c9 X L xs hX hb9 (by omega) (6 * c) _ _ hi6 (by omega) (by omega) mem (Iv (c + 1)) _ (A9 (xs (6 * c + 1)) mem hI) (fun m2 hm2 => next _ _ m2 hi6 (by omega) (by omega) hm2)
    by_cases hn10 : (xs (6 * c) &&& 63) = 10
    · refine gc_tabIn (off := 519) 552 dL_law_33 (by rw [hn10]; decide) (by rw [hn10]; decide) (by rw [hn10]; rfl) (by decide) ?_
      exact lw_c10 X L xs hX hb9 (by omega) (6 * c) _ _ hi6 (by omega) (by omega) mem (Iv (c + 1)) _ (A10 (xs (6 * c + 1)) mem hI) (fun m2 hm2 => next _ _ m2 hi6 (by omega) (by omega) hm2)
    by_cases hn11 : (xs (6 * c) &&& 63) = 11
    · refine gc_tabIn (off := 542) 575 dL_law_33 (by rw [hn11]; decide) (by rw [hn11]; decide) (by rw [hn11]; rfl) (by decide) ?_
      exact lw_c11 X L xs hX hb9 (by omega) (6 * c) _ _ hi6 (by omega) (by omega) mem (Iv (c + 1)) _ (A11 (xs (6 * c + 1)) mem hI) (fun m2 hm2 => next _ _ m2 hi6 (by omega) (by omega) hm2)
    by_cases hn12 : (xs (6 * c) &&& 63) = 12
    · refine gc_tabIn (off := 565) 598 dL_law_33 (by rw [hn12]; decide) (by rw [hn12]; decide) (by rw [hn12]; rfl) (by decide) ?_
      exact lw_c12 X L xs hX hb9 (by omega) (6 * c) _ _ hi6 (by omega) (by omega) mem (Iv (c + 1)) _ (A12 (xs (6 * c + 1)) (xs (6 * c + 2)) mem hI) (fun m2 hm2 => next _ _ m2 hi6 (by omega) (by omega) hm2)
    by_cases hn13 : (xs (6 * c) &&& 63) = 13
    · refine gc_tabIn (off := 598) 631 dL_law_33 (by rw [hn13]; decide) (by rw [hn13]; decide) (by rw [hn13]; rfl) (by decide) ?_
      exact lw_c13 X L xs hX hb9 (by omega) (6 * c) _ _ hi6 (by omega) (by omega) mem (Iv (c + 1)) _ (A13 (xs (6 * c + 1)) mem hI) (fun m2 hm2 => next _ _ m2 hi6 (by omega) (by omega) hm2)
    by_cases hn14 : (xs (6 * c) &&& 63) = 14
    · refine gc_tabIn (off := 621) 654 dL_law_33 (by rw [hn14]; decide) (by rw [hn14]; decide) (by rw [hn14]; rfl) (by decide) ?_
      exact lw_c14 X L xs hX hb9 (by omega) (6 * c) _ _ hi6 (by omega) (by omega) mem (Iv (c + 1)) _ (A14 (xs (6 * c + 1)) mem hI) (fun m2 hm2 => next _ _ m2 hi6 (by omega) (by omega) hm2)
    by_cases hn15 : (xs (6 * c) &&& 63) = 15
    · refine gc_tabIn (off := 644) 677 dL_law_33 (by rw [hn15]; decide) (by rw [hn15]; decide) (by rw [hn15]; rfl) (by decide) ?_
      exact lw_c15 X L xs hX hb9 (by omega) (6 * c) _ _ hi6 (by omega) (by omega) mem (Iv (c + 1)) _ (A15 (xs (6 * c + 1)) (xs (6 * c + 2)) mem hI) (fun m2 hm2 => next _ _ m2 hi6 (by omega) (by omega) hm2)
    by_cases hn16 : (xs (6 * c) &&& 63) = 16
    · refine gc_tabIn (off := 677) 710 dL_law_33 (by rw [hn16]; decide) (by rw [hn16]; decide) (by rw [hn16]; rfl) (by decide) ?_
      exact lw_c16 X L xs hX hb9 (by omega) (6 * c) _ _ hi6 (by omega) (by omega) mem (Iv (c + 1)) _ (A16 (xs (6 * c + 1)) (xs (6 * c + 2)) mem hI) (fun m2 hm2 => next _ _ m2 hi6 (by omega) (by omega) hm2)
    by_cases hn17 : (xs (6 * c) &&& 63) = 17
    · refine gc_tabIn (off := 710) 743 dL_law_33 (by rw [hn17]; decide) (by rw [hn17]; decide) (by rw [hn17]; rfl) (by decide) ?_
      exact lw_c17 X L xs hX hb9 (by omega) (6 * c) _ _ hi6 (by omega) (by omega) mem (Iv (c + 1)) _ (A17 (xs (6 * c + 1)) mem hI) (fun m2 hm2 => next _ _ m2 hi6 (by omega) (by omega) hm2)
    by_cases hn18 : (xs (6 * c) &&& 63) = 18
    · refine gc_tabIn (off := 733) 766 dL_law_33 (by rw [hn18]; decide) (by rw [hn18]; decide) (by rw [hn18]; rfl) (by decide) ?_
      exact lw_c18 X L xs hX hb9 (by omega) (6 * c) _ _ hi6 (by omega) (by omega) mem (Iv (c + 1)) _ (A18 (xs (6 * c + 1)) (xs (6 * c + 2)) (xs (6 * c + 3)) mem hI) (fun m2 hm2 => next _ _ m2 hi6 (by omega) (by omega) hm2)
    by_cases hn19 : (xs (6 * c) &&& 63) = 19
    · refine gc_tabIn (off := 776) 809 dL_law_33 (by rw [hn19]; decide) (by rw [hn19]; decide) (by rw [hn19]; rfl) (by decide) ?_
      exact lw_c19 X L xs hX hb9 (by omega) (6 * c) _ _ hi6 (by omega) (by omega) mem (Iv (c + 1)) _ (A19 (xs (6 * c + 1)) (xs (6 * c + 2)) mem hI) (fun m2 hm2 => next _ _ m2 hi6 (by omega) (by omega) hm2)
    by_cases hn20 : (xs (6 * c) &&& 63) = 20
    · refine gc_tabIn (off := 809) 842 dL_law_33 (by rw [hn20]; decide) (by rw [hn20]; decide) (by rw [hn20]; rfl) (by decide) ?_
      exact lw_c20 X L xs hX hb9 (by omega) (6 * c) _ _ hi6 (by omega) (by omega) mem (Iv (c + 1)) _ (A20  mem hI) (fun m2 hm2 => next _ _ m2 hi6 (by omega) (by omega) hm2)
    by_cases hn21 : (xs (6 * c) &&& 63) = 21
    · refine gc_tabIn (off := 822) 855 dL_law_33 (by rw [hn21]; decide) (by rw [hn21]; decide) (by rw [hn21]; rfl) (by decide) ?_
      exact lw_c21 X L xs hX hb9 (by omega) (6 * c) _ _ hi6 (by omega) (by omega) mem (Iv (c + 1)) _ (A21 (xs (6 * c + 1)) mem hI) (fun m2 hm2 => next _ _ m2 hi6 (by omega) (by omega) hm2)
    by_cases hn22 : (xs (6 * c) &&& 63) = 22
    · refine gc_tabIn (off := 845) 878 dL_law_33 (by rw [hn22]; decide) (by rw [hn22]; decide) (by rw [hn22]; rfl) (by decide) ?_
      exact lw_c22 X L xs hX hb9 (by omega) (6 * c) _ _ hi6 (by omega) (by omega) mem (Iv (c + 1)) _ (A22 (xs (6 * c + 1)) (xs (6 * c + 2)) (xs (6 * c + 3)) mem hI) (fun m2 hm2 => next _ _ m2 hi6 (by omega) (by omega) hm2)
    by_cases hn23 : (xs (6 * c) &&& 63) = 23
    · refine gc_tabIn (off := 888) 921 dL_law_33 (by rw [hn23]; decide) (by rw [hn23]; decide) (by rw [hn23]; rfl) (by decide) ?_
      exact lw_c23 X L xs hX hb9 (by omega) (6 * c) _ _ hi6 (by omega) (by omega) mem (Iv (c + 1)) _ (A23 (xs (6 * c + 1)) mem hI) (fun m2 hm2 => next _ _ m2 hi6 (by omega) (by omega) hm2)
    by_cases hn24 : (xs (6 * c) &&& 63) = 24
    · refine gc_tabIn (off := 911) 944 dL_law_33 (by rw [hn24]; decide) (by rw [hn24]; decide) (by rw [hn24]; rfl) (by decide) ?_
      exact lw_c24 X L xs hX hb9 (by omega) (6 * c) _ _ hi6 (by omega) (by omega) mem (Iv (c + 1)) _ (A24  mem hI) (fun m2 hm2 => next _ _ m2 hi6 (by omega) (by omega) hm2)
    by_cases hn25 : (xs (6 * c) &&& 63) = 25
    · refine gc_tabIn (off := 924) 957 dL_law_33 (by rw [hn25]; decide) (by rw [hn25]; decide) (by rw [hn25]; rfl) (by decide) ?_
      exact lw_c25 X L xs hX hb9 (by omega) (6 * c) _ _ hi6 (by omega) (by omega) mem (Iv (c + 1)) _ (A25 (xs (6 * c + 1)) (xs (6 * c + 2)) mem hI) (fun m2 hm2 => next _ _ m2 hi6 (by omega) (by omega) hm2)
    by_cases hn26 : (xs (6 * c) &&& 63) = 26
    · refine gc_tabIn (off := 957) 990 dL_law_33 (by rw [hn26]; decide) (by rw [hn26]; decide) (by rw [hn26]; rfl) (by decide) ?_
      exact lw_c26 X L xs hX hb9 (by omega) (6 * c) _ _ hi6 (by omega) (by omega) mem (Iv (c + 1)) _ (A26 (xs (6 * c + 1)) mem hI) (fun m2 hm2 => next _ _ m2 hi6 (by omega) (by omega) hm2)
    by_cases hn27 : (xs (6 * c) &&& 63) = 27
    · refine gc_tabIn (off := 980) 1013 dL_law_33 (by rw [hn27]; decide) (by rw [hn27]; decide) (by rw [hn27]; rfl) (by decide) ?_
      exact lw_c27 X L xs hX hb9 (by omega) (6 * c) _ _ hi6 (by omega) (by omega) mem (Iv (c + 1)) _ (A27 (xs (6 * c + 1)) (xs (6 * c + 2)) (xs (6 * c + 3)) mem hI) (fun m2 hm2 => next _ _ m2 hi6 (by omega) (by omega) hm2)
    by_cases hn28 : (xs (6 * c) &&& 63) = 28
    · refine gc_tabIn (off := 1023) 1056 dL_law_33 (by rw [hn28]; decide) (by rw [hn28]; decide) (by rw [hn28]; rfl) (by decide) ?_
      exact lw_c28 X L xs hX hb9 (by omega) (6 * c) _ _ hi6 (by omega) (by omega) mem (Iv (c + 1)) _ (A28 (xs (6 * c + 1)) (xs (6 * c + 2)) (xs (6 * c + 3)) mem hI) (fun m2 hm2 => next _ _ m2 hi6 (by omega) (by omega) hm2)
    by_cases hn29 : (xs (6 * c) &&& 63) = 29
    · refine gc_tabIn (off := 1066) 1099 dL_law_33 (by rw [hn29]; decide) (by rw [hn29]; decide) (by rw [hn29]; rfl) (by decide) ?_
      exact lw_c29 X L xs hX hb9 (by omega) (6 * c) _ _ hi6 (by omega) (by omega) mem (Iv (c + 1)) _ (A29 (xs (6 * c + 1)) mem hI) (fun m2 hm2 => next _ _ m2 hi6 (by omega) (by omega) hm2)
    by_cases hn30 : (xs (6 * c) &&& 63) = 30
    · refine gc_tabIn (off := 1089) 1122 dL_law_33 (by rw [hn30]; decide) (by rw [hn30]; decide) (by rw [hn30]; rfl) (by decide) ?_
      exact lw_c30 X L xs hX hb9 (by omega) (6 * c) _ _ hi6 (by omega) (by omega) mem (Iv (c + 1)) _ (A30 (xs (6 * c + 1)) mem hI) (fun m2 hm2 => next _ _ m2 hi6 (by omega) (by omega) hm2)
    by_cases hn31 : (xs (6 * c) &&& 63) = 31
    · refine gc_tabIn (off := 1112) 1145 dL_law_33 (by rw [hn31]; decide) (by rw [hn31]; decide) (by rw [hn31]; rfl) (by decide) ?_
      exact lw_c31 X L xs hX hb9 (by omega) (6 * c) _ _ hi6 (by omega) (by omega) mem (Iv (c + 1)) _ (A31 (xs (6 * c + 1)) (xs (6 * c + 2)) (xs (6 * c + 3)) (xs (6 * c + 4)) (xs (6 * c + 5)) mem hI) (fun m2 hm2 => next _ _ m2 hi6 (by omega) (by omega) hm2)
    by_cases hn32 : (xs (6 * c) &&& 63) = 32
    · refine gc_tabIn (off := 1175) 1208 dL_law_33 (by rw [hn32]; decide) (by rw [hn32]; decide) (by rw [hn32]; rfl) (by decide) ?_
      exact lw_c32 X L xs hX hb9 (by omega) (6 * c) _ _ hi6 (by omega) (by omega) mem (Iv (c + 1)) _ (A32 (xs (6 * c + 1)) (xs (6 * c + 2)) (xs (6 * c + 3)) mem hI) (fun m2 hm2 => next _ _ m2 hi6 (by omega) (by omega) hm2)
    by_cases hn33 : (xs (6 * c) &&& 63) = 33
    · refine gc_tabIn (off := 1218) 1251 dL_law_33 (by rw [hn33]; decide) (by rw [hn33]; decide) (by rw [hn33]; rfl) (by decide) ?_
      exact lw_c33 X L xs hX hb9 (by omega) (6 * c) _ _ hi6 (by omega) (by omega) mem (Iv (c + 1)) _ (A33 (xs (6 * c + 1)) (xs (6 * c + 2)) mem hI) (fun m2 hm2 => next _ _ m2 hi6 (by omega) (by omega) hm2)
    by_cases hn34 : (xs (6 * c) &&& 63) = 34
    · refine gc_tabIn (off := 1251) 1284 dL_law_33 (by rw [hn34]; decide) (by rw [hn34]; decide) (by rw [hn34]; rfl) (by decide) ?_
      exact lw_c34 X L xs hX hb9 (by omega) (6 * c) _ _ hi6 (by omega) (by omega) mem (Iv (c + 1)) _ (A34 (xs (6 * c + 1)) (xs (6 * c + 2)) mem hI) (fun m2 hm2 => next _ _ m2 hi6 (by omega) (by omega) hm2)
    by_cases hn35 : (xs (6 * c) &&& 63) = 35
    · refine gc_tabIn (off := 1284) 1317 dL_law_33 (by rw [hn35]; decide) (by rw [hn35]; decide) (by rw [hn35]; rfl) (by decide) ?_
      exact lw_c35 X L xs hX hb9 (by omega) (6 * c) _ _ hi6 (by omega) (by omega) mem (Iv (c + 1)) _ (A35 (xs (6 * c + 1)) (xs (6 * c + 2)) mem hI) (fun m2 hm2 => next _ _ m2 hi6 (by omega) (by omega) hm2)
    by_cases hn36 : (xs (6 * c) &&& 63) = 36
    · refine gc_tabIn (off := 1317) 1350 dL_law_33 (by rw [hn36]; decide) (by rw [hn36]; decide) (by rw [hn36]; rfl) (by decide) ?_
      exact lw_c36 X L xs hX hb9 (by omega) (6 * c) _ _ hi6 (by omega) (by omega) mem (Iv (c + 1)) _ (A36 (xs (6 * c + 1)) mem hI) (fun m2 hm2 => next _ _ m2 hi6 (by omega) (by omega) hm2)
    by_cases hn37 : (xs (6 * c) &&& 63) = 37
    · refine gc_tabIn (off := 1340) 1373 dL_law_33 (by rw [hn37]; decide) (by rw [hn37]; decide) (by rw [hn37]; rfl) (by decide) ?_
      exact lw_c37 X L xs hX hb9 (by omega) (6 * c) _ _ hi6 (by omega) (by omega) mem (Iv (c + 1)) _ (A37 (xs (6 * c + 1)) mem hI) (fun m2 hm2 => next _ _ m2 hi6 (by omega) (by omega) hm2)
    by_cases hn38 : (xs (6 * c) &&& 63) = 38
    · refine gc_tabIn (off := 1363) 1396 dL_law_33 (by rw [hn38]; decide) (by rw [hn38]; decide) (by rw [hn38]; rfl) (by decide) ?_
      exact lw_c38 X L xs hX hb9 (by omega) (6 * c) _ _ hi6 (by omega) (by omega) mem (Iv (c + 1)) _ (A38  mem hI) (fun m2 hm2 => next _ _ m2 hi6 (by omega) (by omega) hm2)
    by_cases hn39 : (xs (6 * c) &&& 63) = 39
    · refine gc_tabIn (off := 1376) 1409 dL_law_33 (by rw [hn39]; decide) (by rw [hn39]; decide) (by rw [hn39]; rfl) (by decide) ?_
      exact lw_c39 X L xs hX hb9 (by omega) (6 * c) _ _ hi6 (by omega) (by omega) mem (Iv (c + 1)) _ (A39  mem hI) (fun m2 hm2 => next _ _ m2 hi6 (by omega) (by omega) hm2)
    by_cases hn40 : (xs (6 * c) &&& 63) = 40
    · refine gc_tabIn (off := 1389) 1422 dL_law_33 (by rw [hn40]; decide) (by rw [hn40]; decide) (by rw [hn40]; rfl) (by decide) ?_
      exact lw_c40 X L xs hX hb9 (by omega) (6 * c) _ _ hi6 (by omega) (by omega) mem (Iv (c + 1)) _ (A40 (xs (6 * c + 1)) mem hI) (fun m2 hm2 => next _ _ m2 hi6 (by omega) (by omega) hm2)
    refine gc_tabOut 1445 dL_law_33 ?_ (by decide) ?_
    · refine tab_out (fun j h1 h2 => ?_)
      rcases (show j = 0 ∨ j = 1 ∨ j = 2 ∨ j = 3 ∨ j = 4 ∨ j = 5 ∨ j = 6 ∨ j = 7 ∨ j = 8 ∨ j = 9 ∨ j = 10 ∨ j = 11 ∨ j = 12 ∨ j = 13 ∨ j = 14 ∨ j = 15 ∨ j = 16 ∨ j = 17 ∨ j = 18 ∨ j = 19 ∨ j = 20 ∨ j = 21 ∨ j = 22 ∨ j = 23 ∨ j = 24 ∨ j = 25 ∨ j = 26 ∨ j = 27 ∨ j = 28 ∨ j = 29 ∨ j = 30 ∨ j = 31 ∨ j = 32 ∨ j = 33 ∨ j = 34 ∨ j = 35 ∨ j = 36 ∨ j = 37 ∨ j = 38 ∨ j = 39 ∨ j = 40 by omega) with rfl | rfl | rfl | rfl | rfl | rfl | rfl | rfl | rfl | rfl | rfl | rfl | rfl | rfl | rfl | rfl | rfl | rfl | rfl | rfl | rfl | rfl | rfl | rfl | rfl | rfl | rfl | rfl | rfl | rfl | rfl | rfl | rfl | rfl | rfl | rfl | rfl | rfl | rfl | rfl | rfl
      · exact tab_ne hn0 (by decide)
      · exact tab_ne hn1 (by decide)
      · exact tab_ne hn2 (by decide)
      · exact tab_ne hn3 (by decide)
      · exact tab_ne hn4 (by decide)
      · exact tab_ne hn5 (by decide)
      · exact tab_ne hn6 (by decide)
      · exact tab_ne hn7 (by decide)
      · exact tab_ne hn8 (by decide)
      · exact tab_ne hn9 (by decide)
      · exact tab_ne hn10 (by decide)
      · exact tab_ne hn11 (by decide)
      · exact tab_ne hn12 (by decide)
      · exact tab_ne hn13 (by decide)
      · exact tab_ne hn14 (by decide)
      · exact tab_ne hn15 (by decide)
      · exact tab_ne hn16 (by decide)
      · exact tab_ne hn17 (by decide)
      · exact tab_ne hn18 (by decide)
      · exact tab_ne hn19 (by decide)
      · exact tab_ne hn20 (by decide)
      · exact tab_ne hn21 (by decide)
      · exact tab_ne hn22 (by decide)
      · exact tab_ne hn23 (by decide)
      · exact tab_ne hn24 (by decide)
      · exact tab_ne hn25 (by decide)
      · exact tab_ne hn26 (by decide)
      · exact tab_ne hn27 (by decide)
      · exact tab_ne hn28 (by decide)
      · exact tab_ne hn29 (by decide)
      · exact tab_ne hn30 (by decide)
      · exact tab_ne hn31 (by decide)
      · exact tab_ne hn32 (by decide)
      · exact tab_ne hn33 (by decide)
      · exact tab_ne hn34 (by decide)
      · exact tab_ne hn35 (by decide)
      · exact tab_ne hn36 (by decide)
      · exact tab_ne hn37 (by decide)
      · exact tab_ne hn38 (by decide)
      · exact tab_ne hn39 (by decide)
      · exact tab_ne hn40 (by decide)
    · exact next _ _ mem hi6 (by omega) (by omega) (hup c mem hI)
