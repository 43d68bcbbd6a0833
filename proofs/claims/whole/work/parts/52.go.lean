set_option maxRecDepth 100000 in
set_option maxHeartbeats 8000000 in
theorem law_go (X : CX) (L : Nat) (xs : Nat → Int32) (hX : va_X (cx_b X) L xs (cx_s X) (cx_s X).heap) (hb9 : cx_b X < cx_n X) (hL : L ≤ 3072) (Iv : Nat → Mm → Prop) (hA : ∀ c, c ≤ 512 → Alike41 (Iv c) (Iv (c + 1))) (hup : ∀ c mem, Iv c mem → Iv (c + 1) mem) (h0 : Iv 0 mem0) (ce : Nat → va_E) : GoC X 2048 600000 7302250 M_L_law 0 [some (.ref (cx_b X)), none, none, none] [] 0 0 ce 0 (fun r _ _ => r = some (.int 1)) := by
  refine gc_new (ci := 8) (C := RX8) (T := TX8) (Nf := 12) (fs := [.null, .null, .null, .int 0, .null, .null, .null, .null, .null, .null, .int 0, .null]) tyX8 tyX8_ok dL_law_0 lc_L_7 li_X8 lz_X8 rfl (fun j hj => by rcases (show j = 0 ∨ j = 1 ∨ j = 2 ∨ j = 3 ∨ j = 4 ∨ j = 5 ∨ j = 6 ∨ j = 7 ∨ j = 8 ∨ j = 9 ∨ j = 10 ∨ j = 11 by omega) with rfl | rfl | rfl | rfl | rfl | rfl | rfl | rfl | rfl | rfl | rfl | rfl <;> rfl) (by decide) (by decide) ?_
  refine gc_dup dL_law_3 rfl ?_
  refine gc_callI (d' := 3) (mc' := 81) (ms' := 2709) (a := cx_n X + 0) (y := M_X8_init) (As := []) (rest := [.ref (cx_n X + 0)]) dL_law_4 lm_L_9 ok_X8_init (by decide) (by decide) (by decide) rfl (Nat.le_of_ble_eq_true rfl) (a_X8_init X _ (ceU_s _ _ _)) (fun r1 ce1 N1 hq1 => ?_)
  obtain ⟨rfl, rfl, z8, -⟩ := hq1
  refine gc_astore_n dL_law_7 (by decide) ?_
  refine gc_new (ci := 9) (C := RX9) (T := TX9) (Nf := 36) (fs := [.null, .null, .null, .int 0, .int 0, .null, .null, .null, .null, .int 0, .int 0, .int 0, .int 0, .int 0, .int 0, .int 0, .null, .null, .null, .int 0, .int 0, .null, .int 0, .null, .null, .null, .null, .null, .null, .null, .null, .null, .null, .null, .null, .int 0]) tyX9 tyX9_ok dL_law_8 lc_L_10 li_X9 lz_X9 rfl (fun j hj => by rcases (show j = 0 ∨ j = 1 ∨ j = 2 ∨ j = 3 ∨ j = 4 ∨ j = 5 ∨ j = 6 ∨ j = 7 ∨ j = 8 ∨ j = 9 ∨ j = 10 ∨ j = 11 ∨ j = 12 ∨ j = 13 ∨ j = 14 ∨ j = 15 ∨ j = 16 ∨ j = 17 ∨ j = 18 ∨ j = 19 ∨ j = 20 ∨ j = 21 ∨ j = 22 ∨ j = 23 ∨ j = 24 ∨ j = 25 ∨ j = 26 ∨ j = 27 ∨ j = 28 ∨ j = 29 ∨ j = 30 ∨ j = 31 ∨ j = 32 ∨ j = 33 ∨ j = 34 ∨ j = 35 by omega) with rfl | rfl | rfl | rfl | rfl | rfl | rfl | rfl | rfl | rfl | rfl | rfl | rfl | rfl | rfl | rfl | rfl | rfl | rfl | rfl | rfl | rfl | rfl | rfl | rfl | rfl | rfl | rfl | rfl | rfl | rfl | rfl | rfl | rfl | rfl | rfl <;> rfl) (by decide) (by decide) ?_
  refine gc_dup dL_law_11 rfl ?_
  refine gc_callI (d' := 1) (mc' := 23) (ms' := 6069) (a := cx_n X + 82) (y := M_X9_init) (As := []) (rest := [.ref (cx_n X + 82)]) dL_law_12 lm_L_12 ok_X9_init (by decide) (by decide) (by decide) rfl (Nat.le_of_ble_eq_true rfl) (a_X9_init X _ (ceU_s _ _ _)) (fun r2 ce2 N2 hq2 => ?_)
  obtain ⟨rfl, rfl, z9, fr9⟩ := hq2
  refine gc_astore_n dL_law_15 (by decide) ?_
  refine gc_iconst (v := nI (6 * 0)) dL_law_16 (by decide) ?_
  refine gc_istore_n dL_law_17 (by decide) ?_
  refine gc_conv (ce' := cellAt X mem0) (N' := sz mem0) (fun H hH => HRc.init hH z8 (fun q hq => (fr9 q hq).trans (ceU_n _ _ _ (by omega))) z9) ?_
  refine gc_widen (cn' := 106 + 3 * 0) (sn' := 10000 + 200 * 0) (by decide) (by decide) ?_
  exact law_loop X L xs hX hb9 hL Iv hA hup (L + 7) 0 mem0 (by omega) (by omega) h0
