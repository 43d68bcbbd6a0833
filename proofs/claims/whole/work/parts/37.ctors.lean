set_option maxRecDepth 100000 in
set_option maxHeartbeats 4000000 in
theorem a_X1_init (X : CX) (k : Nat)  (ce : Nat → va_E) (N : Nat) (hk : k < N) (he : ce k = .inr (1, [.int 0, .int 0, .int 0, .int 0, .int 0, .int 0])) : CallsC X 1 0 0 M_X1_init [.ref (cx_n X + k)] ce N (fun r ce1 N1 => r = none ∧ N1 = N ∧ ce1 k = .inr (1, [.int 0, .int 0, .int 0, .int 0, .int 0, .int 0]) ∧ ∀ q, q ≠ k → q < N → ce1 q = ce q) := by
  refine CallsC.ofP 0 (by decide) rfl (Nat.le_of_ble_eq_true rfl) ?_
  refine gc_aload_n dX1_init_0 rfl ?_
  refine gc_objInit dX1_init_1 lob_X1_3 (by decide) (Nat.le_of_ble_eq_true rfl) ?_
  refine gc_aload_n dX1_init_4 rfl ?_
  refine gc_iconst (v := 0) dX1_init_5 (by decide) ?_
  refine gc_put (ci := 1) (T := TX1) (Nf := 6) (C := RX1) (j := 0) (ty := .int) dX1_init_6 (Or.inl (mt_1 _ (List.mem_of_getElem? (i := 43) (by decide +kernel)))) (by omega) (by exact he) rfl (by decide) rfl (by decide +kernel) rfl rfl (Nat.le_of_ble_eq_true rfl) ?_
  refine gc_aload_n dX1_init_9 rfl ?_
  refine gc_iconst (v := 0) dX1_init_10 (by decide) ?_
  refine gc_put (ci := 1) (T := TX1) (Nf := 6) (C := RX1) (j := 1) (ty := .int) dX1_init_11 (Or.inl (mt_1 _ (List.mem_of_getElem? (i := 46) (by decide +kernel)))) (by omega) (by exact ceU_s _ _ _) rfl (by decide) rfl (by decide +kernel) rfl rfl (Nat.le_of_ble_eq_true rfl) ?_
  refine gc_aload_n dX1_init_14 rfl ?_
  refine gc_iconst (v := 0) dX1_init_15 (by decide) ?_
  refine gc_put (ci := 1) (T := TX1) (Nf := 6) (C := RX1) (j := 2) (ty := .int) dX1_init_16 (Or.inl (mt_1 _ (List.mem_of_getElem? (i := 49) (by decide +kernel)))) (by omega) (by exact ceU_s _ _ _) rfl (by decide) rfl (by decide +kernel) rfl rfl (Nat.le_of_ble_eq_true rfl) ?_
  refine gc_aload_n dX1_init_19 rfl ?_
  refine gc_iconst (v := 0) dX1_init_20 (by decide) ?_
  refine gc_put (ci := 1) (T := TX1) (Nf := 6) (C := RX1) (j := 3) (ty := .int) dX1_init_21 (Or.inl (mt_1 _ (List.mem_of_getElem? (i := 52) (by decide +kernel)))) (by omega) (by exact ceU_s _ _ _) rfl (by decide) rfl (by decide +kernel) rfl rfl (Nat.le_of_ble_eq_true rfl) ?_
  refine gc_aload_n dX1_init_24 rfl ?_
  refine gc_iconst (v := 0) dX1_init_25 (by decide) ?_
  refine gc_put (ci := 1) (T := TX1) (Nf := 6) (C := RX1) (j := 4) (ty := .int) dX1_init_26 (Or.inl (mt_1 _ (List.mem_of_getElem? (i := 55) (by decide +kernel)))) (by omega) (by exact ceU_s _ _ _) rfl (by decide) rfl (by decide +kernel) rfl rfl (Nat.le_of_ble_eq_true rfl) ?_
  refine gc_aload_n dX1_init_29 rfl ?_
  refine gc_iconst (v := 0) dX1_init_30 (by decide) ?_
  refine gc_put (ci := 1) (T := TX1) (Nf := 6) (C := RX1) (j := 5) (ty := .boolean) dX1_init_31 (Or.inl (mt_1 _ (List.mem_of_getElem? (i := 58) (by decide +kernel)))) (by omega) (by exact ceU_s _ _ _) rfl (by decide) rfl (by decide +kernel) rfl rfl (Nat.le_of_ble_eq_true rfl) ?_
  refine gc_vret dX1_init_34 rfl (by decide) (by decide) ⟨rfl, rfl, ?_, ?_⟩
  · exact ceU_s _ _ _
  · intro q hq1 hq2
    rw [ceU_n _ _ _ (by omega), ceU_n _ _ _ (by omega), ceU_n _ _ _ (by omega), ceU_n _ _ _ (by omega), ceU_n _ _ _ (by omega), ceU_n _ _ _ (by omega)]
set_option maxRecDepth 100000 in
set_option maxHeartbeats 4000000 in
theorem a_X3_init (X : CX) (k : Nat)  (ce : Nat → va_E) (N : Nat) (hk : k < N) (he : ce k = .inr (3, [.int 0, .int 0, .null])) : CallsC X 1 1 24 M_X3_init [.ref (cx_n X + k)] ce N (fun r ce1 N1 => r = none ∧ N1 = N + 1 ∧ ce1 k = .inr (3, [.int (-1), .int 0, .ref (cx_n X + N)]) ∧ ce1 N = .inl (cx_a X 0, 24, .inl (fun _ => 0)) ∧ ∀ q, q ≠ k → q < N → ce1 q = ce q) := by
  refine CallsC.ofP 0 (by decide) rfl (Nat.le_of_ble_eq_true rfl) ?_
  refine gc_aload_n dX3_init_0 rfl ?_
  refine gc_objInit dX3_init_1 lob_X3_3 (by decide) (Nat.le_of_ble_eq_true rfl) ?_
  refine gc_aload_n dX3_init_4 rfl ?_
  refine gc_iconst (v := (-1)) dX3_init_5 (by decide) ?_
  refine gc_put (ci := 3) (T := TX3) (Nf := 3) (C := RX3) (j := 0) (ty := .int) dX3_init_6 (Or.inl (mt_2 _ (List.mem_of_getElem? (i := 1) (by decide +kernel)))) (by omega) (by exact he) rfl (by decide) rfl (by decide +kernel) rfl rfl (Nat.le_of_ble_eq_true rfl) ?_
  refine gc_aload_n dX3_init_9 rfl ?_
  refine gc_iconst (v := 0) dX3_init_10 (by decide) ?_
  refine gc_put (ci := 3) (T := TX3) (Nf := 3) (C := RX3) (j := 1) (ty := .int) dX3_init_11 (Or.inl (mt_2 _ (List.mem_of_getElem? (i := 3) (by decide +kernel)))) (by omega) (by exact ceU_s _ _ _) rfl (by decide) rfl (by decide +kernel) rfl rfl (Nat.le_of_ble_eq_true rfl) ?_
  refine gc_aload_n dX3_init_14 rfl ?_
  refine gc_bipush (v := 24) dX3_init_15 (by decide) ?_
  refine gc_newa (t := 0) 24 dX3_init_17 (by decide) rfl rfl la_int (by decide) rfl (by decide) (by decide) (by decide) ?_
  refine gc_putF (ci := 3) (T := TX3) (Nf := 3) (C := RX3) (j := 2) (ty := (.array .int)) dX3_init_19 lf_X3_18 (by omega) (by rw [ceU_n _ _ _ (by omega)]; exact ceU_s _ _ _) rfl (by decide) rfl rfl rfl (by decide +kernel) rfl rfl (Nat.le_of_ble_eq_true rfl) ?_
  refine gc_vret dX3_init_22 rfl (by decide) (by decide) ⟨rfl, rfl, ?_, ?_, ?_⟩
  · exact ceU_s _ _ _
  · rw [ceU_n _ _ _ (by omega)]; exact ceU_s _ _ _
  · intro q hq1 hq2
    rw [ceU_n _ _ _ (by omega), ceU_n _ _ _ (by omega), ceU_n _ _ _ (by omega), ceU_n _ _ _ (by omega)]
set_option maxRecDepth 100000 in
set_option maxHeartbeats 4000000 in
theorem a_X5_init (X : CX) (k : Nat)  (ce : Nat → va_E) (N : Nat) (hk : k < N) (he : ce k = .inr (5, [.null, .int 0])) : CallsC X 1 1 96 M_X5_init [.ref (cx_n X + k)] ce N (fun r ce1 N1 => r = none ∧ N1 = N + 1 ∧ ce1 k = .inr (5, [.ref (cx_n X + N), .int 0]) ∧ ce1 N = .inl (cx_a X 1, 96, .inl (fun _ => 0)) ∧ ∀ q, q ≠ k → q < N → ce1 q = ce q) := by
  refine CallsC.ofP 0 (by decide) rfl (Nat.le_of_ble_eq_true rfl) ?_
  refine gc_aload_n dX5_init_0 rfl ?_
  refine gc_objInit dX5_init_1 lob_X5_3 (by decide) (Nat.le_of_ble_eq_true rfl) ?_
  refine gc_aload_n dX5_init_4 rfl ?_
  refine gc_bipush (v := 96) dX5_init_5 (by decide) ?_
  refine gc_newa (t := 1) 96 dX5_init_7 (by decide) rfl rfl la_byte (by decide) rfl (by decide) (by decide) (by decide) ?_
  refine gc_putF (ci := 5) (T := TX5) (Nf := 2) (C := RX5) (j := 0) (ty := (.array .byte)) dX5_init_9 lf_X5_9 (by omega) (by rw [ceU_n _ _ _ (by omega)]; exact he) rfl (by decide) rfl rfl rfl (by decide +kernel) rfl rfl (Nat.le_of_ble_eq_true rfl) ?_
  refine gc_aload_n dX5_init_12 rfl ?_
  refine gc_iconst (v := 0) dX5_init_13 (by decide) ?_
  refine gc_put (ci := 5) (T := TX5) (Nf := 2) (C := RX5) (j := 1) (ty := .int) dX5_init_14 (Or.inl (mt_1 _ (List.mem_of_getElem? (i := 179) (by decide +kernel)))) (by omega) (by exact ceU_s _ _ _) rfl (by decide) rfl (by decide +kernel) rfl rfl (Nat.le_of_ble_eq_true rfl) ?_
  refine gc_vret dX5_init_17 rfl (by decide) (by decide) ⟨rfl, rfl, ?_, ?_, ?_⟩
  · exact ceU_s _ _ _
  · rw [ceU_n _ _ _ (by omega), ceU_n _ _ _ (by omega)]; exact ceU_s _ _ _
  · intro q hq1 hq2
    rw [ceU_n _ _ _ (by omega), ceU_n _ _ _ (by omega), ceU_n _ _ _ (by omega)]
set_option maxRecDepth 100000 in
set_option maxHeartbeats 4000000 in
theorem a_X2_init (X : CX) (k : Nat)  (ce : Nat → va_E) (N : Nat) (hk : k < N) (he : ce k = .inr (2, [.null, .null, .null, .null, .int 0, .int 0, .int 0, .int 0, .int 0, .int 0, .int 0])) : CallsC X 1 4 1753 M_X2_init [.ref (cx_n X + k)] ce N (fun r ce1 N1 => r = none ∧ N1 = N + 1 + 1 + 1 + 1 ∧ ce1 k = .inr (2, [.ref (cx_n X + N), .ref (cx_n X + (N + 1)), .ref (cx_n X + (N + 1 + 1)), .ref (cx_n X + (N + 1 + 1 + 1)), .int 0, .int 0, .int 0, .int 0, .int 0, .int 0, .int 0]) ∧ ce1 N = .inl (cx_a X 0, 720, .inl (fun _ => 0)) ∧ ce1 (N + 1) = .inl (cx_a X 0, 9, .inl (fun _ => 0)) ∧ ce1 (N + 1 + 1) = .inl (cx_a X 0, 512, .inl (fun _ => 0)) ∧ ce1 (N + 1 + 1 + 1) = .inl (cx_a X 0, 512, .inl (fun _ => 0)) ∧ ∀ q, q ≠ k → q < N → ce1 q = ce q) := by
  refine CallsC.ofP 0 (by decide) rfl (Nat.le_of_ble_eq_true rfl) ?_
  refine gc_aload_n dX2_init_0 rfl ?_
  refine gc_objInit dX2_init_1 lob_X2_3 (by decide) (Nat.le_of_ble_eq_true rfl) ?_
  refine gc_aload_n dX2_init_4 rfl ?_
  refine gc_sipush (v := 720) dX2_init_5 (by decide) ?_
  refine gc_newa (t := 0) 720 dX2_init_8 (by decide) rfl rfl la_int (by decide) rfl (by decide) (by decide) (by decide) ?_
  refine gc_putF (ci := 2) (T := TX2) (Nf := 11) (C := RX2) (j := 0) (ty := (.array .int)) dX2_init_10 lf_X2_11 (by omega) (by rw [ceU_n _ _ _ (by omega)]; exact he) rfl (by decide) rfl rfl rfl (by decide +kernel) rfl rfl (Nat.le_of_ble_eq_true rfl) ?_
  refine gc_aload_n dX2_init_13 rfl ?_
  refine gc_bipush (v := 9) dX2_init_14 (by decide) ?_
  refine gc_newa (t := 0) 9 dX2_init_16 (by decide) rfl rfl la_int (by decide) rfl (by decide) (by decide) (by decide) ?_
  refine gc_putF (ci := 2) (T := TX2) (Nf := 11) (C := RX2) (j := 1) (ty := (.array .int)) dX2_init_18 lf_X2_15 (by omega) (by rw [ceU_n _ _ _ (by omega)]; exact ceU_s _ _ _) rfl (by decide) rfl rfl rfl (by decide +kernel) rfl rfl (Nat.le_of_ble_eq_true rfl) ?_
  refine gc_aload_n dX2_init_21 rfl ?_
  refine gc_sipush (v := 512) dX2_init_22 (by decide) ?_
  refine gc_newa (t := 0) 512 dX2_init_25 (by decide) rfl rfl la_int (by decide) rfl (by decide) (by decide) (by decide) ?_
  refine gc_putF (ci := 2) (T := TX2) (Nf := 11) (C := RX2) (j := 2) (ty := (.array .int)) dX2_init_27 lf_X2_18 (by omega) (by rw [ceU_n _ _ _ (by omega)]; exact ceU_s _ _ _) rfl (by decide) rfl rfl rfl (by decide +kernel) rfl rfl (Nat.le_of_ble_eq_true rfl) ?_
  refine gc_aload_n dX2_init_30 rfl ?_
  refine gc_sipush (v := 512) dX2_init_31 (by decide) ?_
  refine gc_newa (t := 0) 512 dX2_init_34 (by decide) rfl rfl la_int (by decide) rfl (by decide) (by decide) (by decide) ?_
  refine gc_putF (ci := 2) (T := TX2) (Nf := 11) (C := RX2) (j := 3) (ty := (.array .int)) dX2_init_36 lf_X2_21 (by omega) (by rw [ceU_n _ _ _ (by omega)]; exact ceU_s _ _ _) rfl (by decide) rfl rfl rfl (by decide +kernel) rfl rfl (Nat.le_of_ble_eq_true rfl) ?_
  refine gc_aload_n dX2_init_39 rfl ?_
  refine gc_iconst (v := 0) dX2_init_40 (by decide) ?_
  refine gc_put (ci := 2) (T := TX2) (Nf := 11) (C := RX2) (j := 4) (ty := .int) dX2_init_41 (Or.inl (mt_1 _ (List.mem_of_getElem? (i := 131) (by decide +kernel)))) (by omega) (by exact ceU_s _ _ _) rfl (by decide) rfl (by decide +kernel) rfl rfl (Nat.le_of_ble_eq_true rfl) ?_
  refine gc_aload_n dX2_init_44 rfl ?_
  refine gc_iconst (v := 0) dX2_init_45 (by decide) ?_
  refine gc_put (ci := 2) (T := TX2) (Nf := 11) (C := RX2) (j := 5) (ty := .int) dX2_init_46 (Or.inl (mt_1 _ (List.mem_of_getElem? (i := 132) (by decide +kernel)))) (by omega) (by exact ceU_s _ _ _) rfl (by decide) rfl (by decide +kernel) rfl rfl (Nat.le_of_ble_eq_true rfl) ?_
  refine gc_aload_n dX2_init_49 rfl ?_
  refine gc_iconst (v := 0) dX2_init_50 (by decide) ?_
  refine gc_put (ci := 2) (T := TX2) (Nf := 11) (C := RX2) (j := 6) (ty := .int) dX2_init_51 (Or.inl (mt_1 _ (List.mem_of_getElem? (i := 133) (by decide +kernel)))) (by omega) (by exact ceU_s _ _ _) rfl (by decide) rfl (by decide +kernel) rfl rfl (Nat.le_of_ble_eq_true rfl) ?_
  refine gc_aload_n dX2_init_54 rfl ?_
  refine gc_iconst (v := 0) dX2_init_55 (by decide) ?_
  refine gc_put (ci := 2) (T := TX2) (Nf := 11) (C := RX2) (j := 7) (ty := .int) dX2_init_56 (Or.inl (mt_1 _ (List.mem_of_getElem? (i := 134) (by decide +kernel)))) (by omega) (by exact ceU_s _ _ _) rfl (by decide) rfl (by decide +kernel) rfl rfl (Nat.le_of_ble_eq_true rfl) ?_
  refine gc_aload_n dX2_init_59 rfl ?_
  refine gc_iconst (v := 0) dX2_init_60 (by decide) ?_
  refine gc_put (ci := 2) (T := TX2) (Nf := 11) (C := RX2) (j := 8) (ty := .int) dX2_init_61 (Or.inl (mt_1 _ (List.mem_of_getElem? (i := 136) (by decide +kernel)))) (by omega) (by exact ceU_s _ _ _) rfl (by decide) rfl (by decide +kernel) rfl rfl (Nat.le_of_ble_eq_true rfl) ?_
  refine gc_aload_n dX2_init_64 rfl ?_
  refine gc_iconst (v := 0) dX2_init_65 (by decide) ?_
  refine gc_put (ci := 2) (T := TX2) (Nf := 11) (C := RX2) (j := 9) (ty := .int) dX2_init_66 (Or.inl (mt_1 _ (List.mem_of_getElem? (i := 138) (by decide +kernel)))) (by omega) (by exact ceU_s _ _ _) rfl (by decide) rfl (by decide +kernel) rfl rfl (Nat.le_of_ble_eq_true rfl) ?_
  refine gc_aload_n dX2_init_69 rfl ?_
  refine gc_iconst (v := 0) dX2_init_70 (by decide) ?_
  refine gc_put (ci := 2) (T := TX2) (Nf := 11) (C := RX2) (j := 10) (ty := .int) dX2_init_71 (Or.inl (mt_1 _ (List.mem_of_getElem? (i := 140) (by decide +kernel)))) (by omega) (by exact ceU_s _ _ _) rfl (by decide) rfl (by decide +kernel) rfl rfl (Nat.le_of_ble_eq_true rfl) ?_
  refine gc_vret dX2_init_74 rfl (by decide) (by decide) ⟨rfl, rfl, ?_, ?_, ?_, ?_, ?_, ?_⟩
  · exact ceU_s _ _ _
  · rw [ceU_n _ _ _ (by omega), ceU_n _ _ _ (by omega), ceU_n _ _ _ (by omega), ceU_n _ _ _ (by omega), ceU_n _ _ _ (by omega), ceU_n _ _ _ (by omega), ceU_n _ _ _ (by omega), ceU_n _ _ _ (by omega), ceU_n _ _ _ (by omega), ceU_n _ _ _ (by omega), ceU_n _ _ _ (by omega), ceU_n _ _ _ (by omega), ceU_n _ _ _ (by omega), ceU_n _ _ _ (by omega)]; exact ceU_s _ _ _
  · rw [ceU_n _ _ _ (by omega), ceU_n _ _ _ (by omega), ceU_n _ _ _ (by omega), ceU_n _ _ _ (by omega), ceU_n _ _ _ (by omega), ceU_n _ _ _ (by omega), ceU_n _ _ _ (by omega), ceU_n _ _ _ (by omega), ceU_n _ _ _ (by omega), ceU_n _ _ _ (by omega), ceU_n _ _ _ (by omega), ceU_n _ _ _ (by omega)]; exact ceU_s _ _ _
  · rw [ceU_n _ _ _ (by omega), ceU_n _ _ _ (by omega), ceU_n _ _ _ (by omega), ceU_n _ _ _ (by omega), ceU_n _ _ _ (by omega), ceU_n _ _ _ (by omega), ceU_n _ _ _ (by omega), ceU_n _ _ _ (by omega), ceU_n _ _ _ (by omega), ceU_n _ _ _ (by omega)]; exact ceU_s _ _ _
  · rw [ceU_n _ _ _ (by omega), ceU_n _ _ _ (by omega), ceU_n _ _ _ (by omega), ceU_n _ _ _ (by omega), ceU_n _ _ _ (by omega), ceU_n _ _ _ (by omega), ceU_n _ _ _ (by omega), ceU_n _ _ _ (by omega)]; exact ceU_s _ _ _
  · intro q hq1 hq2
    rw [ceU_n _ _ _ (by omega), ceU_n _ _ _ (by omega), ceU_n _ _ _ (by omega), ceU_n _ _ _ (by omega), ceU_n _ _ _ (by omega), ceU_n _ _ _ (by omega), ceU_n _ _ _ (by omega), ceU_n _ _ _ (by omega), ceU_n _ _ _ (by omega), ceU_n _ _ _ (by omega), ceU_n _ _ _ (by omega), ceU_n _ _ _ (by omega), ceU_n _ _ _ (by omega), ceU_n _ _ _ (by omega), ceU_n _ _ _ (by omega)]
set_option maxRecDepth 100000 in
set_option maxHeartbeats 4000000 in
theorem a_X7_init (X : CX) (k : Nat)  (ce : Nat → va_E) (N : Nat) (hk : k < N) (he : ce k = .inr (7, [.null, .int 0, .int 0, .int 0, .int 0, .int 0, .int 0, .int 0, .int 0, .int 0, .null, .int 0, .null, .int 0])) : CallsC X 2 4 290 M_X7_init [.ref (cx_n X + k)] ce N (fun r ce1 N1 => r = none ∧ N1 = N + 1 + 1 + 1 + 1 ∧ ce1 k = .inr (7, [.ref (cx_n X + N), .int 0, .int 0, .int 0, .int 0, .int 1, .int 0, .int 0, .int 0, .int 0, .ref (cx_n X + (N + 1 + 1)), .int 0, .ref (cx_n X + (N + 1 + 1 + 1)), .int 0]) ∧ ce1 N = .inr (5, [.ref (cx_n X + N + 1), .int 0]) ∧ ce1 (N + 1) = .inl (cx_a X 1, 96, .inl (fun _ => 0)) ∧ ce1 (N + 1 + 1) = .inl (cx_a X 0, 96, .inl (fun _ => 0)) ∧ ce1 (N + 1 + 1 + 1) = .inl (cx_a X 0, 96, .inl (fun _ => 0)) ∧ ∀ q, q ≠ k → q < N → ce1 q = ce q) := by
  refine CallsC.ofP 0 (by decide) rfl (Nat.le_of_ble_eq_true rfl) ?_
  refine gc_aload_n dX7_init_0 rfl ?_
  refine gc_objInit dX7_init_1 lob_X7_3 (by decide) (Nat.le_of_ble_eq_true rfl) ?_
  refine gc_aload_n dX7_init_4 rfl ?_
  refine gc_new (ci := 5) (C := RX5) (T := TX5) (Nf := 2) (fs := [.null, .int 0]) tyX5 tyX5_ok dX7_init_5 lc_X7_9 li_X5 lz_X5 rfl (fun j hj => by rcases (show j = 0 ∨ j = 1 by omega) with rfl | rfl <;> rfl) (by decide) (by decide) ?_
  refine gc_dup dX7_init_8 rfl ?_
  refine gc_callI (a := cx_n X + N) (d' := 1) (mc' := 1) (ms' := 96) (y := M_X5_init) (As := []) (rest := [.ref (cx_n X + N), .ref (cx_n X + k)]) dX7_init_9 lm_X7_11 ok_X5_init (by decide) (by decide) (by decide) rfl (Nat.le_of_ble_eq_true rfl) (a_X5_init X N  _ _ (by omega) (by exact ceU_s _ _ _)) (fun r1 ce1 N1 hq1 => ?_)
  obtain ⟨rfl, rfl, t1_0, t1_1, fr1⟩ := hq1
  refine gc_putF (ci := 7) (T := TX7) (Nf := 14) (C := RX7) (j := 0) (ty := (.object "SkittleMen$Tape")) dX7_init_12 lf_X7_12 (by omega) (by rw [fr1 k (by omega) (by omega), ceU_n _ _ _ (by omega)]; exact he) rfl (by decide) rfl rfl rfl (by decide +kernel) rfl rfl (Nat.le_of_ble_eq_true rfl) ?_
  refine gc_aload_n dX7_init_15 rfl ?_
  refine gc_iconst (v := 0) dX7_init_16 (by decide) ?_
  refine gc_put (ci := 7) (T := TX7) (Nf := 14) (C := RX7) (j := 1) (ty := .int) dX7_init_17 (Or.inl (mt_1 _ (List.mem_of_getElem? (i := 190) (by decide +kernel)))) (by omega) (by exact ceU_s _ _ _) rfl (by decide) rfl (by decide +kernel) rfl rfl (Nat.le_of_ble_eq_true rfl) ?_
  refine gc_aload_n dX7_init_20 rfl ?_
  refine gc_iconst (v := 0) dX7_init_21 (by decide) ?_
  refine gc_put (ci := 7) (T := TX7) (Nf := 14) (C := RX7) (j := 2) (ty := .int) dX7_init_22 (Or.inl (mt_1 _ (List.mem_of_getElem? (i := 191) (by decide +kernel)))) (by omega) (by exact ceU_s _ _ _) rfl (by decide) rfl (by decide +kernel) rfl rfl (Nat.le_of_ble_eq_true rfl) ?_
  refine gc_aload_n dX7_init_25 rfl ?_
  refine gc_iconst (v := 0) dX7_init_26 (by decide) ?_
  refine gc_put (ci := 7) (T := TX7) (Nf := 14) (C := RX7) (j := 3) (ty := .int) dX7_init_27 (Or.inl (mt_1 _ (List.mem_of_getElem? (i := 192) (by decide +kernel)))) (by omega) (by exact ceU_s _ _ _) rfl (by decide) rfl (by decide +kernel) rfl rfl (Nat.le_of_ble_eq_true rfl) ?_
  refine gc_aload_n dX7_init_30 rfl ?_
  refine gc_iconst (v := 0) dX7_init_31 (by decide) ?_
  refine gc_put (ci := 7) (T := TX7) (Nf := 14) (C := RX7) (j := 4) (ty := .boolean) dX7_init_32 (Or.inl (mt_1 _ (List.mem_of_getElem? (i := 193) (by decide +kernel)))) (by omega) (by exact ceU_s _ _ _) rfl (by decide) rfl (by decide +kernel) rfl rfl (Nat.le_of_ble_eq_true rfl) ?_
  refine gc_aload_n dX7_init_35 rfl ?_
  refine gc_iconst (v := 1) dX7_init_36 (by decide) ?_
  refine gc_put (ci := 7) (T := TX7) (Nf := 14) (C := RX7) (j := 5) (ty := .boolean) dX7_init_37 (Or.inl (mt_1 _ (List.mem_of_getElem? (i := 194) (by decide +kernel)))) (by omega) (by exact ceU_s _ _ _) rfl (by decide) rfl (by decide +kernel) rfl rfl (Nat.le_of_ble_eq_true rfl) ?_
  refine gc_aload_n dX7_init_40 rfl ?_
  refine gc_iconst (v := 0) dX7_init_41 (by decide) ?_
  refine gc_put (ci := 7) (T := TX7) (Nf := 14) (C := RX7) (j := 6) (ty := .int) dX7_init_42 (Or.inl (mt_1 _ (List.mem_of_getElem? (i := 195) (by decide +kernel)))) (by omega) (by exact ceU_s _ _ _) rfl (by decide) rfl (by decide +kernel) rfl rfl (Nat.le_of_ble_eq_true rfl) ?_
  refine gc_aload_n dX7_init_45 rfl ?_
  refine gc_iconst (v := 0) dX7_init_46 (by decide) ?_
  refine gc_put (ci := 7) (T := TX7) (Nf := 14) (C := RX7) (j := 7) (ty := .int) dX7_init_47 (Or.inl (mt_1 _ (List.mem_of_getElem? (i := 196) (by decide +kernel)))) (by omega) (by exact ceU_s _ _ _) rfl (by decide) rfl (by decide +kernel) rfl rfl (Nat.le_of_ble_eq_true rfl) ?_
  refine gc_aload_n dX7_init_50 rfl ?_
  refine gc_iconst (v := 0) dX7_init_51 (by decide) ?_
  refine gc_put (ci := 7) (T := TX7) (Nf := 14) (C := RX7) (j := 8) (ty := .int) dX7_init_52 (Or.inl (mt_1 _ (List.mem_of_getElem? (i := 197) (by decide +kernel)))) (by omega) (by exact ceU_s _ _ _) rfl (by decide) rfl (by decide +kernel) rfl rfl (Nat.le_of_ble_eq_true rfl) ?_
  refine gc_aload_n dX7_init_55 rfl ?_
  refine gc_iconst (v := 0) dX7_init_56 (by decide) ?_
  refine gc_put (ci := 7) (T := TX7) (Nf := 14) (C := RX7) (j := 9) (ty := .int) dX7_init_57 (Or.inl (mt_1 _ (List.mem_of_getElem? (i := 198) (by decide +kernel)))) (by omega) (by exact ceU_s _ _ _) rfl (by decide) rfl (by decide +kernel) rfl rfl (Nat.le_of_ble_eq_true rfl) ?_
  refine gc_aload_n dX7_init_60 rfl ?_
  refine gc_bipush (v := 96) dX7_init_61 (by decide) ?_
  refine gc_newa (t := 0) 96 dX7_init_63 (by decide) rfl rfl la_int (by decide) rfl (by decide) (by decide) (by decide) ?_
  refine gc_putF (ci := 7) (T := TX7) (Nf := 14) (C := RX7) (j := 10) (ty := (.array .int)) dX7_init_65 lf_X7_47 (by omega) (by rw [ceU_n _ _ _ (by omega)]; exact ceU_s _ _ _) rfl (by decide) rfl rfl rfl (by decide +kernel) rfl rfl (Nat.le_of_ble_eq_true rfl) ?_
  refine gc_aload_n dX7_init_68 rfl ?_
  refine gc_iconst (v := 0) dX7_init_69 (by decide) ?_
  refine gc_put (ci := 7) (T := TX7) (Nf := 14) (C := RX7) (j := 11) (ty := .int) dX7_init_70 (Or.inl (mt_1 _ (List.mem_of_getElem? (i := 200) (by decide +kernel)))) (by omega) (by exact ceU_s _ _ _) rfl (by decide) rfl (by decide +kernel) rfl rfl (Nat.le_of_ble_eq_true rfl) ?_
  refine gc_aload_n dX7_init_73 rfl ?_
  refine gc_bipush (v := 96) dX7_init_74 (by decide) ?_
  refine gc_newa (t := 0) 96 dX7_init_76 (by decide) rfl rfl la_int (by decide) rfl (by decide) (by decide) (by decide) ?_
  refine gc_putF (ci := 7) (T := TX7) (Nf := 14) (C := RX7) (j := 12) (ty := (.array .int)) dX7_init_78 lf_X7_54 (by omega) (by rw [ceU_n _ _ _ (by omega)]; exact ceU_s _ _ _) rfl (by decide) rfl rfl rfl (by decide +kernel) rfl rfl (Nat.le_of_ble_eq_true rfl) ?_
  refine gc_aload_n dX7_init_81 rfl ?_
  refine gc_iconst (v := 0) dX7_init_82 (by decide) ?_
  refine gc_put (ci := 7) (T := TX7) (Nf := 14) (C := RX7) (j := 13) (ty := .int) dX7_init_83 (Or.inl (mt_1 _ (List.mem_of_getElem? (i := 202) (by decide +kernel)))) (by omega) (by exact ceU_s _ _ _) rfl (by decide) rfl (by decide +kernel) rfl rfl (Nat.le_of_ble_eq_true rfl) ?_
  refine gc_vret dX7_init_86 rfl (by decide) (by decide) ⟨rfl, rfl, ?_, ?_, ?_, ?_, ?_, ?_⟩
  · exact ceU_s _ _ _
  · rw [ceU_n _ _ _ (by omega), ceU_n _ _ _ (by omega), ceU_n _ _ _ (by omega), ceU_n _ _ _ (by omega), ceU_n _ _ _ (by omega), ceU_n _ _ _ (by omega), ceU_n _ _ _ (by omega), ceU_n _ _ _ (by omega), ceU_n _ _ _ (by omega), ceU_n _ _ _ (by omega), ceU_n _ _ _ (by omega), ceU_n _ _ _ (by omega), ceU_n _ _ _ (by omega), ceU_n _ _ _ (by omega), ceU_n _ _ _ (by omega), ceU_n _ _ _ (by omega)]; exact t1_0
  · rw [ceU_n _ _ _ (by omega), ceU_n _ _ _ (by omega), ceU_n _ _ _ (by omega), ceU_n _ _ _ (by omega), ceU_n _ _ _ (by omega), ceU_n _ _ _ (by omega), ceU_n _ _ _ (by omega), ceU_n _ _ _ (by omega), ceU_n _ _ _ (by omega), ceU_n _ _ _ (by omega), ceU_n _ _ _ (by omega), ceU_n _ _ _ (by omega), ceU_n _ _ _ (by omega), ceU_n _ _ _ (by omega), ceU_n _ _ _ (by omega), ceU_n _ _ _ (by omega)]; exact t1_1
  · rw [ceU_n _ _ _ (by omega), ceU_n _ _ _ (by omega), ceU_n _ _ _ (by omega), ceU_n _ _ _ (by omega), ceU_n _ _ _ (by omega)]; exact ceU_s _ _ _
  · rw [ceU_n _ _ _ (by omega), ceU_n _ _ _ (by omega)]; exact ceU_s _ _ _
  · intro q hq1 hq2
    rw [ceU_n _ _ _ (by omega), ceU_n _ _ _ (by omega), ceU_n _ _ _ (by omega), ceU_n _ _ _ (by omega), ceU_n _ _ _ (by omega), ceU_n _ _ _ (by omega), ceU_n _ _ _ (by omega), ceU_n _ _ _ (by omega), ceU_n _ _ _ (by omega), ceU_n _ _ _ (by omega), ceU_n _ _ _ (by omega), ceU_n _ _ _ (by omega), ceU_n _ _ _ (by omega), ceU_n _ _ _ (by omega), ceU_n _ _ _ (by omega), ceU_n _ _ _ (by omega), fr1 q (by omega) (by omega), ceU_n _ _ _ (by omega)]
set_option maxRecDepth 100000 in
set_option maxHeartbeats 4000000 in
theorem a_X4_init (X : CX) (k : Nat)  (ce : Nat → va_E) (N : Nat) (hk : k < N) (he : ce k = .inr (4, [.int 0, .null, .null, .int 0])) : CallsC X 2 3 33 M_X4_init [.ref (cx_n X + k)] ce N (fun r ce1 N1 => r = none ∧ N1 = N + 1 + 1 + 1 ∧ ce1 k = .inr (4, [.int 0, .ref (cx_n X + N), .ref (cx_n X + (N + 1)), .int 0]) ∧ ce1 N = .inr (1, [.int 0, .int 0, .int 0, .int 0, .int 0, .int 0]) ∧ ce1 (N + 1) = .inr (3, [.int (-1), .int 0, .ref (cx_n X + N + 1 + 1)]) ∧ ce1 (N + 1 + 1) = .inl (cx_a X 0, 24, .inl (fun _ => 0)) ∧ ∀ q, q ≠ k → q < N → ce1 q = ce q) := by
  refine CallsC.ofP 0 (by decide) rfl (Nat.le_of_ble_eq_true rfl) ?_
  refine gc_aload_n dX4_init_0 rfl ?_
  refine gc_objInit dX4_init_1 lob_X4_1 (by decide) (Nat.le_of_ble_eq_true rfl) ?_
  refine gc_aload_n dX4_init_4 rfl ?_
  refine gc_iconst (v := 0) dX4_init_5 (by decide) ?_
  refine gc_put (ci := 4) (T := TX4) (Nf := 4) (C := RX4) (j := 0) (ty := .int) dX4_init_6 (Or.inl (mt_2 _ (List.mem_of_getElem? (i := 23) (by decide +kernel)))) (by omega) (by exact he) rfl (by decide) rfl (by decide +kernel) rfl rfl (Nat.le_of_ble_eq_true rfl) ?_
  refine gc_aload_n dX4_init_9 rfl ?_
  refine gc_new (ci := 1) (C := RX1) (T := TX1) (Nf := 6) (fs := [.int 0, .int 0, .int 0, .int 0, .int 0, .int 0]) tyX1 tyX1_ok dX4_init_10 lc_X4_13 li_X1 lz_X1 rfl (fun j hj => by rcases (show j = 0 ∨ j = 1 ∨ j = 2 ∨ j = 3 ∨ j = 4 ∨ j = 5 by omega) with rfl | rfl | rfl | rfl | rfl | rfl <;> rfl) (by decide) (by decide) ?_
  refine gc_dup dX4_init_13 rfl ?_
  refine gc_callI (a := cx_n X + N) (d' := 1) (mc' := 0) (ms' := 0) (y := M_X1_init) (As := []) (rest := [.ref (cx_n X + N), .ref (cx_n X + k)]) dX4_init_14 lm_X4_15 ok_X1_init (by decide) (by decide) (by decide) rfl (Nat.le_of_ble_eq_true rfl) (a_X1_init X N  _ _ (by omega) (by exact ceU_s _ _ _)) (fun r1 ce1 N1 hq1 => ?_)
  obtain ⟨rfl, rfl, t1_0, fr1⟩ := hq1
  refine gc_putF (ci := 4) (T := TX4) (Nf := 4) (C := RX4) (j := 1) (ty := (.object "SkittleMen$Man")) dX4_init_17 lf_X4_16 (by omega) (by rw [fr1 k (by omega) (by omega), ceU_n _ _ _ (by omega)]; exact ceU_s _ _ _) rfl (by decide) rfl rfl rfl (by decide +kernel) rfl rfl (Nat.le_of_ble_eq_true rfl) ?_
  refine gc_aload_n dX4_init_20 rfl ?_
  refine gc_new (ci := 3) (C := RX3) (T := TX3) (Nf := 3) (fs := [.int 0, .int 0, .null]) tyX3 tyX3_ok dX4_init_21 lc_X4_20 li_X3 lz_X3 rfl (fun j hj => by rcases (show j = 0 ∨ j = 1 ∨ j = 2 by omega) with rfl | rfl | rfl <;> rfl) (by decide) (by decide) ?_
  refine gc_dup dX4_init_24 rfl ?_
  refine gc_callI (a := cx_n X + (N + 1)) (d' := 1) (mc' := 1) (ms' := 24) (y := M_X3_init) (As := []) (rest := [.ref (cx_n X + (N + 1)), .ref (cx_n X + k)]) dX4_init_25 lm_X4_22 ok_X3_init (by decide) (by decide) (by decide) rfl (Nat.le_of_ble_eq_true rfl) (a_X3_init X (N + 1)  _ _ (by omega) (by exact ceU_s _ _ _)) (fun r2 ce2 N2 hq2 => ?_)
  obtain ⟨rfl, rfl, t2_0, t2_1, fr2⟩ := hq2
  refine gc_putF (ci := 4) (T := TX4) (Nf := 4) (C := RX4) (j := 2) (ty := (.object "SkittleMen$Sheet")) dX4_init_28 lf_X4_23 (by omega) (by rw [fr2 k (by omega) (by omega), ceU_n _ _ _ (by omega)]; exact ceU_s _ _ _) rfl (by decide) rfl rfl rfl (by decide +kernel) rfl rfl (Nat.le_of_ble_eq_true rfl) ?_
  refine gc_aload_n dX4_init_31 rfl ?_
  refine gc_iconst (v := 0) dX4_init_32 (by decide) ?_
  refine gc_put (ci := 4) (T := TX4) (Nf := 4) (C := RX4) (j := 3) (ty := .int) dX4_init_33 (Or.inl (mt_2 _ (List.mem_of_getElem? (i := 29) (by decide +kernel)))) (by omega) (by exact ceU_s _ _ _) rfl (by decide) rfl (by decide +kernel) rfl rfl (Nat.le_of_ble_eq_true rfl) ?_
  refine gc_vret dX4_init_36 rfl (by decide) (by decide) ⟨rfl, rfl, ?_, ?_, ?_, ?_, ?_⟩
  · exact ceU_s _ _ _
  · rw [ceU_n _ _ _ (by omega), ceU_n _ _ _ (by omega), fr2 N (by omega) (by omega), ceU_n _ _ _ (by omega), ceU_n _ _ _ (by omega)]; exact t1_0
  · rw [ceU_n _ _ _ (by omega), ceU_n _ _ _ (by omega)]; exact t2_0
  · rw [ceU_n _ _ _ (by omega), ceU_n _ _ _ (by omega)]; exact t2_1
  · intro q hq1 hq2
    rw [ceU_n _ _ _ (by omega), ceU_n _ _ _ (by omega), fr2 q (by omega) (by omega), ceU_n _ _ _ (by omega), ceU_n _ _ _ (by omega), fr1 q (by omega) (by omega), ceU_n _ _ _ (by omega), ceU_n _ _ _ (by omega)]
set_option maxRecDepth 100000 in
set_option maxHeartbeats 4000000 in
theorem a_fill3 (X : CX) (k : Nat) (v : Int32) (ce : Nat → va_E) (N : Nat) (hk : k < N) (he : ce k = .inl (cx_a X 0, 3, .inl (fun _ => 0))) : CallsC X 0 0 0 M_J7_fill_53178 [.ref (cx_n X + k), .int v] ce N (fun r ce1 N1 => r = none ∧ N1 = N ∧ ce1 k = .inl (cx_a X 0, 3, .inl (upd (upd (upd (fun _ => 0) 0 v) 1 v) 2 v)) ∧ ∀ q, q ≠ k → q < N → ce1 q = ce q) := by
  refine CallsC.ofP 2 (by decide) rfl (Nat.le_of_ble_eq_true rfl) ?_
  refine gc_iconst (v := 0) dJ7_fill_53178_0 (by decide) ?_
  refine gc_istore_n dJ7_fill_53178_1 (by decide) ?_
  refine gc_aload_n dJ7_fill_53178_2 rfl ?_
  refine gc_alen (t := 0) (n := 3) (by decide) dJ7_fill_53178_3 (by omega) (by exact he) ?_
  refine gc_name (fun yz eyz => ?_)
  have eyz : yz = 3 := eyz
  subst eyz
  refine gc_istore_n dJ7_fill_53178_4 (by decide) ?_
  refine gc_iload_n dJ7_fill_53178_5 rfl ?_
  refine gc_iload_n dJ7_fill_53178_6 rfl ?_
  refine gc_icmp_ge 20 dJ7_fill_53178_7 (by decide) (fun hcz => absurd hcz (by decide)) (fun hcz => ?_)
  refine gc_aload_n dJ7_fill_53178_10 rfl ?_
  refine gc_iload_n dJ7_fill_53178_11 rfl ?_
  refine gc_iload_n dJ7_fill_53178_12 rfl ?_
  refine gc_iast (n := 3) (f := (fun _ => 0)) 0 dJ7_fill_53178_13 (by omega) (by exact he) rfl (by decide) (by decide) ?_
  refine gc_iinc (v := 1) dJ7_fill_53178_14 rfl (by decide) (by decide) ?_
  refine gc_goto 5 dJ7_fill_53178_17 (by decide) ?_
  refine gc_iload_n dJ7_fill_53178_5 rfl ?_
  refine gc_iload_n dJ7_fill_53178_6 rfl ?_
  refine gc_icmp_ge 20 dJ7_fill_53178_7 (by decide) (fun hcz => absurd hcz (by decide)) (fun hcz => ?_)
  refine gc_aload_n dJ7_fill_53178_10 rfl ?_
  refine gc_iload_n dJ7_fill_53178_11 rfl ?_
  refine gc_iload_n dJ7_fill_53178_12 rfl ?_
  refine gc_iast (n := 3) (f := (upd (fun _ => 0) 0 v)) 1 dJ7_fill_53178_13 (by omega) (by exact ceU_s _ _ _) rfl (by decide) (by decide) ?_
  refine gc_iinc (v := 2) dJ7_fill_53178_14 rfl (by decide) (by decide) ?_
  refine gc_goto 5 dJ7_fill_53178_17 (by decide) ?_
  refine gc_iload_n dJ7_fill_53178_5 rfl ?_
  refine gc_iload_n dJ7_fill_53178_6 rfl ?_
  refine gc_icmp_ge 20 dJ7_fill_53178_7 (by decide) (fun hcz => absurd hcz (by decide)) (fun hcz => ?_)
  refine gc_aload_n dJ7_fill_53178_10 rfl ?_
  refine gc_iload_n dJ7_fill_53178_11 rfl ?_
  refine gc_iload_n dJ7_fill_53178_12 rfl ?_
  refine gc_iast (n := 3) (f := (upd (upd (fun _ => 0) 0 v) 1 v)) 2 dJ7_fill_53178_13 (by omega) (by exact ceU_s _ _ _) rfl (by decide) (by decide) ?_
  refine gc_iinc (v := 3) dJ7_fill_53178_14 rfl (by decide) (by decide) ?_
  refine gc_goto 5 dJ7_fill_53178_17 (by decide) ?_
  refine gc_iload_n dJ7_fill_53178_5 rfl ?_
  refine gc_iload_n dJ7_fill_53178_6 rfl ?_
  refine gc_icmp_ge 20 dJ7_fill_53178_7 (by decide) (fun hcz => ?_) (fun hcz => absurd hcz (by decide))
  refine gc_vret dJ7_fill_53178_20 rfl (by decide) (by decide) ⟨rfl, rfl, (by exact ceU_s _ _ _), ?_⟩
  intro q hq1 hq2
  rw [ceU_n _ _ _ (by omega), ceU_n _ _ _ (by omega), ceU_n _ _ _ (by omega)]
set_option maxRecDepth 100000 in
set_option maxHeartbeats 4000000 in
theorem a_X0_init (X : CX) (k : Nat)  (ce : Nat → va_E) (N : Nat) (hk : k < N) (he : ce k = .inr (0, [.null, .int 0, .int 0, .int 0, .int 0, .int 0, .int 0, .null, .int 0, .null])) : CallsC X 2 12 80 M_X0_init [.ref (cx_n X + k)] ce N (fun r ce1 N1 => r = none ∧ N1 = N + 1 + 1 + 1 + 1 + 1 + 1 + 1 + 1 + 1 + 1 + 1 + 1 ∧ ce1 k = .inr (0, [.ref (cx_n X + N), .int 0, .int 0, .int 0, .int 0, .int 0, .int 1, .ref (cx_n X + (N + 1)), .int 0, .ref (cx_n X + (N + 1 + 1))]) ∧ ce1 N = .inl (cx_a X 4, 9, .inr (.inr (.inr (.inr (va_up (va_up (va_up (va_up (va_up (va_up (va_up (va_up (va_up (fun _ => none) 0 (some (cx_n X + (N + 1 + 1 + 1)))) 1 (some (cx_n X + (N + 1 + 1 + 1 + 1)))) 2 (some (cx_n X + (N + 1 + 1 + 1 + 1 + 1)))) 3 (some (cx_n X + (N + 1 + 1 + 1 + 1 + 1 + 1)))) 4 (some (cx_n X + (N + 1 + 1 + 1 + 1 + 1 + 1 + 1)))) 5 (some (cx_n X + (N + 1 + 1 + 1 + 1 + 1 + 1 + 1 + 1)))) 6 (some (cx_n X + (N + 1 + 1 + 1 + 1 + 1 + 1 + 1 + 1 + 1)))) 7 (some (cx_n X + (N + 1 + 1 + 1 + 1 + 1 + 1 + 1 + 1 + 1 + 1)))) 8 (some (cx_n X + (N + 1 + 1 + 1 + 1 + 1 + 1 + 1 + 1 + 1 + 1 + 1)))))))) ∧ ce1 (N + 1) = .inl (cx_a X 5, 14, .inr (.inr (.inr (.inr (fun _ => none))))) ∧ ce1 (N + 1 + 1) = .inl (cx_a X 0, 3, .inl (upd (upd (upd (fun _ => 0) 0 (-1000000005)) 1 (-1000000005)) 2 (-1000000005))) ∧ ce1 (N + 1 + 1 + 1) = .inr (1, [.int 0, .int 0, .int 0, .int 0, .int 0, .int 0]) ∧ ce1 (N + 1 + 1 + 1 + 1) = .inr (1, [.int 0, .int 0, .int 0, .int 0, .int 0, .int 0]) ∧ ce1 (N + 1 + 1 + 1 + 1 + 1) = .inr (1, [.int 0, .int 0, .int 0, .int 0, .int 0, .int 0]) ∧ ce1 (N + 1 + 1 + 1 + 1 + 1 + 1) = .inr (1, [.int 0, .int 0, .int 0, .int 0, .int 0, .int 0]) ∧ ce1 (N + 1 + 1 + 1 + 1 + 1 + 1 + 1) = .inr (1, [.int 0, .int 0, .int 0, .int 0, .int 0, .int 0]) ∧ ce1 (N + 1 + 1 + 1 + 1 + 1 + 1 + 1 + 1) = .inr (1, [.int 0, .int 0, .int 0, .int 0, .int 0, .int 0]) ∧ ce1 (N + 1 + 1 + 1 + 1 + 1 + 1 + 1 + 1 + 1) = .inr (1, [.int 0, .int 0, .int 0, .int 0, .int 0, .int 0]) ∧ ce1 (N + 1 + 1 + 1 + 1 + 1 + 1 + 1 + 1 + 1 + 1) = .inr (1, [.int 0, .int 0, .int 0, .int 0, .int 0, .int 0]) ∧ ce1 (N + 1 + 1 + 1 + 1 + 1 + 1 + 1 + 1 + 1 + 1 + 1) = .inr (1, [.int 0, .int 0, .int 0, .int 0, .int 0, .int 0]) ∧ ∀ q, q ≠ k → q < N → ce1 q = ce q) := by
  refine CallsC.ofP 1 (by decide) rfl (Nat.le_of_ble_eq_true rfl) ?_
  refine gc_aload_n dX0_init_0 rfl ?_
  refine gc_objInit dX0_init_1 lob_X0_3 (by decide) (Nat.le_of_ble_eq_true rfl) ?_
  refine gc_aload_n dX0_init_4 rfl ?_
  refine gc_bipush (v := 9) dX0_init_5 (by decide) ?_
  refine gc_anew (t := 4) (C := RX1) 9 dX0_init_7 (by decide) rfl lc_X0_9 lo_X1 rfl (by decide) (by decide) (by decide) ?_
  refine gc_putF (ci := 0) (T := TX0) (Nf := 10) (C := RX0) (j := 0) (ty := (.array (.object "SkittleMen$Man"))) dX0_init_10 lf_X0_11 (by omega) (by rw [ceU_n _ _ _ (by omega)]; exact he) rfl (by decide) rfl rfl rfl (by decide +kernel) rfl rfl (Nat.le_of_ble_eq_true rfl) ?_
  refine gc_aload_n dX0_init_13 rfl ?_
  refine gc_iconst (v := 0) dX0_init_14 (by decide) ?_
  refine gc_put (ci := 0) (T := TX0) (Nf := 10) (C := RX0) (j := 1) (ty := .int) dX0_init_15 (Or.inl (mt_1 _ (List.mem_of_getElem? (i := 82) (by decide +kernel)))) (by omega) (by exact ceU_s _ _ _) rfl (by decide) rfl (by decide +kernel) rfl rfl (Nat.le_of_ble_eq_true rfl) ?_
  refine gc_aload_n dX0_init_18 rfl ?_
  refine gc_iconst (v := 0) dX0_init_19 (by decide) ?_
  refine gc_put (ci := 0) (T := TX0) (Nf := 10) (C := RX0) (j := 2) (ty := .int) dX0_init_20 (Or.inl (mt_1 _ (List.mem_of_getElem? (i := 84) (by decide +kernel)))) (by omega) (by exact ceU_s _ _ _) rfl (by decide) rfl (by decide +kernel) rfl rfl (Nat.le_of_ble_eq_true rfl) ?_
  refine gc_aload_n dX0_init_23 rfl ?_
  refine gc_iconst (v := 0) dX0_init_24 (by decide) ?_
  refine gc_put (ci := 0) (T := TX0) (Nf := 10) (C := RX0) (j := 3) (ty := .int) dX0_init_25 (Or.inl (mt_1 _ (List.mem_of_getElem? (i := 86) (by decide +kernel)))) (by omega) (by exact ceU_s _ _ _) rfl (by decide) rfl (by decide +kernel) rfl rfl (Nat.le_of_ble_eq_true rfl) ?_
  refine gc_aload_n dX0_init_28 rfl ?_
  refine gc_iconst (v := 0) dX0_init_29 (by decide) ?_
  refine gc_put (ci := 0) (T := TX0) (Nf := 10) (C := RX0) (j := 4) (ty := .int) dX0_init_30 (Or.inl (mt_1 _ (List.mem_of_getElem? (i := 88) (by decide +kernel)))) (by omega) (by exact ceU_s _ _ _) rfl (by decide) rfl (by decide +kernel) rfl rfl (Nat.le_of_ble_eq_true rfl) ?_
  refine gc_aload_n dX0_init_33 rfl ?_
  refine gc_iconst (v := 0) dX0_init_34 (by decide) ?_
  refine gc_put (ci := 0) (T := TX0) (Nf := 10) (C := RX0) (j := 5) (ty := .int) dX0_init_35 (Or.inl (mt_1 _ (List.mem_of_getElem? (i := 90) (by decide +kernel)))) (by omega) (by exact ceU_s _ _ _) rfl (by decide) rfl (by decide +kernel) rfl rfl (Nat.le_of_ble_eq_true rfl) ?_
  refine gc_aload_n dX0_init_38 rfl ?_
  refine gc_iconst (v := 1) dX0_init_39 (by decide) ?_
  refine gc_put (ci := 0) (T := TX0) (Nf := 10) (C := RX0) (j := 6) (ty := .int) dX0_init_40 (Or.inl (mt_1 _ (List.mem_of_getElem? (i := 92) (by decide +kernel)))) (by omega) (by exact ceU_s _ _ _) rfl (by decide) rfl (by decide +kernel) rfl rfl (Nat.le_of_ble_eq_true rfl) ?_
  refine gc_aload_n dX0_init_43 rfl ?_
  refine gc_bipush (v := 14) dX0_init_44 (by decide) ?_
  refine gc_anew (t := 5) (C := RX6) 14 dX0_init_46 (by decide) rfl lc_X0_36 lo_X6 rfl (by decide) (by decide) (by decide) ?_
  refine gc_putF (ci := 0) (T := TX0) (Nf := 10) (C := RX0) (j := 7) (ty := (.array (.object "SkittleMen$Text"))) dX0_init_49 lf_X0_38 (by omega) (by rw [ceU_n _ _ _ (by omega)]; exact ceU_s _ _ _) rfl (by decide) rfl rfl rfl (by decide +kernel) rfl rfl (Nat.le_of_ble_eq_true rfl) ?_
  refine gc_aload_n dX0_init_52 rfl ?_
  refine gc_iconst (v := 0) dX0_init_53 (by decide) ?_
  refine gc_put (ci := 0) (T := TX0) (Nf := 10) (C := RX0) (j := 8) (ty := .int) dX0_init_54 (Or.inl (mt_1 _ (List.mem_of_getElem? (i := 96) (by decide +kernel)))) (by omega) (by exact ceU_s _ _ _) rfl (by decide) rfl (by decide +kernel) rfl rfl (Nat.le_of_ble_eq_true rfl) ?_
  refine gc_aload_n dX0_init_57 rfl ?_
  refine gc_iconst (v := 3) dX0_init_58 (by decide) ?_
  refine gc_newa (t := 0) 3 dX0_init_59 (by decide) rfl rfl la_int (by decide) rfl (by decide) (by decide) (by decide) ?_
  refine gc_putF (ci := 0) (T := TX0) (Nf := 10) (C := RX0) (j := 9) (ty := (.array .int)) dX0_init_61 lf_X0_45 (by omega) (by rw [ceU_n _ _ _ (by omega)]; exact ceU_s _ _ _) rfl (by decide) rfl rfl rfl (by decide +kernel) rfl rfl (Nat.le_of_ble_eq_true rfl) ?_
  refine gc_iconst (v := 0) dX0_init_64 (by decide) ?_
  refine gc_istore_n dX0_init_65 (by decide) ?_
  refine gc_iload_n dX0_init_66 rfl ?_
  refine gc_bipush (v := 9) dX0_init_67 (by decide) ?_
  refine gc_icmp_ge 91 dX0_init_69 (by decide) (fun hcz => absurd hcz (by decide)) (fun hcz => ?_)
  refine gc_aload_n dX0_init_72 rfl ?_
  refine gc_get (ci := 0) (C := RX0) (T := TX0) (Nf := 10) (j := 0) (v := .ref (cx_n X + N)) dX0_init_73 (Or.inl (mt_1 _ (List.mem_of_getElem? (i := 79) (by decide +kernel)))) (by omega) (by exact ceU_s _ _ _) rfl (by decide) rfl ?_
  refine gc_iload_n dX0_init_76 rfl ?_
  refine gc_new (ci := 1) (C := RX1) (T := TX1) (Nf := 6) (fs := [.int 0, .int 0, .int 0, .int 0, .int 0, .int 0]) tyX1 tyX1_ok dX0_init_77 lc_X0_9 li_X1 lz_X1 rfl (fun j hj => by rcases (show j = 0 ∨ j = 1 ∨ j = 2 ∨ j = 3 ∨ j = 4 ∨ j = 5 by omega) with rfl | rfl | rfl | rfl | rfl | rfl <;> rfl) (by decide) (by decide) ?_
  refine gc_dup dX0_init_80 rfl ?_
  refine gc_callI (a := cx_n X + (N + 1 + 1 + 1)) (d' := 1) (mc' := 0) (ms' := 0) (y := M_X1_init) (As := []) (rest := [.ref (cx_n X + (N + 1 + 1 + 1)), .int 0, .ref (cx_n X + N)]) dX0_init_81 lm_X0_49 ok_X1_init (by decide) (by decide) (by decide) rfl (Nat.le_of_ble_eq_true rfl) (a_X1_init X (N + 1 + 1 + 1)  _ _ (by omega) (by exact ceU_s _ _ _)) (fun r1 ce1 N1 hq1 => ?_)
  obtain ⟨rfl, rfl, t1_0, fr1⟩ := hq1
  refine gc_aast (t := 4) (n := 9) (f := (fun _ => none)) (ci := 1) (r := (RX1, TX1, 6)) 0 (by decide) rfl dX0_init_84 (by omega) (by rw [fr1 N (by omega) (by omega), ceU_n _ _ _ (by omega), ceU_n _ _ _ (by omega), ceU_n _ _ _ (by omega), ceU_n _ _ _ (by omega), ceU_n _ _ _ (by omega), ceU_n _ _ _ (by omega), ceU_n _ _ _ (by omega), ceU_n _ _ _ (by omega), ceU_n _ _ _ (by omega), ceU_n _ _ _ (by omega), ceU_n _ _ _ (by omega), ceU_n _ _ _ (by omega), ceU_n _ _ _ (by omega)]; exact ceU_s _ _ _) (by omega) (by exact t1_0) rfl rfl (by decide) (by decide) ?_
  refine gc_iinc (v := 1) dX0_init_85 rfl (by decide) (by decide) ?_
  refine gc_goto 66 dX0_init_88 (by decide) ?_
  refine gc_iload_n dX0_init_66 rfl ?_
  refine gc_bipush (v := 9) dX0_init_67 (by decide) ?_
  refine gc_icmp_ge 91 dX0_init_69 (by decide) (fun hcz => absurd hcz (by decide)) (fun hcz => ?_)
  refine gc_aload_n dX0_init_72 rfl ?_
  refine gc_get (ci := 0) (C := RX0) (T := TX0) (Nf := 10) (j := 0) (v := .ref (cx_n X + N)) dX0_init_73 (Or.inl (mt_1 _ (List.mem_of_getElem? (i := 79) (by decide +kernel)))) (by omega) (by rw [ceU_n _ _ _ (by omega), fr1 k (by omega) (by omega), ceU_n _ _ _ (by omega)]; exact ceU_s _ _ _) rfl (by decide) rfl ?_
  refine gc_iload_n dX0_init_76 rfl ?_
  refine gc_new (ci := 1) (C := RX1) (T := TX1) (Nf := 6) (fs := [.int 0, .int 0, .int 0, .int 0, .int 0, .int 0]) tyX1 tyX1_ok dX0_init_77 lc_X0_9 li_X1 lz_X1 rfl (fun j hj => by rcases (show j = 0 ∨ j = 1 ∨ j = 2 ∨ j = 3 ∨ j = 4 ∨ j = 5 by omega) with rfl | rfl | rfl | rfl | rfl | rfl <;> rfl) (by decide) (by decide) ?_
  refine gc_dup dX0_init_80 rfl ?_
  refine gc_callI (a := cx_n X + (N + 1 + 1 + 1 + 1)) (d' := 1) (mc' := 0) (ms' := 0) (y := M_X1_init) (As := []) (rest := [.ref (cx_n X + (N + 1 + 1 + 1 + 1)), .int 1, .ref (cx_n X + N)]) dX0_init_81 lm_X0_49 ok_X1_init (by decide) (by decide) (by decide) rfl (Nat.le_of_ble_eq_true rfl) (a_X1_init X (N + 1 + 1 + 1 + 1)  _ _ (by omega) (by exact ceU_s _ _ _)) (fun r2 ce2 N2 hq2 => ?_)
  obtain ⟨rfl, rfl, t2_0, fr2⟩ := hq2
  refine gc_aast (t := 4) (n := 9) (f := (va_up (fun _ => none) 0 (some (cx_n X + (N + 1 + 1 + 1))))) (ci := 1) (r := (RX1, TX1, 6)) 1 (by decide) rfl dX0_init_84 (by omega) (by rw [fr2 N (by omega) (by omega), ceU_n _ _ _ (by omega)]; exact ceU_s _ _ _) (by omega) (by exact t2_0) rfl rfl (by decide) (by decide) ?_
  refine gc_iinc (v := 2) dX0_init_85 rfl (by decide) (by decide) ?_
  refine gc_goto 66 dX0_init_88 (by decide) ?_
  refine gc_iload_n dX0_init_66 rfl ?_
  refine gc_bipush (v := 9) dX0_init_67 (by decide) ?_
  refine gc_icmp_ge 91 dX0_init_69 (by decide) (fun hcz => absurd hcz (by decide)) (fun hcz => ?_)
  refine gc_aload_n dX0_init_72 rfl ?_
  refine gc_get (ci := 0) (C := RX0) (T := TX0) (Nf := 10) (j := 0) (v := .ref (cx_n X + N)) dX0_init_73 (Or.inl (mt_1 _ (List.mem_of_getElem? (i := 79) (by decide +kernel)))) (by omega) (by rw [ceU_n _ _ _ (by omega), fr2 k (by omega) (by omega), ceU_n _ _ _ (by omega), ceU_n _ _ _ (by omega), fr1 k (by omega) (by omega), ceU_n _ _ _ (by omega)]; exact ceU_s _ _ _) rfl (by decide) rfl ?_
  refine gc_iload_n dX0_init_76 rfl ?_
  refine gc_new (ci := 1) (C := RX1) (T := TX1) (Nf := 6) (fs := [.int 0, .int 0, .int 0, .int 0, .int 0, .int 0]) tyX1 tyX1_ok dX0_init_77 lc_X0_9 li_X1 lz_X1 rfl (fun j hj => by rcases (show j = 0 ∨ j = 1 ∨ j = 2 ∨ j = 3 ∨ j = 4 ∨ j = 5 by omega) with rfl | rfl | rfl | rfl | rfl | rfl <;> rfl) (by decide) (by decide) ?_
  refine gc_dup dX0_init_80 rfl ?_
  refine gc_callI (a := cx_n X + (N + 1 + 1 + 1 + 1 + 1)) (d' := 1) (mc' := 0) (ms' := 0) (y := M_X1_init) (As := []) (rest := [.ref (cx_n X + (N + 1 + 1 + 1 + 1 + 1)), .int 2, .ref (cx_n X + N)]) dX0_init_81 lm_X0_49 ok_X1_init (by decide) (by decide) (by decide) rfl (Nat.le_of_ble_eq_true rfl) (a_X1_init X (N + 1 + 1 + 1 + 1 + 1)  _ _ (by omega) (by exact ceU_s _ _ _)) (fun r3 ce3 N3 hq3 => ?_)
  obtain ⟨rfl, rfl, t3_0, fr3⟩ := hq3
  refine gc_aast (t := 4) (n := 9) (f := (va_up (va_up (fun _ => none) 0 (some (cx_n X + (N + 1 + 1 + 1)))) 1 (some (cx_n X + (N + 1 + 1 + 1 + 1))))) (ci := 1) (r := (RX1, TX1, 6)) 2 (by decide) rfl dX0_init_84 (by omega) (by rw [fr3 N (by omega) (by omega), ceU_n _ _ _ (by omega)]; exact ceU_s _ _ _) (by omega) (by exact t3_0) rfl rfl (by decide) (by decide) ?_
  refine gc_iinc (v := 3) dX0_init_85 rfl (by decide) (by decide) ?_
  refine gc_goto 66 dX0_init_88 (by decide) ?_
  refine gc_iload_n dX0_init_66 rfl ?_
  refine gc_bipush (v := 9) dX0_init_67 (by decide) ?_
  refine gc_icmp_ge 91 dX0_init_69 (by decide) (fun hcz => absurd hcz (by decide)) (fun hcz => ?_)
  refine gc_aload_n dX0_init_72 rfl ?_
  refine gc_get (ci := 0) (C := RX0) (T := TX0) (Nf := 10) (j := 0) (v := .ref (cx_n X + N)) dX0_init_73 (Or.inl (mt_1 _ (List.mem_of_getElem? (i := 79) (by decide +kernel)))) (by omega) (by rw [ceU_n _ _ _ (by omega), fr3 k (by omega) (by omega), ceU_n _ _ _ (by omega), ceU_n _ _ _ (by omega), fr2 k (by omega) (by omega), ceU_n _ _ _ (by omega), ceU_n _ _ _ (by omega), fr1 k (by omega) (by omega), ceU_n _ _ _ (by omega)]; exact ceU_s _ _ _) rfl (by decide) rfl ?_
  refine gc_iload_n dX0_init_76 rfl ?_
  refine gc_new (ci := 1) (C := RX1) (T := TX1) (Nf := 6) (fs := [.int 0, .int 0, .int 0, .int 0, .int 0, .int 0]) tyX1 tyX1_ok dX0_init_77 lc_X0_9 li_X1 lz_X1 rfl (fun j hj => by rcases (show j = 0 ∨ j = 1 ∨ j = 2 ∨ j = 3 ∨ j = 4 ∨ j = 5 by omega) with rfl | rfl | rfl | rfl | rfl | rfl <;> rfl) (by decide) (by decide) ?_
  refine gc_dup dX0_init_80 rfl ?_
  refine gc_callI (a := cx_n X + (N + 1 + 1 + 1 + 1 + 1 + 1)) (d' := 1) (mc' := 0) (ms' := 0) (y := M_X1_init) (As := []) (rest := [.ref (cx_n X + (N + 1 + 1 + 1 + 1 + 1 + 1)), .int 3, .ref (cx_n X + N)]) dX0_init_81 lm_X0_49 ok_X1_init (by decide) (by decide) (by decide) rfl (Nat.le_of_ble_eq_true rfl) (a_X1_init X (N + 1 + 1 + 1 + 1 + 1 + 1)  _ _ (by omega) (by exact ceU_s _ _ _)) (fun r4 ce4 N4 hq4 => ?_)
  obtain ⟨rfl, rfl, t4_0, fr4⟩ := hq4
  refine gc_aast (t := 4) (n := 9) (f := (va_up (va_up (va_up (fun _ => none) 0 (some (cx_n X + (N + 1 + 1 + 1)))) 1 (some (cx_n X + (N + 1 + 1 + 1 + 1)))) 2 (some (cx_n X + (N + 1 + 1 + 1 + 1 + 1))))) (ci := 1) (r := (RX1, TX1, 6)) 3 (by decide) rfl dX0_init_84 (by omega) (by rw [fr4 N (by omega) (by omega), ceU_n _ _ _ (by omega)]; exact ceU_s _ _ _) (by omega) (by exact t4_0) rfl rfl (by decide) (by decide) ?_
  refine gc_iinc (v := 4) dX0_init_85 rfl (by decide) (by decide) ?_
  refine gc_goto 66 dX0_init_88 (by decide) ?_
  refine gc_iload_n dX0_init_66 rfl ?_
  refine gc_bipush (v := 9) dX0_init_67 (by decide) ?_
  refine gc_icmp_ge 91 dX0_init_69 (by decide) (fun hcz => absurd hcz (by decide)) (fun hcz => ?_)
  refine gc_aload_n dX0_init_72 rfl ?_
  refine gc_get (ci := 0) (C := RX0) (T := TX0) (Nf := 10) (j := 0) (v := .ref (cx_n X + N)) dX0_init_73 (Or.inl (mt_1 _ (List.mem_of_getElem? (i := 79) (by decide +kernel)))) (by omega) (by rw [ceU_n _ _ _ (by omega), fr4 k (by omega) (by omega), ceU_n _ _ _ (by omega), ceU_n _ _ _ (by omega), fr3 k (by omega) (by omega), ceU_n _ _ _ (by omega), ceU_n _ _ _ (by omega), fr2 k (by omega) (by omega), ceU_n _ _ _ (by omega), ceU_n _ _ _ (by omega), fr1 k (by omega) (by omega), ceU_n _ _ _ (by omega)]; exact ceU_s _ _ _) rfl (by decide) rfl ?_
  refine gc_iload_n dX0_init_76 rfl ?_
  refine gc_new (ci := 1) (C := RX1) (T := TX1) (Nf := 6) (fs := [.int 0, .int 0, .int 0, .int 0, .int 0, .int 0]) tyX1 tyX1_ok dX0_init_77 lc_X0_9 li_X1 lz_X1 rfl (fun j hj => by rcases (show j = 0 ∨ j = 1 ∨ j = 2 ∨ j = 3 ∨ j = 4 ∨ j = 5 by omega) with rfl | rfl | rfl | rfl | rfl | rfl <;> rfl) (by decide) (by decide) ?_
  refine gc_dup dX0_init_80 rfl ?_
  refine gc_callI (a := cx_n X + (N + 1 + 1 + 1 + 1 + 1 + 1 + 1)) (d' := 1) (mc' := 0) (ms' := 0) (y := M_X1_init) (As := []) (rest := [.ref (cx_n X + (N + 1 + 1 + 1 + 1 + 1 + 1 + 1)), .int 4, .ref (cx_n X + N)]) dX0_init_81 lm_X0_49 ok_X1_init (by decide) (by decide) (by decide) rfl (Nat.le_of_ble_eq_true rfl) (a_X1_init X (N + 1 + 1 + 1 + 1 + 1 + 1 + 1)  _ _ (by omega) (by exact ceU_s _ _ _)) (fun r5 ce5 N5 hq5 => ?_)
  obtain ⟨rfl, rfl, t5_0, fr5⟩ := hq5
  refine gc_aast (t := 4) (n := 9) (f := (va_up (va_up (va_up (va_up (fun _ => none) 0 (some (cx_n X + (N + 1 + 1 + 1)))) 1 (some (cx_n X + (N + 1 + 1 + 1 + 1)))) 2 (some (cx_n X + (N + 1 + 1 + 1 + 1 + 1)))) 3 (some (cx_n X + (N + 1 + 1 + 1 + 1 + 1 + 1))))) (ci := 1) (r := (RX1, TX1, 6)) 4 (by decide) rfl dX0_init_84 (by omega) (by rw [fr5 N (by omega) (by omega), ceU_n _ _ _ (by omega)]; exact ceU_s _ _ _) (by omega) (by exact t5_0) rfl rfl (by decide) (by decide) ?_
  refine gc_iinc (v := 5) dX0_init_85 rfl (by decide) (by decide) ?_
  refine gc_goto 66 dX0_init_88 (by decide) ?_
  refine gc_iload_n dX0_init_66 rfl ?_
  refine gc_bipush (v := 9) dX0_init_67 (by decide) ?_
  refine gc_icmp_ge 91 dX0_init_69 (by decide) (fun hcz => absurd hcz (by decide)) (fun hcz => ?_)
  refine gc_aload_n dX0_init_72 rfl ?_
  refine gc_get (ci := 0) (C := RX0) (T := TX0) (Nf := 10) (j := 0) (v := .ref (cx_n X + N)) dX0_init_73 (Or.inl (mt_1 _ (List.mem_of_getElem? (i := 79) (by decide +kernel)))) (by omega) (by rw [ceU_n _ _ _ (by omega), fr5 k (by omega) (by omega), ceU_n _ _ _ (by omega), ceU_n _ _ _ (by omega), fr4 k (by omega) (by omega), ceU_n _ _ _ (by omega), ceU_n _ _ _ (by omega), fr3 k (by omega) (by omega), ceU_n _ _ _ (by omega), ceU_n _ _ _ (by omega), fr2 k (by omega) (by omega), ceU_n _ _ _ (by omega), ceU_n _ _ _ (by omega), fr1 k (by omega) (by omega), ceU_n _ _ _ (by omega)]; exact ceU_s _ _ _) rfl (by decide) rfl ?_
  refine gc_iload_n dX0_init_76 rfl ?_
  refine gc_new (ci := 1) (C := RX1) (T := TX1) (Nf := 6) (fs := [.int 0, .int 0, .int 0, .int 0, .int 0, .int 0]) tyX1 tyX1_ok dX0_init_77 lc_X0_9 li_X1 lz_X1 rfl (fun j hj => by rcases (show j = 0 ∨ j = 1 ∨ j = 2 ∨ j = 3 ∨ j = 4 ∨ j = 5 by omega) with rfl | rfl | rfl | rfl | rfl | rfl <;> rfl) (by decide) (by decide) ?_
  refine gc_dup dX0_init_80 rfl ?_
  refine gc_callI (a := cx_n X + (N + 1 + 1 + 1 + 1 + 1 + 1 + 1 + 1)) (d' := 1) (mc' := 0) (ms' := 0) (y := M_X1_init) (As := []) (rest := [.ref (cx_n X + (N + 1 + 1 + 1 + 1 + 1 + 1 + 1 + 1)), .int 5, .ref (cx_n X + N)]) dX0_init_81 lm_X0_49 ok_X1_init (by decide) (by decide) (by decide) rfl (Nat.le_of_ble_eq_true rfl) (a_X1_init X (N + 1 + 1 + 1 + 1 + 1 + 1 + 1 + 1)  _ _ (by omega) (by exact ceU_s _ _ _)) (fun r6 ce6 N6 hq6 => ?_)
  obtain ⟨rfl, rfl, t6_0, fr6⟩ := hq6
  refine gc_aast (t := 4) (n := 9) (f := (va_up (va_up (va_up (va_up (va_up (fun _ => none) 0 (some (cx_n X + (N + 1 + 1 + 1)))) 1 (some (cx_n X + (N + 1 + 1 + 1 + 1)))) 2 (some (cx_n X + (N + 1 + 1 + 1 + 1 + 1)))) 3 (some (cx_n X + (N + 1 + 1 + 1 + 1 + 1 + 1)))) 4 (some (cx_n X + (N + 1 + 1 + 1 + 1 + 1 + 1 + 1))))) (ci := 1) (r := (RX1, TX1, 6)) 5 (by decide) rfl dX0_init_84 (by omega) (by rw [fr6 N (by omega) (by omega), ceU_n _ _ _ (by omega)]; exact ceU_s _ _ _) (by omega) (by exact t6_0) rfl rfl (by decide) (by decide) ?_
  refine gc_iinc (v := 6) dX0_init_85 rfl (by decide) (by decide) ?_
  refine gc_goto 66 dX0_init_88 (by decide) ?_
  refine gc_iload_n dX0_init_66 rfl ?_
  refine gc_bipush (v := 9) dX0_init_67 (by decide) ?_
  refine gc_icmp_ge 91 dX0_init_69 (by decide) (fun hcz => absurd hcz (by decide)) (fun hcz => ?_)
  refine gc_aload_n dX0_init_72 rfl ?_
  refine gc_get (ci := 0) (C := RX0) (T := TX0) (Nf := 10) (j := 0) (v := .ref (cx_n X + N)) dX0_init_73 (Or.inl (mt_1 _ (List.mem_of_getElem? (i := 79) (by decide +kernel)))) (by omega) (by rw [ceU_n _ _ _ (by omega), fr6 k (by omega) (by omega), ceU_n _ _ _ (by omega), ceU_n _ _ _ (by omega), fr5 k (by omega) (by omega), ceU_n _ _ _ (by omega), ceU_n _ _ _ (by omega), fr4 k (by omega) (by omega), ceU_n _ _ _ (by omega), ceU_n _ _ _ (by omega), fr3 k (by omega) (by omega), ceU_n _ _ _ (by omega), ceU_n _ _ _ (by omega), fr2 k (by omega) (by omega), ceU_n _ _ _ (by omega), ceU_n _ _ _ (by omega), fr1 k (by omega) (by omega), ceU_n _ _ _ (by omega)]; exact ceU_s _ _ _) rfl (by decide) rfl ?_
  refine gc_iload_n dX0_init_76 rfl ?_
  refine gc_new (ci := 1) (C := RX1) (T := TX1) (Nf := 6) (fs := [.int 0, .int 0, .int 0, .int 0, .int 0, .int 0]) tyX1 tyX1_ok dX0_init_77 lc_X0_9 li_X1 lz_X1 rfl (fun j hj => by rcases (show j = 0 ∨ j = 1 ∨ j = 2 ∨ j = 3 ∨ j = 4 ∨ j = 5 by omega) with rfl | rfl | rfl | rfl | rfl | rfl <;> rfl) (by decide) (by decide) ?_
  refine gc_dup dX0_init_80 rfl ?_
  refine gc_callI (a := cx_n X + (N + 1 + 1 + 1 + 1 + 1 + 1 + 1 + 1 + 1)) (d' := 1) (mc' := 0) (ms' := 0) (y := M_X1_init) (As := []) (rest := [.ref (cx_n X + (N + 1 + 1 + 1 + 1 + 1 + 1 + 1 + 1 + 1)), .int 6, .ref (cx_n X + N)]) dX0_init_81 lm_X0_49 ok_X1_init (by decide) (by decide) (by decide) rfl (Nat.le_of_ble_eq_true rfl) (a_X1_init X (N + 1 + 1 + 1 + 1 + 1 + 1 + 1 + 1 + 1)  _ _ (by omega) (by exact ceU_s _ _ _)) (fun r7 ce7 N7 hq7 => ?_)
  obtain ⟨rfl, rfl, t7_0, fr7⟩ := hq7
  refine gc_aast (t := 4) (n := 9) (f := (va_up (va_up (va_up (va_up (va_up (va_up (fun _ => none) 0 (some (cx_n X + (N + 1 + 1 + 1)))) 1 (some (cx_n X + (N + 1 + 1 + 1 + 1)))) 2 (some (cx_n X + (N + 1 + 1 + 1 + 1 + 1)))) 3 (some (cx_n X + (N + 1 + 1 + 1 + 1 + 1 + 1)))) 4 (some (cx_n X + (N + 1 + 1 + 1 + 1 + 1 + 1 + 1)))) 5 (some (cx_n X + (N + 1 + 1 + 1 + 1 + 1 + 1 + 1 + 1))))) (ci := 1) (r := (RX1, TX1, 6)) 6 (by decide) rfl dX0_init_84 (by omega) (by rw [fr7 N (by omega) (by omega), ceU_n _ _ _ (by omega)]; exact ceU_s _ _ _) (by omega) (by exact t7_0) rfl rfl (by decide) (by decide) ?_
  refine gc_iinc (v := 7) dX0_init_85 rfl (by decide) (by decide) ?_
  refine gc_goto 66 dX0_init_88 (by decide) ?_
  refine gc_iload_n dX0_init_66 rfl ?_
  refine gc_bipush (v := 9) dX0_init_67 (by decide) ?_
  refine gc_icmp_ge 91 dX0_init_69 (by decide) (fun hcz => absurd hcz (by decide)) (fun hcz => ?_)
  refine gc_aload_n dX0_init_72 rfl ?_
  refine gc_get (ci := 0) (C := RX0) (T := TX0) (Nf := 10) (j := 0) (v := .ref (cx_n X + N)) dX0_init_73 (Or.inl (mt_1 _ (List.mem_of_getElem? (i := 79) (by decide +kernel)))) (by omega) (by rw [ceU_n _ _ _ (by omega), fr7 k (by omega) (by omega), ceU_n _ _ _ (by omega), ceU_n _ _ _ (by omega), fr6 k (by omega) (by omega), ceU_n _ _ _ (by omega), ceU_n _ _ _ (by omega), fr5 k (by omega) (by omega), ceU_n _ _ _ (by omega), ceU_n _ _ _ (by omega), fr4 k (by omega) (by omega), ceU_n _ _ _ (by omega), ceU_n _ _ _ (by omega), fr3 k (by omega) (by omega), ceU_n _ _ _ (by omega), ceU_n _ _ _ (by omega), fr2 k (by omega) (by omega), ceU_n _ _ _ (by omega), ceU_n _ _ _ (by omega), fr1 k (by omega) (by omega), ceU_n _ _ _ (by omega)]; exact ceU_s _ _ _) rfl (by decide) rfl ?_
  refine gc_iload_n dX0_init_76 rfl ?_
  refine gc_new (ci := 1) (C := RX1) (T := TX1) (Nf := 6) (fs := [.int 0, .int 0, .int 0, .int 0, .int 0, .int 0]) tyX1 tyX1_ok dX0_init_77 lc_X0_9 li_X1 lz_X1 rfl (fun j hj => by rcases (show j = 0 ∨ j = 1 ∨ j = 2 ∨ j = 3 ∨ j = 4 ∨ j = 5 by omega) with rfl | rfl | rfl | rfl | rfl | rfl <;> rfl) (by decide) (by decide) ?_
  refine gc_dup dX0_init_80 rfl ?_
  refine gc_callI (a := cx_n X + (N + 1 + 1 + 1 + 1 + 1 + 1 + 1 + 1 + 1 + 1)) (d' := 1) (mc' := 0) (ms' := 0) (y := M_X1_init) (As := []) (rest := [.ref (cx_n X + (N + 1 + 1 + 1 + 1 + 1 + 1 + 1 + 1 + 1 + 1)), .int 7, .ref (cx_n X + N)]) dX0_init_81 lm_X0_49 ok_X1_init (by decide) (by decide) (by decide) rfl (Nat.le_of_ble_eq_true rfl) (a_X1_init X (N + 1 + 1 + 1 + 1 + 1 + 1 + 1 + 1 + 1 + 1)  _ _ (by omega) (by exact ceU_s _ _ _)) (fun r8 ce8 N8 hq8 => ?_)
  obtain ⟨rfl, rfl, t8_0, fr8⟩ := hq8
  refine gc_aast (t := 4) (n := 9) (f := (va_up (va_up (va_up (va_up (va_up (va_up (va_up (fun _ => none) 0 (some (cx_n X + (N + 1 + 1 + 1)))) 1 (some (cx_n X + (N + 1 + 1 + 1 + 1)))) 2 (some (cx_n X + (N + 1 + 1 + 1 + 1 + 1)))) 3 (some (cx_n X + (N + 1 + 1 + 1 + 1 + 1 + 1)))) 4 (some (cx_n X + (N + 1 + 1 + 1 + 1 + 1 + 1 + 1)))) 5 (some (cx_n X + (N + 1 + 1 + 1 + 1 + 1 + 1 + 1 + 1)))) 6 (some (cx_n X + (N + 1 + 1 + 1 + 1 + 1 + 1 + 1 + 1 + 1))))) (ci := 1) (r := (RX1, TX1, 6)) 7 (by decide) rfl dX0_init_84 (by omega) (by rw [fr8 N (by omega) (by omega), ceU_n _ _ _ (by omega)]; exact ceU_s _ _ _) (by omega) (by exact t8_0) rfl rfl (by decide) (by decide) ?_
  refine gc_iinc (v := 8) dX0_init_85 rfl (by decide) (by decide) ?_
  refine gc_goto 66 dX0_init_88 (by decide) ?_
  refine gc_iload_n dX0_init_66 rfl ?_
  refine gc_bipush (v := 9) dX0_init_67 (by decide) ?_
  refine gc_icmp_ge 91 dX0_init_69 (by decide) (fun hcz => absurd hcz (by decide)) (fun hcz => ?_)
  refine gc_aload_n dX0_init_72 rfl ?_
  refine gc_get (ci := 0) (C := RX0) (T := TX0) (Nf := 10) (j := 0) (v := .ref (cx_n X + N)) dX0_init_73 (Or.inl (mt_1 _ (List.mem_of_getElem? (i := 79) (by decide +kernel)))) (by omega) (by rw [ceU_n _ _ _ (by omega), fr8 k (by omega) (by omega), ceU_n _ _ _ (by omega), ceU_n _ _ _ (by omega), fr7 k (by omega) (by omega), ceU_n _ _ _ (by omega), ceU_n _ _ _ (by omega), fr6 k (by omega) (by omega), ceU_n _ _ _ (by omega), ceU_n _ _ _ (by omega), fr5 k (by omega) (by omega), ceU_n _ _ _ (by omega), ceU_n _ _ _ (by omega), fr4 k (by omega) (by omega), ceU_n _ _ _ (by omega), ceU_n _ _ _ (by omega), fr3 k (by omega) (by omega), ceU_n _ _ _ (by omega), ceU_n _ _ _ (by omega), fr2 k (by omega) (by omega), ceU_n _ _ _ (by omega), ceU_n _ _ _ (by omega), fr1 k (by omega) (by omega), ceU_n _ _ _ (by omega)]; exact ceU_s _ _ _) rfl (by decide) rfl ?_
  refine gc_iload_n dX0_init_76 rfl ?_
  refine gc_new (ci := 1) (C := RX1) (T := TX1) (Nf := 6) (fs := [.int 0, .int 0, .int 0, .int 0, .int 0, .int 0]) tyX1 tyX1_ok dX0_init_77 lc_X0_9 li_X1 lz_X1 rfl (fun j hj => by rcases (show j = 0 ∨ j = 1 ∨ j = 2 ∨ j = 3 ∨ j = 4 ∨ j = 5 by omega) with rfl | rfl | rfl | rfl | rfl | rfl <;> rfl) (by decide) (by decide) ?_
  refine gc_dup dX0_init_80 rfl ?_
  refine gc_callI (a := cx_n X + (N + 1 + 1 + 1 + 1 + 1 + 1 + 1 + 1 + 1 + 1 + 1)) (d' := 1) (mc' := 0) (ms' := 0) (y := M_X1_init) (As := []) (rest := [.ref (cx_n X + (N + 1 + 1 + 1 + 1 + 1 + 1 + 1 + 1 + 1 + 1 + 1)), .int 8, .ref (cx_n X + N)]) dX0_init_81 lm_X0_49 ok_X1_init (by decide) (by decide) (by decide) rfl (Nat.le_of_ble_eq_true rfl) (a_X1_init X (N + 1 + 1 + 1 + 1 + 1 + 1 + 1 + 1 + 1 + 1 + 1)  _ _ (by omega) (by exact ceU_s _ _ _)) (fun r9 ce9 N9 hq9 => ?_)
  obtain ⟨rfl, rfl, t9_0, fr9⟩ := hq9
  refine gc_aast (t := 4) (n := 9) (f := (va_up (va_up (va_up (va_up (va_up (va_up (va_up (va_up (fun _ => none) 0 (some (cx_n X + (N + 1 + 1 + 1)))) 1 (some (cx_n X + (N + 1 + 1 + 1 + 1)))) 2 (some (cx_n X + (N + 1 + 1 + 1 + 1 + 1)))) 3 (some (cx_n X + (N + 1 + 1 + 1 + 1 + 1 + 1)))) 4 (some (cx_n X + (N + 1 + 1 + 1 + 1 + 1 + 1 + 1)))) 5 (some (cx_n X + (N + 1 + 1 + 1 + 1 + 1 + 1 + 1 + 1)))) 6 (some (cx_n X + (N + 1 + 1 + 1 + 1 + 1 + 1 + 1 + 1 + 1)))) 7 (some (cx_n X + (N + 1 + 1 + 1 + 1 + 1 + 1 + 1 + 1 + 1 + 1))))) (ci := 1) (r := (RX1, TX1, 6)) 8 (by decide) rfl dX0_init_84 (by omega) (by rw [fr9 N (by omega) (by omega), ceU_n _ _ _ (by omega)]; exact ceU_s _ _ _) (by omega) (by exact t9_0) rfl rfl (by decide) (by decide) ?_
  refine gc_iinc (v := 9) dX0_init_85 rfl (by decide) (by decide) ?_
  refine gc_goto 66 dX0_init_88 (by decide) ?_
  refine gc_iload_n dX0_init_66 rfl ?_
  refine gc_bipush (v := 9) dX0_init_67 (by decide) ?_
  refine gc_icmp_ge 91 dX0_init_69 (by decide) (fun hcz => ?_) (fun hcz => absurd hcz (by decide))
  refine gc_aload_n dX0_init_91 rfl ?_
  refine gc_get (ci := 0) (C := RX0) (T := TX0) (Nf := 10) (j := 9) (v := .ref (cx_n X + (N + 1 + 1))) dX0_init_92 (Or.inl (mt_1 _ (List.mem_of_getElem? (i := 98) (by decide +kernel)))) (by omega) (by rw [ceU_n _ _ _ (by omega), fr9 k (by omega) (by omega), ceU_n _ _ _ (by omega), ceU_n _ _ _ (by omega), fr8 k (by omega) (by omega), ceU_n _ _ _ (by omega), ceU_n _ _ _ (by omega), fr7 k (by omega) (by omega), ceU_n _ _ _ (by omega), ceU_n _ _ _ (by omega), fr6 k (by omega) (by omega), ceU_n _ _ _ (by omega), ceU_n _ _ _ (by omega), fr5 k (by omega) (by omega), ceU_n _ _ _ (by omega), ceU_n _ _ _ (by omega), fr4 k (by omega) (by omega), ceU_n _ _ _ (by omega), ceU_n _ _ _ (by omega), fr3 k (by omega) (by omega), ceU_n _ _ _ (by omega), ceU_n _ _ _ (by omega), fr2 k (by omega) (by omega), ceU_n _ _ _ (by omega), ceU_n _ _ _ (by omega), fr1 k (by omega) (by omega), ceU_n _ _ _ (by omega)]; exact ceU_s _ _ _) rfl (by decide) rfl ?_
  refine gc_ldc (v := (-1000000005)) dX0_init_95 lk_X0_50 ?_
  refine gc_callS (d' := 0) (mc' := 0) (ms' := 0) (y := M_J7_fill_53178) (As := [.ref (cx_n X + (N + 1 + 1)), .int (-1000000005)]) (rest := []) dX0_init_97 lm_X0_51 ok_J7_fill_53178 (by decide) (by decide) (by decide) rfl (Nat.le_of_ble_eq_true rfl) (a_fill3 X (N + 1 + 1) (-1000000005) _ _ (by omega) (by rw [ceU_n _ _ _ (by omega), fr9 (N + 1 + 1) (by omega) (by omega), ceU_n _ _ _ (by omega), ceU_n _ _ _ (by omega), fr8 (N + 1 + 1) (by omega) (by omega), ceU_n _ _ _ (by omega), ceU_n _ _ _ (by omega), fr7 (N + 1 + 1) (by omega) (by omega), ceU_n _ _ _ (by omega), ceU_n _ _ _ (by omega), fr6 (N + 1 + 1) (by omega) (by omega), ceU_n _ _ _ (by omega), ceU_n _ _ _ (by omega), fr5 (N + 1 + 1) (by omega) (by omega), ceU_n _ _ _ (by omega), ceU_n _ _ _ (by omega), fr4 (N + 1 + 1) (by omega) (by omega), ceU_n _ _ _ (by omega), ceU_n _ _ _ (by omega), fr3 (N + 1 + 1) (by omega) (by omega), ceU_n _ _ _ (by omega), ceU_n _ _ _ (by omega), fr2 (N + 1 + 1) (by omega) (by omega), ceU_n _ _ _ (by omega), ceU_n _ _ _ (by omega), fr1 (N + 1 + 1) (by omega) (by omega), ceU_n _ _ _ (by omega), ceU_n _ _ _ (by omega)]; exact ceU_s _ _ _)) (fun r10 ce10 N10 hq10 => ?_)
  obtain ⟨rfl, rfl, t10_0, fr10⟩ := hq10
  refine gc_vret dX0_init_100 rfl (by decide) (by decide) ⟨rfl, rfl, ?_, ?_, ?_, ?_, ?_, ?_, ?_, ?_, ?_, ?_, ?_, ?_, ?_, ?_⟩
  · rw [fr10 k (by omega) (by omega), ceU_n _ _ _ (by omega), fr9 k (by omega) (by omega), ceU_n _ _ _ (by omega), ceU_n _ _ _ (by omega), fr8 k (by omega) (by omega), ceU_n _ _ _ (by omega), ceU_n _ _ _ (by omega), fr7 k (by omega) (by omega), ceU_n _ _ _ (by omega), ceU_n _ _ _ (by omega), fr6 k (by omega) (by omega), ceU_n _ _ _ (by omega), ceU_n _ _ _ (by omega), fr5 k (by omega) (by omega), ceU_n _ _ _ (by omega), ceU_n _ _ _ (by omega), fr4 k (by omega) (by omega), ceU_n _ _ _ (by omega), ceU_n _ _ _ (by omega), fr3 k (by omega) (by omega), ceU_n _ _ _ (by omega), ceU_n _ _ _ (by omega), fr2 k (by omega) (by omega), ceU_n _ _ _ (by omega), ceU_n _ _ _ (by omega), fr1 k (by omega) (by omega), ceU_n _ _ _ (by omega)]; exact ceU_s _ _ _
  · rw [fr10 N (by omega) (by omega)]; exact ceU_s _ _ _
  · rw [fr10 (N + 1) (by omega) (by omega), ceU_n _ _ _ (by omega), fr9 (N + 1) (by omega) (by omega), ceU_n _ _ _ (by omega), ceU_n _ _ _ (by omega), fr8 (N + 1) (by omega) (by omega), ceU_n _ _ _ (by omega), ceU_n _ _ _ (by omega), fr7 (N + 1) (by omega) (by omega), ceU_n _ _ _ (by omega), ceU_n _ _ _ (by omega), fr6 (N + 1) (by omega) (by omega), ceU_n _ _ _ (by omega), ceU_n _ _ _ (by omega), fr5 (N + 1) (by omega) (by omega), ceU_n _ _ _ (by omega), ceU_n _ _ _ (by omega), fr4 (N + 1) (by omega) (by omega), ceU_n _ _ _ (by omega), ceU_n _ _ _ (by omega), fr3 (N + 1) (by omega) (by omega), ceU_n _ _ _ (by omega), ceU_n _ _ _ (by omega), fr2 (N + 1) (by omega) (by omega), ceU_n _ _ _ (by omega), ceU_n _ _ _ (by omega), fr1 (N + 1) (by omega) (by omega), ceU_n _ _ _ (by omega), ceU_n _ _ _ (by omega), ceU_n _ _ _ (by omega), ceU_n _ _ _ (by omega), ceU_n _ _ _ (by omega)]; exact ceU_s _ _ _
  · exact t10_0
  · rw [fr10 (N + 1 + 1 + 1) (by omega) (by omega), ceU_n _ _ _ (by omega), fr9 (N + 1 + 1 + 1) (by omega) (by omega), ceU_n _ _ _ (by omega), ceU_n _ _ _ (by omega), fr8 (N + 1 + 1 + 1) (by omega) (by omega), ceU_n _ _ _ (by omega), ceU_n _ _ _ (by omega), fr7 (N + 1 + 1 + 1) (by omega) (by omega), ceU_n _ _ _ (by omega), ceU_n _ _ _ (by omega), fr6 (N + 1 + 1 + 1) (by omega) (by omega), ceU_n _ _ _ (by omega), ceU_n _ _ _ (by omega), fr5 (N + 1 + 1 + 1) (by omega) (by omega), ceU_n _ _ _ (by omega), ceU_n _ _ _ (by omega), fr4 (N + 1 + 1 + 1) (by omega) (by omega), ceU_n _ _ _ (by omega), ceU_n _ _ _ (by omega), fr3 (N + 1 + 1 + 1) (by omega) (by omega), ceU_n _ _ _ (by omega), ceU_n _ _ _ (by omega), fr2 (N + 1 + 1 + 1) (by omega) (by omega), ceU_n _ _ _ (by omega), ceU_n _ _ _ (by omega)]; exact t1_0
  · rw [fr10 (N + 1 + 1 + 1 + 1) (by omega) (by omega), ceU_n _ _ _ (by omega), fr9 (N + 1 + 1 + 1 + 1) (by omega) (by omega), ceU_n _ _ _ (by omega), ceU_n _ _ _ (by omega), fr8 (N + 1 + 1 + 1 + 1) (by omega) (by omega), ceU_n _ _ _ (by omega), ceU_n _ _ _ (by omega), fr7 (N + 1 + 1 + 1 + 1) (by omega) (by omega), ceU_n _ _ _ (by omega), ceU_n _ _ _ (by omega), fr6 (N + 1 + 1 + 1 + 1) (by omega) (by omega), ceU_n _ _ _ (by omega), ceU_n _ _ _ (by omega), fr5 (N + 1 + 1 + 1 + 1) (by omega) (by omega), ceU_n _ _ _ (by omega), ceU_n _ _ _ (by omega), fr4 (N + 1 + 1 + 1 + 1) (by omega) (by omega), ceU_n _ _ _ (by omega), ceU_n _ _ _ (by omega), fr3 (N + 1 + 1 + 1 + 1) (by omega) (by omega), ceU_n _ _ _ (by omega), ceU_n _ _ _ (by omega)]; exact t2_0
  · rw [fr10 (N + 1 + 1 + 1 + 1 + 1) (by omega) (by omega), ceU_n _ _ _ (by omega), fr9 (N + 1 + 1 + 1 + 1 + 1) (by omega) (by omega), ceU_n _ _ _ (by omega), ceU_n _ _ _ (by omega), fr8 (N + 1 + 1 + 1 + 1 + 1) (by omega) (by omega), ceU_n _ _ _ (by omega), ceU_n _ _ _ (by omega), fr7 (N + 1 + 1 + 1 + 1 + 1) (by omega) (by omega), ceU_n _ _ _ (by omega), ceU_n _ _ _ (by omega), fr6 (N + 1 + 1 + 1 + 1 + 1) (by omega) (by omega), ceU_n _ _ _ (by omega), ceU_n _ _ _ (by omega), fr5 (N + 1 + 1 + 1 + 1 + 1) (by omega) (by omega), ceU_n _ _ _ (by omega), ceU_n _ _ _ (by omega), fr4 (N + 1 + 1 + 1 + 1 + 1) (by omega) (by omega), ceU_n _ _ _ (by omega), ceU_n _ _ _ (by omega)]; exact t3_0
  · rw [fr10 (N + 1 + 1 + 1 + 1 + 1 + 1) (by omega) (by omega), ceU_n _ _ _ (by omega), fr9 (N + 1 + 1 + 1 + 1 + 1 + 1) (by omega) (by omega), ceU_n _ _ _ (by omega), ceU_n _ _ _ (by omega), fr8 (N + 1 + 1 + 1 + 1 + 1 + 1) (by omega) (by omega), ceU_n _ _ _ (by omega), ceU_n _ _ _ (by omega), fr7 (N + 1 + 1 + 1 + 1 + 1 + 1) (by omega) (by omega), ceU_n _ _ _ (by omega), ceU_n _ _ _ (by omega), fr6 (N + 1 + 1 + 1 + 1 + 1 + 1) (by omega) (by omega), ceU_n _ _ _ (by omega), ceU_n _ _ _ (by omega), fr5 (N + 1 + 1 + 1 + 1 + 1 + 1) (by omega) (by omega), ceU_n _ _ _ (by omega), ceU_n _ _ _ (by omega)]; exact t4_0
  · rw [fr10 (N + 1 + 1 + 1 + 1 + 1 + 1 + 1) (by omega) (by omega), ceU_n _ _ _ (by omega), fr9 (N + 1 + 1 + 1 + 1 + 1 + 1 + 1) (by omega) (by omega), ceU_n _ _ _ (by omega), ceU_n _ _ _ (by omega), fr8 (N + 1 + 1 + 1 + 1 + 1 + 1 + 1) (by omega) (by omega), ceU_n _ _ _ (by omega), ceU_n _ _ _ (by omega), fr7 (N + 1 + 1 + 1 + 1 + 1 + 1 + 1) (by omega) (by omega), ceU_n _ _ _ (by omega), ceU_n _ _ _ (by omega), fr6 (N + 1 + 1 + 1 + 1 + 1 + 1 + 1) (by omega) (by omega), ceU_n _ _ _ (by omega), ceU_n _ _ _ (by omega)]; exact t5_0
  · rw [fr10 (N + 1 + 1 + 1 + 1 + 1 + 1 + 1 + 1) (by omega) (by omega), ceU_n _ _ _ (by omega), fr9 (N + 1 + 1 + 1 + 1 + 1 + 1 + 1 + 1) (by omega) (by omega), ceU_n _ _ _ (by omega), ceU_n _ _ _ (by omega), fr8 (N + 1 + 1 + 1 + 1 + 1 + 1 + 1 + 1) (by omega) (by omega), ceU_n _ _ _ (by omega), ceU_n _ _ _ (by omega), fr7 (N + 1 + 1 + 1 + 1 + 1 + 1 + 1 + 1) (by omega) (by omega), ceU_n _ _ _ (by omega), ceU_n _ _ _ (by omega)]; exact t6_0
  · rw [fr10 (N + 1 + 1 + 1 + 1 + 1 + 1 + 1 + 1 + 1) (by omega) (by omega), ceU_n _ _ _ (by omega), fr9 (N + 1 + 1 + 1 + 1 + 1 + 1 + 1 + 1 + 1) (by omega) (by omega), ceU_n _ _ _ (by omega), ceU_n _ _ _ (by omega), fr8 (N + 1 + 1 + 1 + 1 + 1 + 1 + 1 + 1 + 1) (by omega) (by omega), ceU_n _ _ _ (by omega), ceU_n _ _ _ (by omega)]; exact t7_0
  · rw [fr10 (N + 1 + 1 + 1 + 1 + 1 + 1 + 1 + 1 + 1 + 1) (by omega) (by omega), ceU_n _ _ _ (by omega), fr9 (N + 1 + 1 + 1 + 1 + 1 + 1 + 1 + 1 + 1 + 1) (by omega) (by omega), ceU_n _ _ _ (by omega), ceU_n _ _ _ (by omega)]; exact t8_0
  · rw [fr10 (N + 1 + 1 + 1 + 1 + 1 + 1 + 1 + 1 + 1 + 1 + 1) (by omega) (by omega), ceU_n _ _ _ (by omega)]; exact t9_0
  · intro q hq1 hq2
    rw [fr10 q (by omega) (by omega), ceU_n _ _ _ (by omega), fr9 q (by omega) (by omega), ceU_n _ _ _ (by omega), ceU_n _ _ _ (by omega), fr8 q (by omega) (by omega), ceU_n _ _ _ (by omega), ceU_n _ _ _ (by omega), fr7 q (by omega) (by omega), ceU_n _ _ _ (by omega), ceU_n _ _ _ (by omega), fr6 q (by omega) (by omega), ceU_n _ _ _ (by omega), ceU_n _ _ _ (by omega), fr5 q (by omega) (by omega), ceU_n _ _ _ (by omega), ceU_n _ _ _ (by omega), fr4 q (by omega) (by omega), ceU_n _ _ _ (by omega), ceU_n _ _ _ (by omega), fr3 q (by omega) (by omega), ceU_n _ _ _ (by omega), ceU_n _ _ _ (by omega), fr2 q (by omega) (by omega), ceU_n _ _ _ (by omega), ceU_n _ _ _ (by omega), fr1 q (by omega) (by omega), ceU_n _ _ _ (by omega), ceU_n _ _ _ (by omega), ceU_n _ _ _ (by omega), ceU_n _ _ _ (by omega), ceU_n _ _ _ (by omega), ceU_n _ _ _ (by omega), ceU_n _ _ _ (by omega), ceU_n _ _ _ (by omega), ceU_n _ _ _ (by omega), ceU_n _ _ _ (by omega), ceU_n _ _ _ (by omega), ceU_n _ _ _ (by omega), ceU_n _ _ _ (by omega), ceU_n _ _ _ (by omega)]
