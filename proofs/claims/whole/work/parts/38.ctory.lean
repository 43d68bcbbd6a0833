def z_X9_init (X : CX) (ce1 : Nat → va_E) : Prop := ce1 82 = .inr (9, [.ref (cx_n X + 83), .ref (cx_n X + 84), .ref (cx_n X + 85), .int 0, .int 0, .ref (cx_n X + 86), .ref (cx_n X + 87), .ref (cx_n X + 88), .ref (cx_n X + 89), .int 0, .int 0, .int 0, .int 0, .int 0, .int 0, .int 0, .ref (cx_n X + 90), .ref (cx_n X + 91), .ref (cx_n X + 92), .int 0, .int 0, .ref (cx_n X + 93), .int 0, .ref (cx_n X + 94), .ref (cx_n X + 95), .ref (cx_n X + 96), .ref (cx_n X + 97), .ref (cx_n X + 98), .ref (cx_n X + 99), .ref (cx_n X + 100), .ref (cx_n X + 101), .ref (cx_n X + 102), .ref (cx_n X + 103), .ref (cx_n X + 104), .ref (cx_n X + 105), .int 0]) ∧ ce1 83 = .inl (cx_a X 0, 1433, .inl (upd (fun _ => 0) 0 1)) ∧ ce1 84 = .inl (cx_a X 0, 1433, .inl (fun _ => 0)) ∧ ce1 85 = .inl (cx_a X 0, 1433, .inl (fun _ => 0)) ∧ ce1 86 = .inl (cx_a X 0, 512, .inl (fun _ => 0)) ∧ ce1 87 = .inl (cx_a X 0, 512, .inl (fun _ => 0)) ∧ ce1 88 = .inl (cx_a X 0, 9, .inl (fun _ => 0)) ∧ ce1 89 = .inl (cx_a X 0, 96, .inl (fun _ => 0)) ∧ ce1 90 = .inl (cx_a X 2, 12, .inl (upd (upd (upd (upd (upd (upd (upd (upd (upd (upd (upd (upd (fun _ => 0) 0 98) 1 101) 2 97) 3 114) 4 115) 5 102) 6 101) 7 101) 8 102) 9 105) 10 110) 11 101)) ∧ ce1 91 = .inl (cx_a X 0, 4, .inl (upd (upd (upd (upd (fun _ => 0) 0 0) 1 5) 2 8) 3 12)) ∧ ce1 92 = .inl (cx_a X 0, 96, .inl (fun _ => 0)) ∧ ce1 93 = .inl (cx_a X 0, 96, .inl (fun _ => 0)) ∧ ce1 94 = .inl (cx_a X 3, 10, .inl (fun _ => 0)) ∧ ce1 95 = .inl (cx_a X 0, 96, .inl (fun _ => 0)) ∧ ce1 96 = .inl (cx_a X 0, 4, .inl (fun _ => 0)) ∧ ce1 97 = .inl (cx_a X 0, 4, .inl (upd (upd (upd (upd (fun _ => 0) 0 (-1)) 1 (-1)) 2 (-1)) 3 (-1))) ∧ ce1 98 = .inl (cx_a X 0, 4, .inl (fun _ => 0)) ∧ ce1 99 = .inl (cx_a X 0, 96, .inl (fun _ => 0)) ∧ ce1 100 = .inl (cx_a X 0, 5, .inl (fun _ => 0)) ∧ ce1 101 = .inl (cx_a X 0, 5, .inl (fun _ => 0)) ∧ ce1 102 = .inl (cx_a X 0, 5, .inl (fun _ => 0)) ∧ ce1 103 = .inl (cx_a X 0, 120, .inl (fun _ => 0)) ∧ ce1 104 = .inl (cx_a X 0, 24, .inl (fun _ => 0)) ∧ ce1 105 = .inl (cx_a X 0, 60, .inl (fun _ => 0))
set_option maxRecDepth 100000 in
set_option maxHeartbeats 8000000 in
theorem a_X9_init (X : CX) (ce : Nat → va_E) (he : ce 82 = .inr (9, [.null, .null, .null, .int 0, .int 0, .null, .null, .null, .null, .int 0, .int 0, .int 0, .int 0, .int 0, .int 0, .int 0, .null, .null, .null, .int 0, .int 0, .null, .int 0, .null, .null, .null, .null, .null, .null, .null, .null, .null, .null, .null, .null, .int 0])) : CallsC X 1 23 6069 M_X9_init [.ref (cx_n X + 82)] ce 83 (fun r ce1 N1 => r = none ∧ N1 = 106 ∧ z_X9_init X ce1 ∧ ∀ q, q < 82 → ce1 q = ce q) := by
  refine CallsC.ofP 0 (by decide) rfl (Nat.le_of_ble_eq_true rfl) ?_
  refine gc_aload_n dX9_init_0 rfl ?_
  refine gc_objInit dX9_init_1 lob_X9_1 (by decide) (Nat.le_of_ble_eq_true rfl) ?_
  refine gc_aload_n dX9_init_4 rfl ?_
  refine gc_sipush (v := 1433) dX9_init_5 (by decide) ?_
  refine gc_newa (t := 0) 1433 dX9_init_8 (by decide) rfl rfl la_int (by decide) rfl (by decide) (by decide) (by decide) ?_
  refine gc_putF (ci := 9) (T := TX9) (Nf := 36) (C := RX9) (j := 0) (ty := (.array .int)) dX9_init_10 lf_X9_9 (by omega) (by rw [ceU_n _ _ _ (by omega)]; exact he) rfl (by decide) rfl rfl rfl (by decide +kernel) rfl rfl (Nat.le_of_ble_eq_true rfl) ?_
  refine gc_aload_n dX9_init_13 rfl ?_
  refine gc_sipush (v := 1433) dX9_init_14 (by decide) ?_
  refine gc_newa (t := 0) 1433 dX9_init_17 (by decide) rfl rfl la_int (by decide) rfl (by decide) (by decide) (by decide) ?_
  refine gc_putF (ci := 9) (T := TX9) (Nf := 36) (C := RX9) (j := 1) (ty := (.array .int)) dX9_init_19 lf_X9_13 (by omega) (by rw [ceU_n _ _ _ (by omega)]; exact ceU_s _ _ _) rfl (by decide) rfl rfl rfl (by decide +kernel) rfl rfl (Nat.le_of_ble_eq_true rfl) ?_
  refine gc_aload_n dX9_init_22 rfl ?_
  refine gc_sipush (v := 1433) dX9_init_23 (by decide) ?_
  refine gc_newa (t := 0) 1433 dX9_init_26 (by decide) rfl rfl la_int (by decide) rfl (by decide) (by decide) (by decide) ?_
  refine gc_putF (ci := 9) (T := TX9) (Nf := 36) (C := RX9) (j := 2) (ty := (.array .int)) dX9_init_28 lf_X9_16 (by omega) (by rw [ceU_n _ _ _ (by omega)]; exact ceU_s _ _ _) rfl (by decide) rfl rfl rfl (by decide +kernel) rfl rfl (Nat.le_of_ble_eq_true rfl) ?_
  refine gc_aload_n dX9_init_31 rfl ?_
  refine gc_sipush (v := 512) dX9_init_32 (by decide) ?_
  refine gc_newa (t := 0) 512 dX9_init_35 (by decide) rfl rfl la_int (by decide) rfl (by decide) (by decide) (by decide) ?_
  refine gc_putF (ci := 9) (T := TX9) (Nf := 36) (C := RX9) (j := 5) (ty := (.array .int)) dX9_init_37 lf_X9_19 (by omega) (by rw [ceU_n _ _ _ (by omega)]; exact ceU_s _ _ _) rfl (by decide) rfl rfl rfl (by decide +kernel) rfl rfl (Nat.le_of_ble_eq_true rfl) ?_
  refine gc_aload_n dX9_init_40 rfl ?_
  refine gc_sipush (v := 512) dX9_init_41 (by decide) ?_
  refine gc_newa (t := 0) 512 dX9_init_44 (by decide) rfl rfl la_int (by decide) rfl (by decide) (by decide) (by decide) ?_
  refine gc_putF (ci := 9) (T := TX9) (Nf := 36) (C := RX9) (j := 6) (ty := (.array .int)) dX9_init_46 lf_X9_22 (by omega) (by rw [ceU_n _ _ _ (by omega)]; exact ceU_s _ _ _) rfl (by decide) rfl rfl rfl (by decide +kernel) rfl rfl (Nat.le_of_ble_eq_true rfl) ?_
  refine gc_aload_n dX9_init_49 rfl ?_
  refine gc_bipush (v := 9) dX9_init_50 (by decide) ?_
  refine gc_newa (t := 0) 9 dX9_init_52 (by decide) rfl rfl la_int (by decide) rfl (by decide) (by decide) (by decide) ?_
  refine gc_putF (ci := 9) (T := TX9) (Nf := 36) (C := RX9) (j := 7) (ty := (.array .int)) dX9_init_54 lf_X9_25 (by omega) (by rw [ceU_n _ _ _ (by omega)]; exact ceU_s _ _ _) rfl (by decide) rfl rfl rfl (by decide +kernel) rfl rfl (Nat.le_of_ble_eq_true rfl) ?_
  refine gc_aload_n dX9_init_57 rfl ?_
  refine gc_bipush (v := 96) dX9_init_58 (by decide) ?_
  refine gc_newa (t := 0) 96 dX9_init_60 (by decide) rfl rfl la_int (by decide) rfl (by decide) (by decide) (by decide) ?_
  refine gc_putF (ci := 9) (T := TX9) (Nf := 36) (C := RX9) (j := 8) (ty := (.array .int)) dX9_init_62 lf_X9_28 (by omega) (by rw [ceU_n _ _ _ (by omega)]; exact ceU_s _ _ _) rfl (by decide) rfl rfl rfl (by decide +kernel) rfl rfl (Nat.le_of_ble_eq_true rfl) ?_
  refine gc_aload_n dX9_init_65 rfl ?_
  refine gc_bipush (v := 12) dX9_init_66 (by decide) ?_
  refine gc_newa (t := 2) 12 dX9_init_68 (by decide) rfl rfl la_char (by decide) rfl (by decide) (by decide) (by decide) ?_
  refine gc_dup dX9_init_70 rfl ?_
  refine gc_iconst (v := 0) dX9_init_71 (by decide) ?_
  refine gc_bipush (v := 98) dX9_init_72 (by decide) ?_
  refine gc_cast (n := 12) (f := (fun _ => 0)) 0 dX9_init_74 (by omega) (by exact ceU_s _ _ _) rfl (by decide) (by decide) rfl ?_
  refine gc_dup dX9_init_75 rfl ?_
  refine gc_iconst (v := 1) dX9_init_76 (by decide) ?_
  refine gc_bipush (v := 101) dX9_init_77 (by decide) ?_
  refine gc_cast (n := 12) (f := (upd (fun _ => 0) 0 98)) 1 dX9_init_79 (by omega) (by exact ceU_s _ _ _) rfl (by decide) (by decide) rfl ?_
  refine gc_dup dX9_init_80 rfl ?_
  refine gc_iconst (v := 2) dX9_init_81 (by decide) ?_
  refine gc_bipush (v := 97) dX9_init_82 (by decide) ?_
  refine gc_cast (n := 12) (f := (upd (upd (fun _ => 0) 0 98) 1 101)) 2 dX9_init_84 (by omega) (by exact ceU_s _ _ _) rfl (by decide) (by decide) rfl ?_
  refine gc_dup dX9_init_85 rfl ?_
  refine gc_iconst (v := 3) dX9_init_86 (by decide) ?_
  refine gc_bipush (v := 114) dX9_init_87 (by decide) ?_
  refine gc_cast (n := 12) (f := (upd (upd (upd (fun _ => 0) 0 98) 1 101) 2 97)) 3 dX9_init_89 (by omega) (by exact ceU_s _ _ _) rfl (by decide) (by decide) rfl ?_
  refine gc_dup dX9_init_90 rfl ?_
  refine gc_iconst (v := 4) dX9_init_91 (by decide) ?_
  refine gc_bipush (v := 115) dX9_init_92 (by decide) ?_
  refine gc_cast (n := 12) (f := (upd (upd (upd (upd (fun _ => 0) 0 98) 1 101) 2 97) 3 114)) 4 dX9_init_94 (by omega) (by exact ceU_s _ _ _) rfl (by decide) (by decide) rfl ?_
  refine gc_dup dX9_init_95 rfl ?_
  refine gc_iconst (v := 5) dX9_init_96 (by decide) ?_
  refine gc_bipush (v := 102) dX9_init_97 (by decide) ?_
  refine gc_cast (n := 12) (f := (upd (upd (upd (upd (upd (fun _ => 0) 0 98) 1 101) 2 97) 3 114) 4 115)) 5 dX9_init_99 (by omega) (by exact ceU_s _ _ _) rfl (by decide) (by decide) rfl ?_
  refine gc_dup dX9_init_100 rfl ?_
  refine gc_bipush (v := 6) dX9_init_101 (by decide) ?_
  refine gc_bipush (v := 101) dX9_init_103 (by decide) ?_
  refine gc_cast (n := 12) (f := (upd (upd (upd (upd (upd (upd (fun _ => 0) 0 98) 1 101) 2 97) 3 114) 4 115) 5 102)) 6 dX9_init_105 (by omega) (by exact ceU_s _ _ _) rfl (by decide) (by decide) rfl ?_
  refine gc_dup dX9_init_106 rfl ?_
  refine gc_bipush (v := 7) dX9_init_107 (by decide) ?_
  refine gc_bipush (v := 101) dX9_init_109 (by decide) ?_
  refine gc_cast (n := 12) (f := (upd (upd (upd (upd (upd (upd (upd (fun _ => 0) 0 98) 1 101) 2 97) 3 114) 4 115) 5 102) 6 101)) 7 dX9_init_111 (by omega) (by exact ceU_s _ _ _) rfl (by decide) (by decide) rfl ?_
  refine gc_dup dX9_init_112 rfl ?_
  refine gc_bipush (v := 8) dX9_init_113 (by decide) ?_
  refine gc_bipush (v := 102) dX9_init_115 (by decide) ?_
  refine gc_cast (n := 12) (f := (upd (upd (upd (upd (upd (upd (upd (upd (fun _ => 0) 0 98) 1 101) 2 97) 3 114) 4 115) 5 102) 6 101) 7 101)) 8 dX9_init_117 (by omega) (by exact ceU_s _ _ _) rfl (by decide) (by decide) rfl ?_
  refine gc_dup dX9_init_118 rfl ?_
  refine gc_bipush (v := 9) dX9_init_119 (by decide) ?_
  refine gc_bipush (v := 105) dX9_init_121 (by decide) ?_
  refine gc_cast (n := 12) (f := (upd (upd (upd (upd (upd (upd (upd (upd (upd (fun _ => 0) 0 98) 1 101) 2 97) 3 114) 4 115) 5 102) 6 101) 7 101) 8 102)) 9 dX9_init_123 (by omega) (by exact ceU_s _ _ _) rfl (by decide) (by decide) rfl ?_
  refine gc_dup dX9_init_124 rfl ?_
  refine gc_bipush (v := 10) dX9_init_125 (by decide) ?_
  refine gc_bipush (v := 110) dX9_init_127 (by decide) ?_
  refine gc_cast (n := 12) (f := (upd (upd (upd (upd (upd (upd (upd (upd (upd (upd (fun _ => 0) 0 98) 1 101) 2 97) 3 114) 4 115) 5 102) 6 101) 7 101) 8 102) 9 105)) 10 dX9_init_129 (by omega) (by exact ceU_s _ _ _) rfl (by decide) (by decide) rfl ?_
  refine gc_dup dX9_init_130 rfl ?_
  refine gc_bipush (v := 11) dX9_init_131 (by decide) ?_
  refine gc_bipush (v := 101) dX9_init_133 (by decide) ?_
  refine gc_cast (n := 12) (f := (upd (upd (upd (upd (upd (upd (upd (upd (upd (upd (upd (fun _ => 0) 0 98) 1 101) 2 97) 3 114) 4 115) 5 102) 6 101) 7 101) 8 102) 9 105) 10 110)) 11 dX9_init_135 (by omega) (by exact ceU_s _ _ _) rfl (by decide) (by decide) rfl ?_
  refine gc_putF (ci := 9) (T := TX9) (Nf := 36) (C := RX9) (j := 16) (ty := (.array .char)) dX9_init_136 lf_X9_31 (by omega) (by rw [ceU_n _ _ _ (by omega), ceU_n _ _ _ (by omega), ceU_n _ _ _ (by omega), ceU_n _ _ _ (by omega), ceU_n _ _ _ (by omega), ceU_n _ _ _ (by omega), ceU_n _ _ _ (by omega), ceU_n _ _ _ (by omega), ceU_n _ _ _ (by omega), ceU_n _ _ _ (by omega), ceU_n _ _ _ (by omega), ceU_n _ _ _ (by omega), ceU_n _ _ _ (by omega)]; exact ceU_s _ _ _) rfl (by decide) rfl rfl rfl (by decide +kernel) rfl rfl (Nat.le_of_ble_eq_true rfl) ?_
  refine gc_aload_n dX9_init_139 rfl ?_
  refine gc_iconst (v := 4) dX9_init_140 (by decide) ?_
  refine gc_newa (t := 0) 4 dX9_init_141 (by decide) rfl rfl la_int (by decide) rfl (by decide) (by decide) (by decide) ?_
  refine gc_dup dX9_init_143 rfl ?_
  refine gc_iconst (v := 0) dX9_init_144 (by decide) ?_
  refine gc_iconst (v := 0) dX9_init_145 (by decide) ?_
  refine gc_iast (n := 4) (f := (fun _ => 0)) 0 dX9_init_146 (by omega) (by exact ceU_s _ _ _) rfl (by decide) (by decide) ?_
  refine gc_dup dX9_init_147 rfl ?_
  refine gc_iconst (v := 1) dX9_init_148 (by decide) ?_
  refine gc_iconst (v := 5) dX9_init_149 (by decide) ?_
  refine gc_iast (n := 4) (f := (upd (fun _ => 0) 0 0)) 1 dX9_init_150 (by omega) (by exact ceU_s _ _ _) rfl (by decide) (by decide) ?_
  refine gc_dup dX9_init_151 rfl ?_
  refine gc_iconst (v := 2) dX9_init_152 (by decide) ?_
  refine gc_bipush (v := 8) dX9_init_153 (by decide) ?_
  refine gc_iast (n := 4) (f := (upd (upd (fun _ => 0) 0 0) 1 5)) 2 dX9_init_155 (by omega) (by exact ceU_s _ _ _) rfl (by decide) (by decide) ?_
  refine gc_dup dX9_init_156 rfl ?_
  refine gc_iconst (v := 3) dX9_init_157 (by decide) ?_
  refine gc_bipush (v := 12) dX9_init_158 (by decide) ?_
  refine gc_iast (n := 4) (f := (upd (upd (upd (fun _ => 0) 0 0) 1 5) 2 8)) 3 dX9_init_160 (by omega) (by exact ceU_s _ _ _) rfl (by decide) (by decide) ?_
  refine gc_putF (ci := 9) (T := TX9) (Nf := 36) (C := RX9) (j := 17) (ty := (.array .int)) dX9_init_161 lf_X9_35 (by omega) (by rw [ceU_n _ _ _ (by omega), ceU_n _ _ _ (by omega), ceU_n _ _ _ (by omega), ceU_n _ _ _ (by omega), ceU_n _ _ _ (by omega)]; exact ceU_s _ _ _) rfl (by decide) rfl rfl rfl (by decide +kernel) rfl rfl (Nat.le_of_ble_eq_true rfl) ?_
  refine gc_aload_n dX9_init_164 rfl ?_
  refine gc_bipush (v := 96) dX9_init_165 (by decide) ?_
  refine gc_newa (t := 0) 96 dX9_init_167 (by decide) rfl rfl la_int (by decide) rfl (by decide) (by decide) (by decide) ?_
  refine gc_putF (ci := 9) (T := TX9) (Nf := 36) (C := RX9) (j := 18) (ty := (.array .int)) dX9_init_169 lf_X9_38 (by omega) (by rw [ceU_n _ _ _ (by omega)]; exact ceU_s _ _ _) rfl (by decide) rfl rfl rfl (by decide +kernel) rfl rfl (Nat.le_of_ble_eq_true rfl) ?_
  refine gc_aload_n dX9_init_172 rfl ?_
  refine gc_bipush (v := 96) dX9_init_173 (by decide) ?_
  refine gc_newa (t := 0) 96 dX9_init_175 (by decide) rfl rfl la_int (by decide) rfl (by decide) (by decide) (by decide) ?_
  refine gc_putF (ci := 9) (T := TX9) (Nf := 36) (C := RX9) (j := 21) (ty := (.array .int)) dX9_init_177 lf_X9_41 (by omega) (by rw [ceU_n _ _ _ (by omega)]; exact ceU_s _ _ _) rfl (by decide) rfl rfl rfl (by decide +kernel) rfl rfl (Nat.le_of_ble_eq_true rfl) ?_
  refine gc_aload_n dX9_init_180 rfl ?_
  refine gc_bipush (v := 10) dX9_init_181 (by decide) ?_
  refine gc_newa (t := 3) 10 dX9_init_183 (by decide) rfl rfl la_boolean (by decide) rfl (by decide) (by decide) (by decide) ?_
  refine gc_putF (ci := 9) (T := TX9) (Nf := 36) (C := RX9) (j := 23) (ty := (.array .boolean)) dX9_init_185 lf_X9_44 (by omega) (by rw [ceU_n _ _ _ (by omega)]; exact ceU_s _ _ _) rfl (by decide) rfl rfl rfl (by decide +kernel) rfl rfl (Nat.le_of_ble_eq_true rfl) ?_
  refine gc_aload_n dX9_init_188 rfl ?_
  refine gc_bipush (v := 96) dX9_init_189 (by decide) ?_
  refine gc_newa (t := 0) 96 dX9_init_191 (by decide) rfl rfl la_int (by decide) rfl (by decide) (by decide) (by decide) ?_
  refine gc_putF (ci := 9) (T := TX9) (Nf := 36) (C := RX9) (j := 24) (ty := (.array .int)) dX9_init_193 lf_X9_48 (by omega) (by rw [ceU_n _ _ _ (by omega)]; exact ceU_s _ _ _) rfl (by decide) rfl rfl rfl (by decide +kernel) rfl rfl (Nat.le_of_ble_eq_true rfl) ?_
  refine gc_aload_n dX9_init_196 rfl ?_
  refine gc_iconst (v := 4) dX9_init_197 (by decide) ?_
  refine gc_newa (t := 0) 4 dX9_init_198 (by decide) rfl rfl la_int (by decide) rfl (by decide) (by decide) (by decide) ?_
  refine gc_putF (ci := 9) (T := TX9) (Nf := 36) (C := RX9) (j := 25) (ty := (.array .int)) dX9_init_200 lf_X9_51 (by omega) (by rw [ceU_n _ _ _ (by omega)]; exact ceU_s _ _ _) rfl (by decide) rfl rfl rfl (by decide +kernel) rfl rfl (Nat.le_of_ble_eq_true rfl) ?_
  refine gc_aload_n dX9_init_203 rfl ?_
  refine gc_iconst (v := 4) dX9_init_204 (by decide) ?_
  refine gc_newa (t := 0) 4 dX9_init_205 (by decide) rfl rfl la_int (by decide) rfl (by decide) (by decide) (by decide) ?_
  refine gc_dup dX9_init_207 rfl ?_
  refine gc_iconst (v := 0) dX9_init_208 (by decide) ?_
  refine gc_iconst (v := (-1)) dX9_init_209 (by decide) ?_
  refine gc_iast (n := 4) (f := (fun _ => 0)) 0 dX9_init_210 (by omega) (by exact ceU_s _ _ _) rfl (by decide) (by decide) ?_
  refine gc_dup dX9_init_211 rfl ?_
  refine gc_iconst (v := 1) dX9_init_212 (by decide) ?_
  refine gc_iconst (v := (-1)) dX9_init_213 (by decide) ?_
  refine gc_iast (n := 4) (f := (upd (fun _ => 0) 0 (-1))) 1 dX9_init_214 (by omega) (by exact ceU_s _ _ _) rfl (by decide) (by decide) ?_
  refine gc_dup dX9_init_215 rfl ?_
  refine gc_iconst (v := 2) dX9_init_216 (by decide) ?_
  refine gc_iconst (v := (-1)) dX9_init_217 (by decide) ?_
  refine gc_iast (n := 4) (f := (upd (upd (fun _ => 0) 0 (-1)) 1 (-1))) 2 dX9_init_218 (by omega) (by exact ceU_s _ _ _) rfl (by decide) (by decide) ?_
  refine gc_dup dX9_init_219 rfl ?_
  refine gc_iconst (v := 3) dX9_init_220 (by decide) ?_
  refine gc_iconst (v := (-1)) dX9_init_221 (by decide) ?_
  refine gc_iast (n := 4) (f := (upd (upd (upd (fun _ => 0) 0 (-1)) 1 (-1)) 2 (-1))) 3 dX9_init_222 (by omega) (by exact ceU_s _ _ _) rfl (by decide) (by decide) ?_
  refine gc_putF (ci := 9) (T := TX9) (Nf := 36) (C := RX9) (j := 26) (ty := (.array .int)) dX9_init_223 lf_X9_54 (by omega) (by rw [ceU_n _ _ _ (by omega), ceU_n _ _ _ (by omega), ceU_n _ _ _ (by omega), ceU_n _ _ _ (by omega), ceU_n _ _ _ (by omega)]; exact ceU_s _ _ _) rfl (by decide) rfl rfl rfl (by decide +kernel) rfl rfl (Nat.le_of_ble_eq_true rfl) ?_
  refine gc_aload_n dX9_init_226 rfl ?_
  refine gc_iconst (v := 4) dX9_init_227 (by decide) ?_
  refine gc_newa (t := 0) 4 dX9_init_228 (by decide) rfl rfl la_int (by decide) rfl (by decide) (by decide) (by decide) ?_
  refine gc_putF (ci := 9) (T := TX9) (Nf := 36) (C := RX9) (j := 27) (ty := (.array .int)) dX9_init_230 lf_X9_57 (by omega) (by rw [ceU_n _ _ _ (by omega)]; exact ceU_s _ _ _) rfl (by decide) rfl rfl rfl (by decide +kernel) rfl rfl (Nat.le_of_ble_eq_true rfl) ?_
  refine gc_aload_n dX9_init_233 rfl ?_
  refine gc_bipush (v := 96) dX9_init_234 (by decide) ?_
  refine gc_newa (t := 0) 96 dX9_init_236 (by decide) rfl rfl la_int (by decide) rfl (by decide) (by decide) (by decide) ?_
  refine gc_putF (ci := 9) (T := TX9) (Nf := 36) (C := RX9) (j := 28) (ty := (.array .int)) dX9_init_238 lf_X9_60 (by omega) (by rw [ceU_n _ _ _ (by omega)]; exact ceU_s _ _ _) rfl (by decide) rfl rfl rfl (by decide +kernel) rfl rfl (Nat.le_of_ble_eq_true rfl) ?_
  refine gc_aload_n dX9_init_241 rfl ?_
  refine gc_iconst (v := 5) dX9_init_242 (by decide) ?_
  refine gc_newa (t := 0) 5 dX9_init_243 (by decide) rfl rfl la_int (by decide) rfl (by decide) (by decide) (by decide) ?_
  refine gc_putF (ci := 9) (T := TX9) (Nf := 36) (C := RX9) (j := 29) (ty := (.array .int)) dX9_init_245 lf_X9_63 (by omega) (by rw [ceU_n _ _ _ (by omega)]; exact ceU_s _ _ _) rfl (by decide) rfl rfl rfl (by decide +kernel) rfl rfl (Nat.le_of_ble_eq_true rfl) ?_
  refine gc_aload_n dX9_init_248 rfl ?_
  refine gc_iconst (v := 5) dX9_init_249 (by decide) ?_
  refine gc_newa (t := 0) 5 dX9_init_250 (by decide) rfl rfl la_int (by decide) rfl (by decide) (by decide) (by decide) ?_
  refine gc_putF (ci := 9) (T := TX9) (Nf := 36) (C := RX9) (j := 30) (ty := (.array .int)) dX9_init_252 lf_X9_66 (by omega) (by rw [ceU_n _ _ _ (by omega)]; exact ceU_s _ _ _) rfl (by decide) rfl rfl rfl (by decide +kernel) rfl rfl (Nat.le_of_ble_eq_true rfl) ?_
  refine gc_aload_n dX9_init_255 rfl ?_
  refine gc_iconst (v := 5) dX9_init_256 (by decide) ?_
  refine gc_newa (t := 0) 5 dX9_init_257 (by decide) rfl rfl la_int (by decide) rfl (by decide) (by decide) (by decide) ?_
  refine gc_putF (ci := 9) (T := TX9) (Nf := 36) (C := RX9) (j := 31) (ty := (.array .int)) dX9_init_259 lf_X9_69 (by omega) (by rw [ceU_n _ _ _ (by omega)]; exact ceU_s _ _ _) rfl (by decide) rfl rfl rfl (by decide +kernel) rfl rfl (Nat.le_of_ble_eq_true rfl) ?_
  refine gc_aload_n dX9_init_262 rfl ?_
  refine gc_bipush (v := 120) dX9_init_263 (by decide) ?_
  refine gc_newa (t := 0) 120 dX9_init_265 (by decide) rfl rfl la_int (by decide) rfl (by decide) (by decide) (by decide) ?_
  refine gc_putF (ci := 9) (T := TX9) (Nf := 36) (C := RX9) (j := 32) (ty := (.array .int)) dX9_init_267 lf_X9_72 (by omega) (by rw [ceU_n _ _ _ (by omega)]; exact ceU_s _ _ _) rfl (by decide) rfl rfl rfl (by decide +kernel) rfl rfl (Nat.le_of_ble_eq_true rfl) ?_
  refine gc_aload_n dX9_init_270 rfl ?_
  refine gc_bipush (v := 24) dX9_init_271 (by decide) ?_
  refine gc_newa (t := 0) 24 dX9_init_273 (by decide) rfl rfl la_int (by decide) rfl (by decide) (by decide) (by decide) ?_
  refine gc_putF (ci := 9) (T := TX9) (Nf := 36) (C := RX9) (j := 33) (ty := (.array .int)) dX9_init_275 lf_X9_75 (by omega) (by rw [ceU_n _ _ _ (by omega)]; exact ceU_s _ _ _) rfl (by decide) rfl rfl rfl (by decide +kernel) rfl rfl (Nat.le_of_ble_eq_true rfl) ?_
  refine gc_aload_n dX9_init_278 rfl ?_
  refine gc_bipush (v := 60) dX9_init_279 (by decide) ?_
  refine gc_newa (t := 0) 60 dX9_init_281 (by decide) rfl rfl la_int (by decide) rfl (by decide) (by decide) (by decide) ?_
  refine gc_putF (ci := 9) (T := TX9) (Nf := 36) (C := RX9) (j := 34) (ty := (.array .int)) dX9_init_283 lf_X9_78 (by omega) (by rw [ceU_n _ _ _ (by omega)]; exact ceU_s _ _ _) rfl (by decide) rfl rfl rfl (by decide +kernel) rfl rfl (Nat.le_of_ble_eq_true rfl) ?_
  refine gc_aload_n dX9_init_286 rfl ?_
  refine gc_get (ci := 9) (C := RX9) (T := TX9) (Nf := 36) (j := 0) (v := .ref (cx_n X + 83)) dX9_init_287 (Or.inl (mt_5 _ (List.mem_of_getElem? (i := 40) (by decide +kernel)))) (by omega) (by exact ceU_s _ _ _) rfl (by decide) rfl ?_
  refine gc_iconst (v := 0) dX9_init_290 (by decide) ?_
  refine gc_iconst (v := 1) dX9_init_291 (by decide) ?_
  refine gc_iast (n := 1433) (f := (fun _ => 0)) 0 dX9_init_292 (by omega) (by rw [ceU_n _ _ _ (by omega), ceU_n _ _ _ (by omega), ceU_n _ _ _ (by omega), ceU_n _ _ _ (by omega), ceU_n _ _ _ (by omega), ceU_n _ _ _ (by omega), ceU_n _ _ _ (by omega), ceU_n _ _ _ (by omega), ceU_n _ _ _ (by omega), ceU_n _ _ _ (by omega), ceU_n _ _ _ (by omega), ceU_n _ _ _ (by omega), ceU_n _ _ _ (by omega), ceU_n _ _ _ (by omega), ceU_n _ _ _ (by omega), ceU_n _ _ _ (by omega), ceU_n _ _ _ (by omega), ceU_n _ _ _ (by omega), ceU_n _ _ _ (by omega), ceU_n _ _ _ (by omega), ceU_n _ _ _ (by omega), ceU_n _ _ _ (by omega), ceU_n _ _ _ (by omega), ceU_n _ _ _ (by omega), ceU_n _ _ _ (by omega), ceU_n _ _ _ (by omega), ceU_n _ _ _ (by omega), ceU_n _ _ _ (by omega), ceU_n _ _ _ (by omega), ceU_n _ _ _ (by omega), ceU_n _ _ _ (by omega), ceU_n _ _ _ (by omega), ceU_n _ _ _ (by omega), ceU_n _ _ _ (by omega), ceU_n _ _ _ (by omega), ceU_n _ _ _ (by omega), ceU_n _ _ _ (by omega), ceU_n _ _ _ (by omega), ceU_n _ _ _ (by omega), ceU_n _ _ _ (by omega), ceU_n _ _ _ (by omega), ceU_n _ _ _ (by omega), ceU_n _ _ _ (by omega), ceU_n _ _ _ (by omega), ceU_n _ _ _ (by omega), ceU_n _ _ _ (by omega), ceU_n _ _ _ (by omega), ceU_n _ _ _ (by omega), ceU_n _ _ _ (by omega), ceU_n _ _ _ (by omega), ceU_n _ _ _ (by omega), ceU_n _ _ _ (by omega), ceU_n _ _ _ (by omega), ceU_n _ _ _ (by omega), ceU_n _ _ _ (by omega), ceU_n _ _ _ (by omega), ceU_n _ _ _ (by omega), ceU_n _ _ _ (by omega), ceU_n _ _ _ (by omega), ceU_n _ _ _ (by omega), ceU_n _ _ _ (by omega), ceU_n _ _ _ (by omega), ceU_n _ _ _ (by omega), ceU_n _ _ _ (by omega), ceU_n _ _ _ (by omega)]; exact ceU_s _ _ _) rfl (by decide) (by decide) ?_
  refine gc_vret dX9_init_293 rfl (by decide) (by decide) ⟨rfl, rfl, ⟨?_, ?_, ?_, ?_, ?_, ?_, ?_, ?_, ?_, ?_, ?_, ?_, ?_, ?_, ?_, ?_, ?_, ?_, ?_, ?_, ?_, ?_, ?_, ?_⟩, ?_⟩
  · rw [ceU_n _ _ _ (by omega)]; exact ceU_s _ _ _
  · exact ceU_s _ _ _
  · rw [ceU_n _ _ _ (by omega), ceU_n _ _ _ (by omega), ceU_n _ _ _ (by omega), ceU_n _ _ _ (by omega), ceU_n _ _ _ (by omega), ceU_n _ _ _ (by omega), ceU_n _ _ _ (by omega), ceU_n _ _ _ (by omega), ceU_n _ _ _ (by omega), ceU_n _ _ _ (by omega), ceU_n _ _ _ (by omega), ceU_n _ _ _ (by omega), ceU_n _ _ _ (by omega), ceU_n _ _ _ (by omega), ceU_n _ _ _ (by omega), ceU_n _ _ _ (by omega), ceU_n _ _ _ (by omega), ceU_n _ _ _ (by omega), ceU_n _ _ _ (by omega), ceU_n _ _ _ (by omega), ceU_n _ _ _ (by omega), ceU_n _ _ _ (by omega), ceU_n _ _ _ (by omega), ceU_n _ _ _ (by omega), ceU_n _ _ _ (by omega), ceU_n _ _ _ (by omega), ceU_n _ _ _ (by omega), ceU_n _ _ _ (by omega), ceU_n _ _ _ (by omega), ceU_n _ _ _ (by omega), ceU_n _ _ _ (by omega), ceU_n _ _ _ (by omega), ceU_n _ _ _ (by omega), ceU_n _ _ _ (by omega), ceU_n _ _ _ (by omega), ceU_n _ _ _ (by omega), ceU_n _ _ _ (by omega), ceU_n _ _ _ (by omega), ceU_n _ _ _ (by omega), ceU_n _ _ _ (by omega), ceU_n _ _ _ (by omega), ceU_n _ _ _ (by omega), ceU_n _ _ _ (by omega), ceU_n _ _ _ (by omega), ceU_n _ _ _ (by omega), ceU_n _ _ _ (by omega), ceU_n _ _ _ (by omega), ceU_n _ _ _ (by omega), ceU_n _ _ _ (by omega), ceU_n _ _ _ (by omega), ceU_n _ _ _ (by omega), ceU_n _ _ _ (by omega), ceU_n _ _ _ (by omega), ceU_n _ _ _ (by omega), ceU_n _ _ _ (by omega), ceU_n _ _ _ (by omega), ceU_n _ _ _ (by omega), ceU_n _ _ _ (by omega), ceU_n _ _ _ (by omega), ceU_n _ _ _ (by omega), ceU_n _ _ _ (by omega), ceU_n _ _ _ (by omega), ceU_n _ _ _ (by omega), ceU_n _ _ _ (by omega)]; exact ceU_s _ _ _
  · rw [ceU_n _ _ _ (by omega), ceU_n _ _ _ (by omega), ceU_n _ _ _ (by omega), ceU_n _ _ _ (by omega), ceU_n _ _ _ (by omega), ceU_n _ _ _ (by omega), ceU_n _ _ _ (by omega), ceU_n _ _ _ (by omega), ceU_n _ _ _ (by omega), ceU_n _ _ _ (by omega), ceU_n _ _ _ (by omega), ceU_n _ _ _ (by omega), ceU_n _ _ _ (by omega), ceU_n _ _ _ (by omega), ceU_n _ _ _ (by omega), ceU_n _ _ _ (by omega), ceU_n _ _ _ (by omega), ceU_n _ _ _ (by omega), ceU_n _ _ _ (by omega), ceU_n _ _ _ (by omega), ceU_n _ _ _ (by omega), ceU_n _ _ _ (by omega), ceU_n _ _ _ (by omega), ceU_n _ _ _ (by omega), ceU_n _ _ _ (by omega), ceU_n _ _ _ (by omega), ceU_n _ _ _ (by omega), ceU_n _ _ _ (by omega), ceU_n _ _ _ (by omega), ceU_n _ _ _ (by omega), ceU_n _ _ _ (by omega), ceU_n _ _ _ (by omega), ceU_n _ _ _ (by omega), ceU_n _ _ _ (by omega), ceU_n _ _ _ (by omega), ceU_n _ _ _ (by omega), ceU_n _ _ _ (by omega), ceU_n _ _ _ (by omega), ceU_n _ _ _ (by omega), ceU_n _ _ _ (by omega), ceU_n _ _ _ (by omega), ceU_n _ _ _ (by omega), ceU_n _ _ _ (by omega), ceU_n _ _ _ (by omega), ceU_n _ _ _ (by omega), ceU_n _ _ _ (by omega), ceU_n _ _ _ (by omega), ceU_n _ _ _ (by omega), ceU_n _ _ _ (by omega), ceU_n _ _ _ (by omega), ceU_n _ _ _ (by omega), ceU_n _ _ _ (by omega), ceU_n _ _ _ (by omega), ceU_n _ _ _ (by omega), ceU_n _ _ _ (by omega), ceU_n _ _ _ (by omega), ceU_n _ _ _ (by omega), ceU_n _ _ _ (by omega), ceU_n _ _ _ (by omega), ceU_n _ _ _ (by omega), ceU_n _ _ _ (by omega), ceU_n _ _ _ (by omega)]; exact ceU_s _ _ _
  · rw [ceU_n _ _ _ (by omega), ceU_n _ _ _ (by omega), ceU_n _ _ _ (by omega), ceU_n _ _ _ (by omega), ceU_n _ _ _ (by omega), ceU_n _ _ _ (by omega), ceU_n _ _ _ (by omega), ceU_n _ _ _ (by omega), ceU_n _ _ _ (by omega), ceU_n _ _ _ (by omega), ceU_n _ _ _ (by omega), ceU_n _ _ _ (by omega), ceU_n _ _ _ (by omega), ceU_n _ _ _ (by omega), ceU_n _ _ _ (by omega), ceU_n _ _ _ (by omega), ceU_n _ _ _ (by omega), ceU_n _ _ _ (by omega), ceU_n _ _ _ (by omega), ceU_n _ _ _ (by omega), ceU_n _ _ _ (by omega), ceU_n _ _ _ (by omega), ceU_n _ _ _ (by omega), ceU_n _ _ _ (by omega), ceU_n _ _ _ (by omega), ceU_n _ _ _ (by omega), ceU_n _ _ _ (by omega), ceU_n _ _ _ (by omega), ceU_n _ _ _ (by omega), ceU_n _ _ _ (by omega), ceU_n _ _ _ (by omega), ceU_n _ _ _ (by omega), ceU_n _ _ _ (by omega), ceU_n _ _ _ (by omega), ceU_n _ _ _ (by omega), ceU_n _ _ _ (by omega), ceU_n _ _ _ (by omega), ceU_n _ _ _ (by omega), ceU_n _ _ _ (by omega), ceU_n _ _ _ (by omega), ceU_n _ _ _ (by omega), ceU_n _ _ _ (by omega), ceU_n _ _ _ (by omega), ceU_n _ _ _ (by omega), ceU_n _ _ _ (by omega), ceU_n _ _ _ (by omega), ceU_n _ _ _ (by omega), ceU_n _ _ _ (by omega), ceU_n _ _ _ (by omega), ceU_n _ _ _ (by omega), ceU_n _ _ _ (by omega), ceU_n _ _ _ (by omega), ceU_n _ _ _ (by omega), ceU_n _ _ _ (by omega), ceU_n _ _ _ (by omega), ceU_n _ _ _ (by omega), ceU_n _ _ _ (by omega), ceU_n _ _ _ (by omega), ceU_n _ _ _ (by omega), ceU_n _ _ _ (by omega)]; exact ceU_s _ _ _
  · rw [ceU_n _ _ _ (by omega), ceU_n _ _ _ (by omega), ceU_n _ _ _ (by omega), ceU_n _ _ _ (by omega), ceU_n _ _ _ (by omega), ceU_n _ _ _ (by omega), ceU_n _ _ _ (by omega), ceU_n _ _ _ (by omega), ceU_n _ _ _ (by omega), ceU_n _ _ _ (by omega), ceU_n _ _ _ (by omega), ceU_n _ _ _ (by omega), ceU_n _ _ _ (by omega), ceU_n _ _ _ (by omega), ceU_n _ _ _ (by omega), ceU_n _ _ _ (by omega), ceU_n _ _ _ (by omega), ceU_n _ _ _ (by omega), ceU_n _ _ _ (by omega), ceU_n _ _ _ (by omega), ceU_n _ _ _ (by omega), ceU_n _ _ _ (by omega), ceU_n _ _ _ (by omega), ceU_n _ _ _ (by omega), ceU_n _ _ _ (by omega), ceU_n _ _ _ (by omega), ceU_n _ _ _ (by omega), ceU_n _ _ _ (by omega), ceU_n _ _ _ (by omega), ceU_n _ _ _ (by omega), ceU_n _ _ _ (by omega), ceU_n _ _ _ (by omega), ceU_n _ _ _ (by omega), ceU_n _ _ _ (by omega), ceU_n _ _ _ (by omega), ceU_n _ _ _ (by omega), ceU_n _ _ _ (by omega), ceU_n _ _ _ (by omega), ceU_n _ _ _ (by omega), ceU_n _ _ _ (by omega), ceU_n _ _ _ (by omega), ceU_n _ _ _ (by omega), ceU_n _ _ _ (by omega), ceU_n _ _ _ (by omega), ceU_n _ _ _ (by omega), ceU_n _ _ _ (by omega), ceU_n _ _ _ (by omega), ceU_n _ _ _ (by omega), ceU_n _ _ _ (by omega), ceU_n _ _ _ (by omega), ceU_n _ _ _ (by omega), ceU_n _ _ _ (by omega), ceU_n _ _ _ (by omega), ceU_n _ _ _ (by omega), ceU_n _ _ _ (by omega), ceU_n _ _ _ (by omega), ceU_n _ _ _ (by omega), ceU_n _ _ _ (by omega)]; exact ceU_s _ _ _
  · rw [ceU_n _ _ _ (by omega), ceU_n _ _ _ (by omega), ceU_n _ _ _ (by omega), ceU_n _ _ _ (by omega), ceU_n _ _ _ (by omega), ceU_n _ _ _ (by omega), ceU_n _ _ _ (by omega), ceU_n _ _ _ (by omega), ceU_n _ _ _ (by omega), ceU_n _ _ _ (by omega), ceU_n _ _ _ (by omega), ceU_n _ _ _ (by omega), ceU_n _ _ _ (by omega), ceU_n _ _ _ (by omega), ceU_n _ _ _ (by omega), ceU_n _ _ _ (by omega), ceU_n _ _ _ (by omega), ceU_n _ _ _ (by omega), ceU_n _ _ _ (by omega), ceU_n _ _ _ (by omega), ceU_n _ _ _ (by omega), ceU_n _ _ _ (by omega), ceU_n _ _ _ (by omega), ceU_n _ _ _ (by omega), ceU_n _ _ _ (by omega), ceU_n _ _ _ (by omega), ceU_n _ _ _ (by omega), ceU_n _ _ _ (by omega), ceU_n _ _ _ (by omega), ceU_n _ _ _ (by omega), ceU_n _ _ _ (by omega), ceU_n _ _ _ (by omega), ceU_n _ _ _ (by omega), ceU_n _ _ _ (by omega), ceU_n _ _ _ (by omega), ceU_n _ _ _ (by omega), ceU_n _ _ _ (by omega), ceU_n _ _ _ (by omega), ceU_n _ _ _ (by omega), ceU_n _ _ _ (by omega), ceU_n _ _ _ (by omega), ceU_n _ _ _ (by omega), ceU_n _ _ _ (by omega), ceU_n _ _ _ (by omega), ceU_n _ _ _ (by omega), ceU_n _ _ _ (by omega), ceU_n _ _ _ (by omega), ceU_n _ _ _ (by omega), ceU_n _ _ _ (by omega), ceU_n _ _ _ (by omega), ceU_n _ _ _ (by omega), ceU_n _ _ _ (by omega), ceU_n _ _ _ (by omega), ceU_n _ _ _ (by omega), ceU_n _ _ _ (by omega), ceU_n _ _ _ (by omega)]; exact ceU_s _ _ _
  · rw [ceU_n _ _ _ (by omega), ceU_n _ _ _ (by omega), ceU_n _ _ _ (by omega), ceU_n _ _ _ (by omega), ceU_n _ _ _ (by omega), ceU_n _ _ _ (by omega), ceU_n _ _ _ (by omega), ceU_n _ _ _ (by omega), ceU_n _ _ _ (by omega), ceU_n _ _ _ (by omega), ceU_n _ _ _ (by omega), ceU_n _ _ _ (by omega), ceU_n _ _ _ (by omega), ceU_n _ _ _ (by omega), ceU_n _ _ _ (by omega), ceU_n _ _ _ (by omega), ceU_n _ _ _ (by omega), ceU_n _ _ _ (by omega), ceU_n _ _ _ (by omega), ceU_n _ _ _ (by omega), ceU_n _ _ _ (by omega), ceU_n _ _ _ (by omega), ceU_n _ _ _ (by omega), ceU_n _ _ _ (by omega), ceU_n _ _ _ (by omega), ceU_n _ _ _ (by omega), ceU_n _ _ _ (by omega), ceU_n _ _ _ (by omega), ceU_n _ _ _ (by omega), ceU_n _ _ _ (by omega), ceU_n _ _ _ (by omega), ceU_n _ _ _ (by omega), ceU_n _ _ _ (by omega), ceU_n _ _ _ (by omega), ceU_n _ _ _ (by omega), ceU_n _ _ _ (by omega), ceU_n _ _ _ (by omega), ceU_n _ _ _ (by omega), ceU_n _ _ _ (by omega), ceU_n _ _ _ (by omega), ceU_n _ _ _ (by omega), ceU_n _ _ _ (by omega), ceU_n _ _ _ (by omega), ceU_n _ _ _ (by omega), ceU_n _ _ _ (by omega), ceU_n _ _ _ (by omega), ceU_n _ _ _ (by omega), ceU_n _ _ _ (by omega), ceU_n _ _ _ (by omega), ceU_n _ _ _ (by omega), ceU_n _ _ _ (by omega), ceU_n _ _ _ (by omega), ceU_n _ _ _ (by omega), ceU_n _ _ _ (by omega)]; exact ceU_s _ _ _
  · rw [ceU_n _ _ _ (by omega), ceU_n _ _ _ (by omega), ceU_n _ _ _ (by omega), ceU_n _ _ _ (by omega), ceU_n _ _ _ (by omega), ceU_n _ _ _ (by omega), ceU_n _ _ _ (by omega), ceU_n _ _ _ (by omega), ceU_n _ _ _ (by omega), ceU_n _ _ _ (by omega), ceU_n _ _ _ (by omega), ceU_n _ _ _ (by omega), ceU_n _ _ _ (by omega), ceU_n _ _ _ (by omega), ceU_n _ _ _ (by omega), ceU_n _ _ _ (by omega), ceU_n _ _ _ (by omega), ceU_n _ _ _ (by omega), ceU_n _ _ _ (by omega), ceU_n _ _ _ (by omega), ceU_n _ _ _ (by omega), ceU_n _ _ _ (by omega), ceU_n _ _ _ (by omega), ceU_n _ _ _ (by omega), ceU_n _ _ _ (by omega), ceU_n _ _ _ (by omega), ceU_n _ _ _ (by omega), ceU_n _ _ _ (by omega), ceU_n _ _ _ (by omega), ceU_n _ _ _ (by omega), ceU_n _ _ _ (by omega), ceU_n _ _ _ (by omega), ceU_n _ _ _ (by omega), ceU_n _ _ _ (by omega), ceU_n _ _ _ (by omega), ceU_n _ _ _ (by omega), ceU_n _ _ _ (by omega), ceU_n _ _ _ (by omega), ceU_n _ _ _ (by omega), ceU_n _ _ _ (by omega)]; exact ceU_s _ _ _
  · rw [ceU_n _ _ _ (by omega), ceU_n _ _ _ (by omega), ceU_n _ _ _ (by omega), ceU_n _ _ _ (by omega), ceU_n _ _ _ (by omega), ceU_n _ _ _ (by omega), ceU_n _ _ _ (by omega), ceU_n _ _ _ (by omega), ceU_n _ _ _ (by omega), ceU_n _ _ _ (by omega), ceU_n _ _ _ (by omega), ceU_n _ _ _ (by omega), ceU_n _ _ _ (by omega), ceU_n _ _ _ (by omega), ceU_n _ _ _ (by omega), ceU_n _ _ _ (by omega), ceU_n _ _ _ (by omega), ceU_n _ _ _ (by omega), ceU_n _ _ _ (by omega), ceU_n _ _ _ (by omega), ceU_n _ _ _ (by omega), ceU_n _ _ _ (by omega), ceU_n _ _ _ (by omega), ceU_n _ _ _ (by omega), ceU_n _ _ _ (by omega), ceU_n _ _ _ (by omega), ceU_n _ _ _ (by omega), ceU_n _ _ _ (by omega), ceU_n _ _ _ (by omega), ceU_n _ _ _ (by omega), ceU_n _ _ _ (by omega), ceU_n _ _ _ (by omega), ceU_n _ _ _ (by omega), ceU_n _ _ _ (by omega)]; exact ceU_s _ _ _
  · rw [ceU_n _ _ _ (by omega), ceU_n _ _ _ (by omega), ceU_n _ _ _ (by omega), ceU_n _ _ _ (by omega), ceU_n _ _ _ (by omega), ceU_n _ _ _ (by omega), ceU_n _ _ _ (by omega), ceU_n _ _ _ (by omega), ceU_n _ _ _ (by omega), ceU_n _ _ _ (by omega), ceU_n _ _ _ (by omega), ceU_n _ _ _ (by omega), ceU_n _ _ _ (by omega), ceU_n _ _ _ (by omega), ceU_n _ _ _ (by omega), ceU_n _ _ _ (by omega), ceU_n _ _ _ (by omega), ceU_n _ _ _ (by omega), ceU_n _ _ _ (by omega), ceU_n _ _ _ (by omega), ceU_n _ _ _ (by omega), ceU_n _ _ _ (by omega), ceU_n _ _ _ (by omega), ceU_n _ _ _ (by omega), ceU_n _ _ _ (by omega), ceU_n _ _ _ (by omega), ceU_n _ _ _ (by omega), ceU_n _ _ _ (by omega), ceU_n _ _ _ (by omega), ceU_n _ _ _ (by omega), ceU_n _ _ _ (by omega), ceU_n _ _ _ (by omega)]; exact ceU_s _ _ _
  · rw [ceU_n _ _ _ (by omega), ceU_n _ _ _ (by omega), ceU_n _ _ _ (by omega), ceU_n _ _ _ (by omega), ceU_n _ _ _ (by omega), ceU_n _ _ _ (by omega), ceU_n _ _ _ (by omega), ceU_n _ _ _ (by omega), ceU_n _ _ _ (by omega), ceU_n _ _ _ (by omega), ceU_n _ _ _ (by omega), ceU_n _ _ _ (by omega), ceU_n _ _ _ (by omega), ceU_n _ _ _ (by omega), ceU_n _ _ _ (by omega), ceU_n _ _ _ (by omega), ceU_n _ _ _ (by omega), ceU_n _ _ _ (by omega), ceU_n _ _ _ (by omega), ceU_n _ _ _ (by omega), ceU_n _ _ _ (by omega), ceU_n _ _ _ (by omega), ceU_n _ _ _ (by omega), ceU_n _ _ _ (by omega), ceU_n _ _ _ (by omega), ceU_n _ _ _ (by omega), ceU_n _ _ _ (by omega), ceU_n _ _ _ (by omega), ceU_n _ _ _ (by omega), ceU_n _ _ _ (by omega)]; exact ceU_s _ _ _
  · rw [ceU_n _ _ _ (by omega), ceU_n _ _ _ (by omega), ceU_n _ _ _ (by omega), ceU_n _ _ _ (by omega), ceU_n _ _ _ (by omega), ceU_n _ _ _ (by omega), ceU_n _ _ _ (by omega), ceU_n _ _ _ (by omega), ceU_n _ _ _ (by omega), ceU_n _ _ _ (by omega), ceU_n _ _ _ (by omega), ceU_n _ _ _ (by omega), ceU_n _ _ _ (by omega), ceU_n _ _ _ (by omega), ceU_n _ _ _ (by omega), ceU_n _ _ _ (by omega), ceU_n _ _ _ (by omega), ceU_n _ _ _ (by omega), ceU_n _ _ _ (by omega), ceU_n _ _ _ (by omega), ceU_n _ _ _ (by omega), ceU_n _ _ _ (by omega), ceU_n _ _ _ (by omega), ceU_n _ _ _ (by omega), ceU_n _ _ _ (by omega), ceU_n _ _ _ (by omega), ceU_n _ _ _ (by omega), ceU_n _ _ _ (by omega)]; exact ceU_s _ _ _
  · rw [ceU_n _ _ _ (by omega), ceU_n _ _ _ (by omega), ceU_n _ _ _ (by omega), ceU_n _ _ _ (by omega), ceU_n _ _ _ (by omega), ceU_n _ _ _ (by omega), ceU_n _ _ _ (by omega), ceU_n _ _ _ (by omega), ceU_n _ _ _ (by omega), ceU_n _ _ _ (by omega), ceU_n _ _ _ (by omega), ceU_n _ _ _ (by omega), ceU_n _ _ _ (by omega), ceU_n _ _ _ (by omega), ceU_n _ _ _ (by omega), ceU_n _ _ _ (by omega), ceU_n _ _ _ (by omega), ceU_n _ _ _ (by omega), ceU_n _ _ _ (by omega), ceU_n _ _ _ (by omega), ceU_n _ _ _ (by omega), ceU_n _ _ _ (by omega), ceU_n _ _ _ (by omega), ceU_n _ _ _ (by omega), ceU_n _ _ _ (by omega), ceU_n _ _ _ (by omega)]; exact ceU_s _ _ _
  · rw [ceU_n _ _ _ (by omega), ceU_n _ _ _ (by omega), ceU_n _ _ _ (by omega), ceU_n _ _ _ (by omega), ceU_n _ _ _ (by omega), ceU_n _ _ _ (by omega), ceU_n _ _ _ (by omega), ceU_n _ _ _ (by omega), ceU_n _ _ _ (by omega), ceU_n _ _ _ (by omega), ceU_n _ _ _ (by omega), ceU_n _ _ _ (by omega), ceU_n _ _ _ (by omega), ceU_n _ _ _ (by omega), ceU_n _ _ _ (by omega), ceU_n _ _ _ (by omega), ceU_n _ _ _ (by omega), ceU_n _ _ _ (by omega), ceU_n _ _ _ (by omega), ceU_n _ _ _ (by omega), ceU_n _ _ _ (by omega), ceU_n _ _ _ (by omega), ceU_n _ _ _ (by omega), ceU_n _ _ _ (by omega)]; exact ceU_s _ _ _
  · rw [ceU_n _ _ _ (by omega), ceU_n _ _ _ (by omega), ceU_n _ _ _ (by omega), ceU_n _ _ _ (by omega), ceU_n _ _ _ (by omega), ceU_n _ _ _ (by omega), ceU_n _ _ _ (by omega), ceU_n _ _ _ (by omega), ceU_n _ _ _ (by omega), ceU_n _ _ _ (by omega), ceU_n _ _ _ (by omega), ceU_n _ _ _ (by omega), ceU_n _ _ _ (by omega), ceU_n _ _ _ (by omega), ceU_n _ _ _ (by omega), ceU_n _ _ _ (by omega), ceU_n _ _ _ (by omega), ceU_n _ _ _ (by omega)]; exact ceU_s _ _ _
  · rw [ceU_n _ _ _ (by omega), ceU_n _ _ _ (by omega), ceU_n _ _ _ (by omega), ceU_n _ _ _ (by omega), ceU_n _ _ _ (by omega), ceU_n _ _ _ (by omega), ceU_n _ _ _ (by omega), ceU_n _ _ _ (by omega), ceU_n _ _ _ (by omega), ceU_n _ _ _ (by omega), ceU_n _ _ _ (by omega), ceU_n _ _ _ (by omega), ceU_n _ _ _ (by omega), ceU_n _ _ _ (by omega), ceU_n _ _ _ (by omega), ceU_n _ _ _ (by omega)]; exact ceU_s _ _ _
  · rw [ceU_n _ _ _ (by omega), ceU_n _ _ _ (by omega), ceU_n _ _ _ (by omega), ceU_n _ _ _ (by omega), ceU_n _ _ _ (by omega), ceU_n _ _ _ (by omega), ceU_n _ _ _ (by omega), ceU_n _ _ _ (by omega), ceU_n _ _ _ (by omega), ceU_n _ _ _ (by omega), ceU_n _ _ _ (by omega), ceU_n _ _ _ (by omega), ceU_n _ _ _ (by omega), ceU_n _ _ _ (by omega)]; exact ceU_s _ _ _
  · rw [ceU_n _ _ _ (by omega), ceU_n _ _ _ (by omega), ceU_n _ _ _ (by omega), ceU_n _ _ _ (by omega), ceU_n _ _ _ (by omega), ceU_n _ _ _ (by omega), ceU_n _ _ _ (by omega), ceU_n _ _ _ (by omega), ceU_n _ _ _ (by omega), ceU_n _ _ _ (by omega), ceU_n _ _ _ (by omega), ceU_n _ _ _ (by omega)]; exact ceU_s _ _ _
  · rw [ceU_n _ _ _ (by omega), ceU_n _ _ _ (by omega), ceU_n _ _ _ (by omega), ceU_n _ _ _ (by omega), ceU_n _ _ _ (by omega), ceU_n _ _ _ (by omega), ceU_n _ _ _ (by omega), ceU_n _ _ _ (by omega), ceU_n _ _ _ (by omega), ceU_n _ _ _ (by omega)]; exact ceU_s _ _ _
  · rw [ceU_n _ _ _ (by omega), ceU_n _ _ _ (by omega), ceU_n _ _ _ (by omega), ceU_n _ _ _ (by omega), ceU_n _ _ _ (by omega), ceU_n _ _ _ (by omega), ceU_n _ _ _ (by omega), ceU_n _ _ _ (by omega)]; exact ceU_s _ _ _
  · rw [ceU_n _ _ _ (by omega), ceU_n _ _ _ (by omega), ceU_n _ _ _ (by omega), ceU_n _ _ _ (by omega), ceU_n _ _ _ (by omega), ceU_n _ _ _ (by omega)]; exact ceU_s _ _ _
  · rw [ceU_n _ _ _ (by omega), ceU_n _ _ _ (by omega), ceU_n _ _ _ (by omega), ceU_n _ _ _ (by omega)]; exact ceU_s _ _ _
  · rw [ceU_n _ _ _ (by omega), ceU_n _ _ _ (by omega)]; exact ceU_s _ _ _
  · intro q hq1
    rw [ceU_n _ _ _ (by omega), ceU_n _ _ _ (by omega), ceU_n _ _ _ (by omega), ceU_n _ _ _ (by omega), ceU_n _ _ _ (by omega), ceU_n _ _ _ (by omega), ceU_n _ _ _ (by omega), ceU_n _ _ _ (by omega), ceU_n _ _ _ (by omega), ceU_n _ _ _ (by omega), ceU_n _ _ _ (by omega), ceU_n _ _ _ (by omega), ceU_n _ _ _ (by omega), ceU_n _ _ _ (by omega), ceU_n _ _ _ (by omega), ceU_n _ _ _ (by omega), ceU_n _ _ _ (by omega), ceU_n _ _ _ (by omega), ceU_n _ _ _ (by omega), ceU_n _ _ _ (by omega), ceU_n _ _ _ (by omega), ceU_n _ _ _ (by omega), ceU_n _ _ _ (by omega), ceU_n _ _ _ (by omega), ceU_n _ _ _ (by omega), ceU_n _ _ _ (by omega), ceU_n _ _ _ (by omega), ceU_n _ _ _ (by omega), ceU_n _ _ _ (by omega), ceU_n _ _ _ (by omega), ceU_n _ _ _ (by omega), ceU_n _ _ _ (by omega), ceU_n _ _ _ (by omega), ceU_n _ _ _ (by omega), ceU_n _ _ _ (by omega), ceU_n _ _ _ (by omega), ceU_n _ _ _ (by omega), ceU_n _ _ _ (by omega), ceU_n _ _ _ (by omega), ceU_n _ _ _ (by omega), ceU_n _ _ _ (by omega), ceU_n _ _ _ (by omega), ceU_n _ _ _ (by omega), ceU_n _ _ _ (by omega), ceU_n _ _ _ (by omega), ceU_n _ _ _ (by omega), ceU_n _ _ _ (by omega), ceU_n _ _ _ (by omega), ceU_n _ _ _ (by omega), ceU_n _ _ _ (by omega), ceU_n _ _ _ (by omega), ceU_n _ _ _ (by omega), ceU_n _ _ _ (by omega), ceU_n _ _ _ (by omega), ceU_n _ _ _ (by omega), ceU_n _ _ _ (by omega), ceU_n _ _ _ (by omega), ceU_n _ _ _ (by omega), ceU_n _ _ _ (by omega), ceU_n _ _ _ (by omega), ceU_n _ _ _ (by omega), ceU_n _ _ _ (by omega), ceU_n _ _ _ (by omega), ceU_n _ _ _ (by omega), ceU_n _ _ _ (by omega), ceU_n _ _ _ (by omega), ceU_n _ _ _ (by omega)]
