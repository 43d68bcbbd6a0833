def L_X9_text_117  (K : Int32 → Mm → Prop) : Nat → Int32 → Int32 → Mm → Prop
  | 0, _, _, _ => False
  | n + 1, l2, l3, mem => ((mem 82 19) ≤ l3 → (∀ m_161 : Mm, m_161 = mu mem 83 6 ((mem 83 6) + 1) → (K l2 m_161))) ∧ (¬ (mem 82 19) ≤ l3 → (∃ i_143 : Nat, l3 = nI i_143 ∧ i_143 < 96 ∧ (∃ i_144 : Nat, ((89 + (96 * l2)) + l3) = nI i_144 ∧ i_144 < 1433 ∧ (∀ m_144 : Mm, m_144 = mu mem 83 i_144 (mem 92 i_143) → (L_X9_text_117   K n l2 (l3 + 1) m_144)))))
set_option maxRecDepth 100000 in
set_option maxHeartbeats 4000000 in
theorem l_X9_text_117 (X : CX)   (K : Int32 → Mm → Prop) : ∀ (n : Nat) (l2 : Int32) (l3 : Int32) (mem : Mm), L_X9_text_117    K n l2 l3 mem → GoC X 4 0 0 M_X9_text 117 [some (.ref (cx_n X + 82)), none, some (.int l2), some (.int l3)] [] 0 0 (cellAt X mem) (sz mem) (qm X (fun r m => ∃ v : Int32, r = some (.int v) ∧ K v m))
  := by
  intro n
  induction n with
  | zero => intro l2 l3 mem h; exact h.elim
  | succ n ih =>
    intro l2 l3 mem h
    unfold L_X9_text_117 at h
    refine gc_iload_n dX9_text_117 rfl ?_
    refine gc_aload_n dX9_text_118 rfl ?_
    refine go_getI dX9_text_119 lg_X9_254 (sz_lt (by decide)) kd_82 rfl ?_
    refine gc_icmp_ge 151 dX9_text_122 (by decide) (fun hc => ?_) (fun hc => ?_)
    · have h := h.1 hc
      refine gc_aload_n dX9_text_151 rfl ?_
      refine go_getR dX9_text_152 lg_X9_9 (sz_lt (by decide)) kd_82 rfl ?_
      refine gc_bipush (v := 6) dX9_text_155 (by decide) ?_
      refine gc_dup2 dX9_text_157 rfl rfl ?_
      refine go_iald 6 dX9_text_158 kd_83 rfl (by decide) ?_
      refine gc_iconst (v := 1) dX9_text_159 (by decide) ?_
      refine gc_iadd dX9_text_160 ?_
      refine go_iast_ 6 dX9_text_161 kd_83 rfl (by decide) (by decide) (fun m_161 em_161 => ?_)
      have h := h m_161 em_161
      refine gc_iload_n dX9_text_162 rfl ?_
      exact go_iret dX9_text_163 rfl (Nat.le_refl _) (Nat.le_refl _) ⟨_, rfl, h⟩
    · have h := h.2 hc
      refine gc_aload_n dX9_text_125 rfl ?_
      refine go_getR dX9_text_126 lg_X9_9 (sz_lt (by decide)) kd_82 rfl ?_
      refine gc_bipush (v := 89) dX9_text_129 (by decide) ?_
      refine gc_bipush (v := 96) dX9_text_131 (by decide) ?_
      refine gc_iload_n dX9_text_133 rfl ?_
      refine gc_imul dX9_text_134 ?_
      refine gc_iadd dX9_text_135 ?_
      refine gc_iload_n dX9_text_136 rfl ?_
      refine gc_iadd dX9_text_137 ?_
      refine gc_aload_n dX9_text_138 rfl ?_
      refine go_getR dX9_text_139 lg_X9_38 (sz_lt (by decide)) kd_82 rfl ?_
      refine gc_iload_n dX9_text_142 rfl ?_
      obtain ⟨i_143, hx_143, hi_143, h⟩ := h
      refine go_iald i_143 dX9_text_143 kd_92 hx_143 hi_143 ?_
      obtain ⟨i_144, hx_144, hi_144, h⟩ := h
      refine go_iast_ i_144 dX9_text_144 kd_83 hx_144 hi_144 (by decide) (fun m_144 em_144 => ?_)
      have h := h m_144 em_144
      refine gc_iinc (v := l3 + 1) dX9_text_145 rfl rfl (by decide) ?_
      refine gc_goto 117 dX9_text_148 (by decide) ?_
      exact ih l2 (l3 + 1) m_144  h
def B_X9_text_33  (K : Int32 → Mm → Prop) (s0 : Int32) (mem : Mm) : Prop := ∀ m_36 : Mm, m_36 = mu mem 82 9 0 → ((¬ s0 = 0 → ((¬ (m_36 83 6) = 14 → (∃ i_97 : Nat, (61 + (2 * (m_36 83 6))) = nI i_97 ∧ i_97 < 1433 ∧ (∀ m_97 : Mm, m_97 = mu m_36 83 i_97 ((1000 * (m_36 82 15)) + (m_36 82 19)) → (∃ i_114 : Nat, ((61 + (2 * (m_36 83 6))) + 1) = nI i_114 ∧ i_114 < 1433 ∧ (∀ m_114 : Mm, m_114 = mu m_97 83 i_114 (m_97 82 20) → (∃ nz : Nat, L_X9_text_117    K nz (m_36 83 6) 0 m_114)))))) ∧ ((m_36 83 6) = 14 → (K (-1000000003) m_36)))) ∧ (s0 = 0 → (K ((-100) - (m_36 82 11)) m_36)))
set_option maxRecDepth 100000 in
set_option maxHeartbeats 4000000 in
theorem b_X9_text_33 (X : CX)   (K : Int32 → Mm → Prop) (s0 : Int32) (mem : Mm)  (h : B_X9_text_33    K s0 mem) : GoC X 4 0 0 M_X9_text 33 [some (.ref (cx_n X + 82)), none, none, none] [.int s0] 0 0 (cellAt X mem) (sz mem) (qm X (fun r m => ∃ v : Int32, r = some (.int v) ∧ K v m)) := by
  unfold B_X9_text_33 at h
  refine gc_istore_n dX9_text_33 (by decide) ?_
  refine gc_aload_n dX9_text_34 rfl ?_
  refine gc_iconst (v := 0) dX9_text_35 (by decide) ?_
  refine go_putI_ dX9_text_36 lp_X9_218 (sz_lt (by decide)) kd_82 rfl (fun m_36 em_36 => ?_)
  have h := h m_36 em_36
  refine gc_iload_n dX9_text_39 rfl ?_
  refine gc_if_ne 51 dX9_text_40 (by decide) (fun hc => ?_) (fun hc => ?_)
  · have h := h.1 hc
    refine gc_aload_n dX9_text_51 rfl ?_
    refine go_getR dX9_text_52 lg_X9_9 (sz_lt (by decide)) kd_82 rfl ?_
    refine gc_bipush (v := 6) dX9_text_55 (by decide) ?_
    refine go_iald 6 dX9_text_57 kd_83 rfl (by decide) ?_
    refine gc_bipush (v := 14) dX9_text_58 (by decide) ?_
    refine gc_icmp_ne 66 dX9_text_60 (by decide) (fun hc => ?_) (fun hc => ?_)
    · have h := h.1 hc
      refine gc_aload_n dX9_text_66 rfl ?_
      refine go_getR dX9_text_67 lg_X9_9 (sz_lt (by decide)) kd_82 rfl ?_
      refine gc_bipush (v := 6) dX9_text_70 (by decide) ?_
      refine go_iald 6 dX9_text_72 kd_83 rfl (by decide) ?_
      refine gc_istore_n dX9_text_73 (by decide) ?_
      refine gc_aload_n dX9_text_74 rfl ?_
      refine go_getR dX9_text_75 lg_X9_9 (sz_lt (by decide)) kd_82 rfl ?_
      refine gc_bipush (v := 61) dX9_text_78 (by decide) ?_
      refine gc_iconst (v := 2) dX9_text_80 (by decide) ?_
      refine gc_iload_n dX9_text_81 rfl ?_
      refine gc_imul dX9_text_82 ?_
      refine gc_iadd dX9_text_83 ?_
      refine gc_sipush (v := 1000) dX9_text_84 (by decide) ?_
      refine gc_aload_n dX9_text_87 rfl ?_
      refine go_getI dX9_text_88 lg_X9_242 (sz_lt (by decide)) kd_82 rfl ?_
      refine gc_imul dX9_text_91 ?_
      refine gc_aload_n dX9_text_92 rfl ?_
      refine go_getI dX9_text_93 lg_X9_254 (sz_lt (by decide)) kd_82 rfl ?_
      refine gc_iadd dX9_text_96 ?_
      obtain ⟨i_97, hx_97, hi_97, h⟩ := h
      refine go_iast_ i_97 dX9_text_97 kd_83 hx_97 hi_97 (by decide) (fun m_97 em_97 => ?_)
      have h := h m_97 em_97
      refine gc_aload_n dX9_text_98 rfl ?_
      refine go_getR dX9_text_99 lg_X9_9 (sz_lt (by decide)) kd_82 rfl ?_
      refine gc_bipush (v := 61) dX9_text_102 (by decide) ?_
      refine gc_iconst (v := 2) dX9_text_104 (by decide) ?_
      refine gc_iload_n dX9_text_105 rfl ?_
      refine gc_imul dX9_text_106 ?_
      refine gc_iadd dX9_text_107 ?_
      refine gc_iconst (v := 1) dX9_text_108 (by decide) ?_
      refine gc_iadd dX9_text_109 ?_
      refine gc_aload_n dX9_text_110 rfl ?_
      refine go_getI dX9_text_111 lg_X9_260 (sz_lt (by decide)) kd_82 rfl ?_
      obtain ⟨i_114, hx_114, hi_114, h⟩ := h
      refine go_iast_ i_114 dX9_text_114 kd_83 hx_114 hi_114 (by decide) (fun m_114 em_114 => ?_)
      have h := h m_114 em_114
      refine gc_iconst (v := 0) dX9_text_115 (by decide) ?_
      refine gc_istore_n dX9_text_116 (by decide) ?_
      refine gc_forget 1 ?_
      obtain ⟨n9, h⟩ := h
      exact l_X9_text_117 X     K   n9 (m_36 83 6) 0 m_114  h
    · have h := h.2 hc
      refine gc_ldc (v := (-1000000003)) dX9_text_63 lk_X9_122 ?_
      exact go_iret dX9_text_65 rfl (Nat.le_refl _) (Nat.le_refl _) ⟨_, rfl, h⟩
  · have h := h.2 hc
    refine gc_bipush (v := (-100)) dX9_text_43 (by decide) ?_
    refine gc_aload_n dX9_text_45 rfl ?_
    refine go_getI dX9_text_46 lg_X9_224 (sz_lt (by decide)) kd_82 rfl ?_
    refine gc_isub dX9_text_49 ?_
    exact go_iret dX9_text_50 rfl (Nat.le_refl _) (Nat.le_refl _) ⟨_, rfl, h⟩
def W_X9_text  (mem : Mm) (K : Int32 → Mm → Prop) : Prop := ∀ m_2 : Mm, m_2 = mu mem 82 10 0 → (∀ m_7 : Mm, m_7 = mu m_2 82 14 (-1) → (W_X9_go  m_7 (fun m_11 => W_X9_takesKey  m_11 (fun v_15 m_15 => ((bZ v_15) = 0 → (B_X9_text_33    K 0 m_15)) ∧ (¬ (bZ v_15) = 0 → (W_X9_takesE  m_15 (fun v_22 m_22 => ((bZ v_22) = 0 → (B_X9_text_33    K 0 m_22)) ∧ (¬ (bZ v_22) = 0 → (B_X9_text_33    K 1 m_22)))))))))
set_option maxRecDepth 100000 in
set_option maxHeartbeats 4000000 in
theorem w_X9_text (X : CX)  (mem : Mm) (K : Int32 → Mm → Prop) (h : W_X9_text  mem K) : CallsI X 4 M_X9_text [.ref (cx_n X + 82)] mem K := by
  unfold W_X9_text at h
  refine CallsC.ofP 3 (by decide) rfl (Nat.le_of_ble_eq_true rfl) ?_
  refine gc_aload_n dX9_text_0 rfl ?_
  refine gc_iconst (v := 0) dX9_text_1 (by decide) ?_
  refine go_putI_ dX9_text_2 lp_X9_221 (sz_lt (by decide)) kd_82 rfl (fun m_2 em_2 => ?_)
  have h := h m_2 em_2
  refine gc_aload_n dX9_text_5 rfl ?_
  refine gc_iconst (v := (-1)) dX9_text_6 (by decide) ?_
  refine go_putI_ dX9_text_7 lp_X9_227 (sz_lt (by decide)) kd_82 rfl (fun m_7 em_7 => ?_)
  have h := h m_7 em_7
  refine gc_aload_n dX9_text_10 rfl ?_
  refine go_cVU (y := M_X9_go) (As := []) (rest := []) dX9_text_11 lm_X9_245 ok_X9_go (by decide) (sz_lt (by decide)) kd_82 rfl rfl (w_X9_go X  m_7 _ h) rfl (Nat.le_of_ble_eq_true rfl) (fun m_11 h => ?_)
  refine gc_aload_n dX9_text_14 rfl ?_
  refine go_cVZ (y := M_X9_takesKey) (As := []) (rest := []) dX9_text_15 lm_X9_276 ok_X9_takesKey (by decide) (sz_lt (by decide)) kd_82 rfl rfl (w_X9_takesKey X  m_11 _ h) rfl (Nat.le_of_ble_eq_true rfl) (fun v_15 m_15 h => ?_)
  refine gc_if_eq 32 dX9_text_18 (by decide) (fun hc => ?_) (fun hc => ?_)
  · have h := h.1 hc
    refine gc_iconst (v := 0) dX9_text_32 (by decide) ?_
    exact b_X9_text_33 X     K   0 m_15  h
  · have h := h.2 hc
    refine gc_aload_n dX9_text_21 rfl ?_
    refine go_cVZ (y := M_X9_takesE) (As := []) (rest := []) dX9_text_22 lm_X9_279 ok_X9_takesE (by decide) (sz_lt (by decide)) kd_82 rfl rfl (w_X9_takesE X  m_15 _ h) rfl (Nat.le_of_ble_eq_true rfl) (fun v_22 m_22 h => ?_)
    refine gc_if_eq 32 dX9_text_25 (by decide) (fun hc => ?_) (fun hc => ?_)
    · have h := h.1 hc
      refine gc_iconst (v := 0) dX9_text_32 (by decide) ?_
      exact b_X9_text_33 X     K   0 m_22  h
    · have h := h.2 hc
      refine gc_iconst (v := 1) dX9_text_28 (by decide) ?_
      refine gc_goto 33 dX9_text_29 (by decide) ?_
      exact b_X9_text_33 X     K   1 m_22  h
def W_X9_textTold (p0 : Int32) (p1 : Int32) (mem : Mm) (K : Int32 → Mm → Prop) : Prop := W_X9_in p0 0 ((mem 83 6) - 1) mem (fun v_11 m_11 => ((bZ v_11) = 0 → (K (-1000000001) m_11)) ∧ (¬ (bZ v_11) = 0 → (W_X9_in p1 0 1 m_11 (fun v_20 m_20 => (¬ (bZ v_20) = 0 → ((¬ p1 = 0 → (∃ i_63 : Nat, ((61 + (2 * p0)) + 1) = nI i_63 ∧ i_63 < 1433 ∧ (K (m_20 83 i_63) m_20))) ∧ (p1 = 0 → (∃ i_43 : Nat, (61 + (2 * p0)) = nI i_43 ∧ i_43 < 1433 ∧ (K ((m_20 83 i_43) / 1000) m_20))))) ∧ ((bZ v_20) = 0 → (K (-1000000001) m_20))))))
set_option maxRecDepth 100000 in
set_option maxHeartbeats 4000000 in
theorem w_X9_textTold (X : CX) (p0 : Int32) (p1 : Int32) (mem : Mm) (K : Int32 → Mm → Prop) (h : W_X9_textTold p0 p1 mem K) : CallsI X 1 M_X9_textTold [.ref (cx_n X + 82), .int p0, .int p1] mem K := by
  unfold W_X9_textTold at h
  refine CallsC.ofP 0 (by decide) rfl (Nat.le_of_ble_eq_true rfl) ?_
  refine gc_iload_n dX9_textTold_0 rfl ?_
  refine gc_iconst (v := 0) dX9_textTold_1 (by decide) ?_
  refine gc_aload_n dX9_textTold_2 rfl ?_
  refine go_getR dX9_textTold_3 lg_X9_9 (sz_lt (by decide)) kd_82 rfl ?_
  refine gc_bipush (v := 6) dX9_textTold_6 (by decide) ?_
  refine go_iald 6 dX9_textTold_8 kd_83 rfl (by decide) ?_
  refine gc_iconst (v := 1) dX9_textTold_9 (by decide) ?_
  refine gc_isub dX9_textTold_10 ?_
  refine go_cSZ (y := M_X9_in) (As := [.int p0, .int 0, .int ((mem 83 6) - 1)]) (rest := []) dX9_textTold_11 lm_X9_81 ok_X9_in (by decide) (w_X9_in X p0 0 ((mem 83 6) - 1) mem _ h) rfl (Nat.le_of_ble_eq_true rfl) (fun v_11 m_11 h => ?_)
  refine gc_if_eq 26 dX9_textTold_14 (by decide) (fun hc => ?_) (fun hc => ?_)
  · have h := h.1 hc
    refine gc_ldc (v := (-1000000001)) dX9_textTold_26 lk_X9_121 ?_
    exact go_iret dX9_textTold_28 rfl (Nat.le_refl _) (Nat.le_refl _) ⟨_, rfl, h⟩
  · have h := h.2 hc
    refine gc_iload_n dX9_textTold_17 rfl ?_
    refine gc_iconst (v := 0) dX9_textTold_18 (by decide) ?_
    refine gc_iconst (v := 1) dX9_textTold_19 (by decide) ?_
    refine go_cSZ (y := M_X9_in) (As := [.int p1, .int 0, .int 1]) (rest := []) dX9_textTold_20 lm_X9_81 ok_X9_in (by decide) (w_X9_in X p1 0 1 m_11 _ h) rfl (Nat.le_of_ble_eq_true rfl) (fun v_20 m_20 h => ?_)
    refine gc_if_ne 29 dX9_textTold_23 (by decide) (fun hc => ?_) (fun hc => ?_)
    · have h := h.1 hc
      refine gc_iload_n dX9_textTold_29 rfl ?_
      refine gc_if_ne 51 dX9_textTold_30 (by decide) (fun hc => ?_) (fun hc => ?_)
      · have h := h.1 hc
        refine gc_aload_n dX9_textTold_51 rfl ?_
        refine go_getR dX9_textTold_52 lg_X9_9 (sz_lt (by decide)) kd_82 rfl ?_
        refine gc_bipush (v := 61) dX9_textTold_55 (by decide) ?_
        refine gc_iconst (v := 2) dX9_textTold_57 (by decide) ?_
        refine gc_iload_n dX9_textTold_58 rfl ?_
        refine gc_imul dX9_textTold_59 ?_
        refine gc_iadd dX9_textTold_60 ?_
        refine gc_iconst (v := 1) dX9_textTold_61 (by decide) ?_
        refine gc_iadd dX9_textTold_62 ?_
        obtain ⟨i_63, hx_63, hi_63, h⟩ := h
        refine go_iald i_63 dX9_textTold_63 kd_83 hx_63 hi_63 ?_
        exact go_iret dX9_textTold_64 rfl (Nat.le_refl _) (Nat.le_refl _) ⟨_, rfl, h⟩
      · have h := h.2 hc
        refine gc_aload_n dX9_textTold_33 rfl ?_
        refine go_getR dX9_textTold_34 lg_X9_9 (sz_lt (by decide)) kd_82 rfl ?_
        refine gc_bipush (v := 61) dX9_textTold_37 (by decide) ?_
        refine gc_iconst (v := 2) dX9_textTold_39 (by decide) ?_
        refine gc_iload_n dX9_textTold_40 rfl ?_
        refine gc_imul dX9_textTold_41 ?_
        refine gc_iadd dX9_textTold_42 ?_
        obtain ⟨i_43, hx_43, hi_43, h⟩ := h
        refine go_iald i_43 dX9_textTold_43 kd_83 hx_43 hi_43 ?_
        refine gc_sipush (v := 1000) dX9_textTold_44 (by decide) ?_
        refine gc_idiv dX9_textTold_47 (by decide) ?_
        refine gc_goto 64 dX9_textTold_48 (by decide) ?_
        exact go_iret dX9_textTold_64 rfl (Nat.le_refl _) (Nat.le_refl _) ⟨_, rfl, h⟩
    · have h := h.2 hc
      refine gc_ldc (v := (-1000000001)) dX9_textTold_26 lk_X9_121 ?_
      exact go_iret dX9_textTold_28 rfl (Nat.le_refl _) (Nat.le_refl _) ⟨_, rfl, h⟩
def W_X9_why (p0 : Int32) (mem : Mm) (K : Int32 → Mm → Prop) : Prop := W_X9_in p0 0 2 mem (fun v_3 m_3 => (¬ (bZ v_3) = 0 → (W_X9_counts p0 m_3 (fun v_14 m_14 => (0 ≤ v_14 → (K v_14 m_14)) ∧ (¬ 0 ≤ v_14 → (K (-1000000005) m_14))))) ∧ ((bZ v_3) = 0 → (K (-1000000001) m_3)))
set_option maxRecDepth 100000 in
set_option maxHeartbeats 4000000 in
theorem w_X9_why (X : CX) (p0 : Int32) (mem : Mm) (K : Int32 → Mm → Prop) (h : W_X9_why p0 mem K) : CallsI X 1 M_X9_why [.ref (cx_n X + 82), .int p0] mem K := by
  unfold W_X9_why at h
  refine CallsC.ofP 1 (by decide) rfl (Nat.le_of_ble_eq_true rfl) ?_
  refine gc_iload_n dX9_why_0 rfl ?_
  refine gc_iconst (v := 0) dX9_why_1 (by decide) ?_
  refine gc_iconst (v := 2) dX9_why_2 (by decide) ?_
  refine go_cSZ (y := M_X9_in) (As := [.int p0, .int 0, .int 2]) (rest := []) dX9_why_3 lm_X9_81 ok_X9_in (by decide) (w_X9_in X p0 0 2 mem _ h) rfl (Nat.le_of_ble_eq_true rfl) (fun v_3 m_3 h => ?_)
  refine gc_if_ne 12 dX9_why_6 (by decide) (fun hc => ?_) (fun hc => ?_)
  · have h := h.1 hc
    refine gc_aload_n dX9_why_12 rfl ?_
    refine gc_iload_n dX9_why_13 rfl ?_
    refine go_cVI (y := M_X9_counts) (As := [.int p0]) (rest := []) dX9_why_14 lm_X9_93 ok_X9_counts (by decide) (sz_lt (by decide)) kd_82 rfl rfl (w_X9_counts X p0 m_3 _ h) rfl (Nat.le_of_ble_eq_true rfl) (fun v_14 m_14 h => ?_)
    refine gc_istore_n dX9_why_17 (by decide) ?_
    refine gc_iload_n dX9_why_18 rfl ?_
    refine gc_if_ge 27 dX9_why_19 (by decide) (fun hc => ?_) (fun hc => ?_)
    · have h := h.1 hc
      refine gc_iload_n dX9_why_27 rfl ?_
      exact go_iret dX9_why_28 rfl (Nat.le_refl _) (Nat.le_refl _) ⟨_, rfl, h⟩
    · have h := h.2 hc
      refine gc_ldc (v := (-1000000005)) dX9_why_22 lk_X9_180 ?_
      refine gc_goto 28 dX9_why_24 (by decide) ?_
      exact go_iret dX9_why_28 rfl (Nat.le_refl _) (Nat.le_refl _) ⟨_, rfl, h⟩
  · have h := h.2 hc
    refine gc_ldc (v := (-1000000001)) dX9_why_9 lk_X9_121 ?_
    exact go_iret dX9_why_11 rfl (Nat.le_refl _) (Nat.le_refl _) ⟨_, rfl, h⟩
def L_X9_sheet_66 (p0 : Int32) (p1 : Int32) (p2 : Int32) (K : Int32 → Mm → Prop) : Nat → Int32 → Int32 → Mm → Prop
  | 0, _, _, _ => False
  | n + 1, l1, l4, mem => (24 ≤ l4 → (∃ i_97 : Nat, l1 = nI i_97 ∧ i_97 < 4 ∧ (K (mem 98 i_97) mem))) ∧ (¬ 24 ≤ l4 → (∃ i_85 : Nat, ((24 * l1) + l4) = nI i_85 ∧ i_85 < 96 ∧ (∀ m_85 : Mm, m_85 = mu mem 99 i_85 0 → (L_X9_sheet_66 p0 p1 p2  K n l1 (l4 + 1) m_85))))
set_option maxRecDepth 100000 in
set_option maxHeartbeats 4000000 in
theorem l_X9_sheet_66 (X : CX) (p0 : Int32) (p1 : Int32) (p2 : Int32)  (K : Int32 → Mm → Prop) : ∀ (n : Nat) (l1 : Int32) (l4 : Int32) (mem : Mm), L_X9_sheet_66 p0 p1 p2   K n l1 l4 mem → GoC X 2 0 0 M_X9_sheet 66 [some (.ref (cx_n X + 82)), some (.int l1), none, none, some (.int l4)] [] 0 0 (cellAt X mem) (sz mem) (qm X (fun r m => ∃ v : Int32, r = some (.int v) ∧ K v m))
  := by
  intro n
  induction n with
  | zero => intro l1 l4 mem h; exact h.elim
  | succ n ih =>
    intro l1 l4 mem h
    unfold L_X9_sheet_66 at h
    refine gc_iload dX9_sheet_66 rfl ?_
    refine gc_bipush (v := 24) dX9_sheet_68 (by decide) ?_
    refine gc_icmp_ge 92 dX9_sheet_70 (by decide) (fun hc => ?_) (fun hc => ?_)
    · have h := h.1 hc
      refine gc_aload_n dX9_sheet_92 rfl ?_
      refine go_getR dX9_sheet_93 lg_X9_57 (sz_lt (by decide)) kd_82 rfl ?_
      refine gc_iload_n dX9_sheet_96 rfl ?_
      obtain ⟨i_97, hx_97, hi_97, h⟩ := h
      refine go_iald i_97 dX9_sheet_97 kd_98 hx_97 hi_97 ?_
      exact go_iret dX9_sheet_98 rfl (Nat.le_refl _) (Nat.le_refl _) ⟨_, rfl, h⟩
    · have h := h.2 hc
      refine gc_aload_n dX9_sheet_73 rfl ?_
      refine go_getR dX9_sheet_74 lg_X9_60 (sz_lt (by decide)) kd_82 rfl ?_
      refine gc_bipush (v := 24) dX9_sheet_77 (by decide) ?_
      refine gc_iload_n dX9_sheet_79 rfl ?_
      refine gc_imul dX9_sheet_80 ?_
      refine gc_iload dX9_sheet_81 rfl ?_
      refine gc_iadd dX9_sheet_83 ?_
      refine gc_iconst (v := 0) dX9_sheet_84 (by decide) ?_
      obtain ⟨i_85, hx_85, hi_85, h⟩ := h
      refine go_iast_ i_85 dX9_sheet_85 kd_99 hx_85 hi_85 (by decide) (fun m_85 em_85 => ?_)
      have h := h m_85 em_85
      refine gc_iinc (v := l4 + 1) dX9_sheet_86 rfl rfl (by decide) ?_
      refine gc_goto 66 dX9_sheet_89 (by decide) ?_
      exact ih l1 (l4 + 1) m_85  h
def B_X9_sheet_41 (p0 : Int32) (p1 : Int32) (p2 : Int32) (K : Int32 → Mm → Prop) (l1 : Int32) (l2 : Int32) (l3 : Int32) (mem : Mm) : Prop := ∃ i_47 : Nat, l1 = nI i_47 ∧ i_47 < 4 ∧ (∀ m_47 : Mm, m_47 = mu mem 97 i_47 l2 → ((0 ≤ l2 → (∃ i_62 : Nat, l1 = nI i_62 ∧ i_62 < 4 ∧ (∀ m_62 : Mm, m_62 = mu m_47 98 i_62 l3 → (∃ nz : Nat, L_X9_sheet_66 p0 p1 p2   K nz l1 0 m_62)))) ∧ (¬ 0 ≤ l2 → (∃ i_62 : Nat, l1 = nI i_62 ∧ i_62 < 4 ∧ (∀ m_62 : Mm, m_62 = mu m_47 98 i_62 0 → (∃ nz : Nat, L_X9_sheet_66 p0 p1 p2   K nz l1 0 m_62))))))
set_option maxRecDepth 100000 in
set_option maxHeartbeats 4000000 in
theorem b_X9_sheet_41 (X : CX) (p0 : Int32) (p1 : Int32) (p2 : Int32)  (K : Int32 → Mm → Prop) (l1 : Int32) (l2 : Int32) (l3 : Int32) (mem : Mm)  (h : B_X9_sheet_41 p0 p1 p2   K l1 l2 l3 mem) : GoC X 2 0 0 M_X9_sheet 41 [some (.ref (cx_n X + 82)), some (.int l1), some (.int l2), some (.int l3), none] [] 0 0 (cellAt X mem) (sz mem) (qm X (fun r m => ∃ v : Int32, r = some (.int v) ∧ K v m)) := by
  unfold B_X9_sheet_41 at h
  refine gc_aload_n dX9_sheet_41 rfl ?_
  refine go_getR dX9_sheet_42 lg_X9_54 (sz_lt (by decide)) kd_82 rfl ?_
  refine gc_iload_n dX9_sheet_45 rfl ?_
  refine gc_iload_n dX9_sheet_46 rfl ?_
  obtain ⟨i_47, hx_47, hi_47, h⟩ := h
  refine go_iast_ i_47 dX9_sheet_47 kd_97 hx_47 hi_47 (by decide) (fun m_47 em_47 => ?_)
  have h := h m_47 em_47
  refine gc_aload_n dX9_sheet_48 rfl ?_
  refine go_getR dX9_sheet_49 lg_X9_57 (sz_lt (by decide)) kd_82 rfl ?_
  refine gc_iload_n dX9_sheet_52 rfl ?_
  refine gc_iload_n dX9_sheet_53 rfl ?_
  refine gc_if_ge 61 dX9_sheet_54 (by decide) (fun hc => ?_) (fun hc => ?_)
  · have h := h.1 hc
    refine gc_iload_n dX9_sheet_61 rfl ?_
    obtain ⟨i_62, hx_62, hi_62, h⟩ := h
    refine go_iast_ i_62 dX9_sheet_62 kd_98 hx_62 hi_62 (by decide) (fun m_62 em_62 => ?_)
    have h := h m_62 em_62
    refine gc_iconst (v := 0) dX9_sheet_63 (by decide) ?_
    refine gc_istore dX9_sheet_64 (by decide) ?_
    refine gc_forget 2 ?_
    refine gc_forget 3 ?_
    obtain ⟨n9, h⟩ := h
    exact l_X9_sheet_66 X p0 p1 p2    K   n9 l1 0 m_62  h
  · have h := h.2 hc
    refine gc_iconst (v := 0) dX9_sheet_57 (by decide) ?_
    refine gc_goto 62 dX9_sheet_58 (by decide) ?_
    obtain ⟨i_62, hx_62, hi_62, h⟩ := h
    refine go_iast_ i_62 dX9_sheet_62 kd_98 hx_62 hi_62 (by decide) (fun m_62 em_62 => ?_)
    have h := h m_62 em_62
    refine gc_iconst (v := 0) dX9_sheet_63 (by decide) ?_
    refine gc_istore dX9_sheet_64 (by decide) ?_
    refine gc_forget 2 ?_
    refine gc_forget 3 ?_
    obtain ⟨n9, h⟩ := h
    exact l_X9_sheet_66 X p0 p1 p2    K   n9 l1 0 m_62  h
def W_X9_sheet (p0 : Int32) (p1 : Int32) (p2 : Int32) (mem : Mm) (K : Int32 → Mm → Prop) : Prop := W_X9_isSheet p0 mem (fun v_1 m_1 => ((bZ v_1) = 0 → (K (-1000000001) m_1)) ∧ (¬ (bZ v_1) = 0 → (W_X9_in p1 (-1) 1 m_1 (fun v_10 m_10 => ((bZ v_10) = 0 → (K (-1000000001) m_10)) ∧ (¬ (bZ v_10) = 0 → ((p1 < 0 → ((p1 < 0 → (B_X9_sheet_41 p0 p1 p2   K p0 p1 p2 m_10)) ∧ (¬ p1 < 0 → ((0 ≤ p2 → (B_X9_sheet_41 p0 p1 p2   K p0 p1 p2 m_10)) ∧ (¬ 0 ≤ p2 → (K (-1000000014) m_10)))))) ∧ (¬ p1 < 0 → ((p2 ≤ 24 → ((p1 < 0 → (B_X9_sheet_41 p0 p1 p2   K p0 p1 p2 m_10)) ∧ (¬ p1 < 0 → ((0 ≤ p2 → (B_X9_sheet_41 p0 p1 p2   K p0 p1 p2 m_10)) ∧ (¬ 0 ≤ p2 → (K (-1000000014) m_10)))))) ∧ (¬ p2 ≤ 24 → (K (-1000000001) m_10))))))))))
set_option maxRecDepth 100000 in
set_option maxHeartbeats 4000000 in
theorem w_X9_sheet (X : CX) (p0 : Int32) (p1 : Int32) (p2 : Int32) (mem : Mm) (K : Int32 → Mm → Prop) (h : W_X9_sheet p0 p1 p2 mem K) : CallsI X 2 M_X9_sheet [.ref (cx_n X + 82), .int p0, .int p1, .int p2] mem K := by
  unfold W_X9_sheet at h
  refine CallsC.ofP 1 (by decide) rfl (Nat.le_of_ble_eq_true rfl) ?_
  refine gc_iload_n dX9_sheet_0 rfl ?_
  refine go_cSZ (y := M_X9_isSheet) (As := [.int p0]) (rest := []) dX9_sheet_1 lm_X9_211 ok_X9_isSheet (by decide) (w_X9_isSheet X p0 mem _ h) rfl (Nat.le_of_ble_eq_true rfl) (fun v_1 m_1 h => ?_)
  refine gc_if_eq 26 dX9_sheet_4 (by decide) (fun hc => ?_) (fun hc => ?_)
  · have h := h.1 hc
    refine gc_ldc (v := (-1000000001)) dX9_sheet_26 lk_X9_121 ?_
    exact go_iret dX9_sheet_28 rfl (Nat.le_refl _) (Nat.le_refl _) ⟨_, rfl, h⟩
  · have h := h.2 hc
    refine gc_iload_n dX9_sheet_7 rfl ?_
    refine gc_iconst (v := (-1)) dX9_sheet_8 (by decide) ?_
    refine gc_iconst (v := 1) dX9_sheet_9 (by decide) ?_
    refine go_cSZ (y := M_X9_in) (As := [.int p1, .int (-1), .int 1]) (rest := []) dX9_sheet_10 lm_X9_81 ok_X9_in (by decide) (w_X9_in X p1 (-1) 1 m_1 _ h) rfl (Nat.le_of_ble_eq_true rfl) (fun v_10 m_10 h => ?_)
    refine gc_if_eq 26 dX9_sheet_13 (by decide) (fun hc => ?_) (fun hc => ?_)
    · have h := h.1 hc
      refine gc_ldc (v := (-1000000001)) dX9_sheet_26 lk_X9_121 ?_
      exact go_iret dX9_sheet_28 rfl (Nat.le_refl _) (Nat.le_refl _) ⟨_, rfl, h⟩
    · have h := h.2 hc
      refine gc_iload_n dX9_sheet_16 rfl ?_
      refine gc_if_lt 29 dX9_sheet_17 (by decide) (fun hc => ?_) (fun hc => ?_)
      · have h := h.1 hc
        refine gc_iload_n dX9_sheet_29 rfl ?_
        refine gc_if_lt 41 dX9_sheet_30 (by decide) (fun hc => ?_) (fun hc => ?_)
        · have h := h.1 hc
          exact b_X9_sheet_41 X p0 p1 p2    K   p0 p1 p2 m_10  h
        · have h := h.2 hc
          refine gc_iload_n dX9_sheet_33 rfl ?_
          refine gc_if_ge 41 dX9_sheet_34 (by decide) (fun hc => ?_) (fun hc => ?_)
          · have h := h.1 hc
            exact b_X9_sheet_41 X p0 p1 p2    K   p0 p1 p2 m_10  h
          · have h := h.2 hc
            refine gc_ldcw (v := (-1000000014)) dX9_sheet_37 lk_X9_285 ?_
            exact go_iret dX9_sheet_40 rfl (Nat.le_refl _) (Nat.le_refl _) ⟨_, rfl, h⟩
      · have h := h.2 hc
        refine gc_iload_n dX9_sheet_20 rfl ?_
        refine gc_bipush (v := 24) dX9_sheet_21 (by decide) ?_
        refine gc_icmp_le 29 dX9_sheet_23 (by decide) (fun hc => ?_) (fun hc => ?_)
        · have h := h.1 hc
          refine gc_iload_n dX9_sheet_29 rfl ?_
          refine gc_if_lt 41 dX9_sheet_30 (by decide) (fun hc => ?_) (fun hc => ?_)
          · have h := h.1 hc
            exact b_X9_sheet_41 X p0 p1 p2    K   p0 p1 p2 m_10  h
          · have h := h.2 hc
            refine gc_iload_n dX9_sheet_33 rfl ?_
            refine gc_if_ge 41 dX9_sheet_34 (by decide) (fun hc => ?_) (fun hc => ?_)
            · have h := h.1 hc
              exact b_X9_sheet_41 X p0 p1 p2    K   p0 p1 p2 m_10  h
            · have h := h.2 hc
              refine gc_ldcw (v := (-1000000014)) dX9_sheet_37 lk_X9_285 ?_
              exact go_iret dX9_sheet_40 rfl (Nat.le_refl _) (Nat.le_refl _) ⟨_, rfl, h⟩
        · have h := h.2 hc
          refine gc_ldc (v := (-1000000001)) dX9_sheet_26 lk_X9_121 ?_
          exact go_iret dX9_sheet_28 rfl (Nat.le_refl _) (Nat.le_refl _) ⟨_, rfl, h⟩
def B_X9_mark_92 (p0 : Int32) (p1 : Int32) (p2 : Int32) (K : Int32 → Mm → Prop) (l1 : Int32) (l2 : Int32) (l3 : Int32) (mem : Mm) : Prop := ∃ i_107 : Nat, l1 = nI i_107 ∧ i_107 < 4 ∧ ((¬ (mem 97 i_107) = 0 → (∃ i_117 : Nat, ((24 * l1) + l2) = nI i_117 ∧ i_117 < 96 ∧ (∀ m_117 : Mm, m_117 = mu mem 99 i_117 l3 → (K 1 m_117)))) ∧ ((mem 97 i_107) = 0 → (∃ i_117 : Nat, ((24 * l1) + l2) = nI i_117 ∧ i_117 < 96 ∧ (∀ m_117 : Mm, m_117 = mu mem 99 i_117 l3.toInt16.toInt32 → (K 1 m_117)))))
set_option maxRecDepth 100000 in
set_option maxHeartbeats 4000000 in
theorem b_X9_mark_92 (X : CX) (p0 : Int32) (p1 : Int32) (p2 : Int32)  (K : Int32 → Mm → Prop) (l1 : Int32) (l2 : Int32) (l3 : Int32) (mem : Mm)  (h : B_X9_mark_92 p0 p1 p2   K l1 l2 l3 mem) : GoC X 2 0 0 M_X9_mark 92 [some (.ref (cx_n X + 82)), some (.int l1), some (.int l2), some (.int l3)] [] 0 0 (cellAt X mem) (sz mem) (qm X (fun r m => ∃ v : Int32, r = some (.int v) ∧ K v m)) := by
  unfold B_X9_mark_92 at h
  refine gc_aload_n dX9_mark_92 rfl ?_
  refine go_getR dX9_mark_93 lg_X9_60 (sz_lt (by decide)) kd_82 rfl ?_
  refine gc_bipush (v := 24) dX9_mark_96 (by decide) ?_
  refine gc_iload_n dX9_mark_98 rfl ?_
  refine gc_imul dX9_mark_99 ?_
  refine gc_iload_n dX9_mark_100 rfl ?_
  refine gc_iadd dX9_mark_101 ?_
  refine gc_aload_n dX9_mark_102 rfl ?_
  refine go_getR dX9_mark_103 lg_X9_54 (sz_lt (by decide)) kd_82 rfl ?_
  refine gc_iload_n dX9_mark_106 rfl ?_
  obtain ⟨i_107, hx_107, hi_107, h⟩ := h
  refine go_iald i_107 dX9_mark_107 kd_97 hx_107 hi_107 ?_
  refine gc_if_ne 116 dX9_mark_108 (by decide) (fun hc => ?_) (fun hc => ?_)
  · have h := h.1 hc
    refine gc_iload_n dX9_mark_116 rfl ?_
    obtain ⟨i_117, hx_117, hi_117, h⟩ := h
    refine go_iast_ i_117 dX9_mark_117 kd_99 hx_117 hi_117 (by decide) (fun m_117 em_117 => ?_)
    have h := h m_117 em_117
    refine gc_iconst (v := 1) dX9_mark_118 (by decide) ?_
    exact go_iret dX9_mark_119 rfl (Nat.le_refl _) (Nat.le_refl _) ⟨_, rfl, h⟩
  · have h := h.2 hc
    refine gc_iload_n dX9_mark_111 rfl ?_
    refine gc_i2s dX9_mark_112 ?_
    refine gc_goto 117 dX9_mark_113 (by decide) ?_
    obtain ⟨i_117, hx_117, hi_117, h⟩ := h
    refine go_iast_ i_117 dX9_mark_117 kd_99 hx_117 hi_117 (by decide) (fun m_117 em_117 => ?_)
    have h := h m_117 em_117
    refine gc_iconst (v := 1) dX9_mark_118 (by decide) ?_
    exact go_iret dX9_mark_119 rfl (Nat.le_refl _) (Nat.le_refl _) ⟨_, rfl, h⟩
def B_X9_mark_60 (p0 : Int32) (p1 : Int32) (p2 : Int32) (K : Int32 → Mm → Prop) (l1 : Int32) (l2 : Int32) (l3 : Int32) (mem : Mm) : Prop := ∃ i_65 : Nat, l1 = nI i_65 ∧ i_65 < 4 ∧ ((¬ (mem 97 i_65) = 1 → (B_X9_mark_92 p0 p1 p2   K l1 l2 l3 mem)) ∧ ((mem 97 i_65) = 1 → ((l3 = (-1000000005) → (B_X9_mark_92 p0 p1 p2   K l1 l2 l3 mem)) ∧ (¬ l3 = (-1000000005) → (W_X9_in l3 (-99999) 99999 mem (fun v_83 m_83 => (¬ (bZ v_83) = 0 → (B_X9_mark_92 p0 p1 p2   K l1 l2 l3 m_83)) ∧ ((bZ v_83) = 0 → (K (-1000000001) m_83))))))))
set_option maxRecDepth 100000 in
set_option maxHeartbeats 4000000 in
theorem b_X9_mark_60 (X : CX) (p0 : Int32) (p1 : Int32) (p2 : Int32)  (K : Int32 → Mm → Prop) (l1 : Int32) (l2 : Int32) (l3 : Int32) (mem : Mm)  (h : B_X9_mark_60 p0 p1 p2   K l1 l2 l3 mem) : GoC X 2 0 0 M_X9_mark 60 [some (.ref (cx_n X + 82)), some (.int l1), some (.int l2), some (.int l3)] [] 0 0 (cellAt X mem) (sz mem) (qm X (fun r m => ∃ v : Int32, r = some (.int v) ∧ K v m)) := by
  unfold B_X9_mark_60 at h
  refine gc_aload_n dX9_mark_60 rfl ?_
  refine go_getR dX9_mark_61 lg_X9_54 (sz_lt (by decide)) kd_82 rfl ?_
  refine gc_iload_n dX9_mark_64 rfl ?_
  obtain ⟨i_65, hx_65, hi_65, h⟩ := h
  refine go_iald i_65 dX9_mark_65 kd_97 hx_65 hi_65 ?_
  refine gc_iconst (v := 1) dX9_mark_66 (by decide) ?_
  refine gc_icmp_ne 92 dX9_mark_67 (by decide) (fun hc => ?_) (fun hc => ?_)
  · have h := h.1 hc
    exact b_X9_mark_92 X p0 p1 p2    K   l1 l2 l3 mem  h
  · have h := h.2 hc
    refine gc_iload_n dX9_mark_70 rfl ?_
    refine gc_ldc (v := (-1000000005)) dX9_mark_71 lk_X9_180 ?_
    refine gc_icmp_eq 92 dX9_mark_73 (by decide) (fun hc => ?_) (fun hc => ?_)
    · have h := h.1 hc
      exact b_X9_mark_92 X p0 p1 p2    K   l1 l2 l3 mem  h
    · have h := h.2 hc
      refine gc_iload_n dX9_mark_76 rfl ?_
      refine gc_ldcw (v := (-99999)) dX9_mark_77 lk_X9_287 ?_
      refine gc_ldcw (v := 99999) dX9_mark_80 lk_X9_288 ?_
      refine go_cSZ (y := M_X9_in) (As := [.int l3, .int (-99999), .int 99999]) (rest := []) dX9_mark_83 lm_X9_81 ok_X9_in (by decide) (w_X9_in X l3 (-99999) 99999 mem _ h) rfl (Nat.le_of_ble_eq_true rfl) (fun v_83 m_83 h => ?_)
      refine gc_if_ne 92 dX9_mark_86 (by decide) (fun hc => ?_) (fun hc => ?_)
      · have h := h.1 hc
        exact b_X9_mark_92 X p0 p1 p2    K   l1 l2 l3 m_83  h
      · have h := h.2 hc
        refine gc_ldc (v := (-1000000001)) dX9_mark_89 lk_X9_121 ?_
        exact go_iret dX9_mark_91 rfl (Nat.le_refl _) (Nat.le_refl _) ⟨_, rfl, h⟩
def W_X9_mark (p0 : Int32) (p1 : Int32) (p2 : Int32) (mem : Mm) (K : Int32 → Mm → Prop) : Prop := W_X9_isSheet p0 mem (fun v_1 m_1 => (¬ (bZ v_1) = 0 → (∃ i_15 : Nat, p0 = nI i_15 ∧ i_15 < 4 ∧ ((0 ≤ (m_1 97 i_15) → (∃ i_29 : Nat, p0 = nI i_29 ∧ i_29 < 4 ∧ (W_X9_in p1 0 ((m_1 98 i_29) - 1) m_1 (fun v_32 m_32 => (¬ (bZ v_32) = 0 → (∃ i_47 : Nat, p0 = nI i_47 ∧ i_47 < 4 ∧ ((¬ (m_32 97 i_47) = 0 → (B_X9_mark_60 p0 p1 p2   K p0 p1 p2 m_32)) ∧ ((m_32 97 i_47) = 0 → ((¬ p2 = (-1000000005) → (B_X9_mark_60 p0 p1 p2   K p0 p1 p2 m_32)) ∧ (p2 = (-1000000005) → (K (-1000000012) m_32))))))) ∧ ((bZ v_32) = 0 → (K (-1000000013) m_32)))))) ∧ (¬ 0 ≤ (m_1 97 i_15) → (K (-1000000011) m_1))))) ∧ ((bZ v_1) = 0 → (K (-1000000001) m_1)))
set_option maxRecDepth 100000 in
set_option maxHeartbeats 4000000 in
theorem w_X9_mark (X : CX) (p0 : Int32) (p1 : Int32) (p2 : Int32) (mem : Mm) (K : Int32 → Mm → Prop) (h : W_X9_mark p0 p1 p2 mem K) : CallsI X 2 M_X9_mark [.ref (cx_n X + 82), .int p0, .int p1, .int p2] mem K := by
  unfold W_X9_mark at h
  refine CallsC.ofP 0 (by decide) rfl (Nat.le_of_ble_eq_true rfl) ?_
  refine gc_iload_n dX9_mark_0 rfl ?_
  refine go_cSZ (y := M_X9_isSheet) (As := [.int p0]) (rest := []) dX9_mark_1 lm_X9_211 ok_X9_isSheet (by decide) (w_X9_isSheet X p0 mem _ h) rfl (Nat.le_of_ble_eq_true rfl) (fun v_1 m_1 h => ?_)
  refine gc_if_ne 10 dX9_mark_4 (by decide) (fun hc => ?_) (fun hc => ?_)
  · have h := h.1 hc
    refine gc_aload_n dX9_mark_10 rfl ?_
    refine go_getR dX9_mark_11 lg_X9_54 (sz_lt (by decide)) kd_82 rfl ?_
    refine gc_iload_n dX9_mark_14 rfl ?_
    obtain ⟨i_15, hx_15, hi_15, h⟩ := h
    refine go_iald i_15 dX9_mark_15 kd_97 hx_15 hi_15 ?_
    refine gc_if_ge 22 dX9_mark_16 (by decide) (fun hc => ?_) (fun hc => ?_)
    · have h := h.1 hc
      refine gc_iload_n dX9_mark_22 rfl ?_
      refine gc_iconst (v := 0) dX9_mark_23 (by decide) ?_
      refine gc_aload_n dX9_mark_24 rfl ?_
      refine go_getR dX9_mark_25 lg_X9_57 (sz_lt (by decide)) kd_82 rfl ?_
      refine gc_iload_n dX9_mark_28 rfl ?_
      obtain ⟨i_29, hx_29, hi_29, h⟩ := h
      refine go_iald i_29 dX9_mark_29 kd_98 hx_29 hi_29 ?_
      refine gc_iconst (v := 1) dX9_mark_30 (by decide) ?_
      refine gc_isub dX9_mark_31 ?_
      refine go_cSZ (y := M_X9_in) (As := [.int p1, .int 0, .int ((m_1 98 i_29) - 1)]) (rest := []) dX9_mark_32 lm_X9_81 ok_X9_in (by decide) (w_X9_in X p1 0 ((m_1 98 i_29) - 1) m_1 _ h) rfl (Nat.le_of_ble_eq_true rfl) (fun v_32 m_32 h => ?_)
      refine gc_if_ne 42 dX9_mark_35 (by decide) (fun hc => ?_) (fun hc => ?_)
      · have h := h.1 hc
        refine gc_aload_n dX9_mark_42 rfl ?_
        refine go_getR dX9_mark_43 lg_X9_54 (sz_lt (by decide)) kd_82 rfl ?_
        refine gc_iload_n dX9_mark_46 rfl ?_
        obtain ⟨i_47, hx_47, hi_47, h⟩ := h
        refine go_iald i_47 dX9_mark_47 kd_97 hx_47 hi_47 ?_
        refine gc_if_ne 60 dX9_mark_48 (by decide) (fun hc => ?_) (fun hc => ?_)
        · have h := h.1 hc
          exact b_X9_mark_60 X p0 p1 p2    K   p0 p1 p2 m_32  h
        · have h := h.2 hc
          refine gc_iload_n dX9_mark_51 rfl ?_
          refine gc_ldc (v := (-1000000005)) dX9_mark_52 lk_X9_180 ?_
          refine gc_icmp_ne 60 dX9_mark_54 (by decide) (fun hc => ?_) (fun hc => ?_)
          · have h := h.1 hc
            exact b_X9_mark_60 X p0 p1 p2    K   p0 p1 p2 m_32  h
          · have h := h.2 hc
            refine gc_ldc (v := (-1000000012)) dX9_mark_57 lk_X9_140 ?_
            exact go_iret dX9_mark_59 rfl (Nat.le_refl _) (Nat.le_refl _) ⟨_, rfl, h⟩
      · have h := h.2 hc
        refine gc_ldcw (v := (-1000000013)) dX9_mark_38 lk_X9_286 ?_
        exact go_iret dX9_mark_41 rfl (Nat.le_refl _) (Nat.le_refl _) ⟨_, rfl, h⟩
    · have h := h.2 hc
      refine gc_ldc (v := (-1000000011)) dX9_mark_19 lk_X9_214 ?_
      exact go_iret dX9_mark_21 rfl (Nat.le_refl _) (Nat.le_refl _) ⟨_, rfl, h⟩
  · have h := h.2 hc
    refine gc_ldc (v := (-1000000001)) dX9_mark_7 lk_X9_121 ?_
    exact go_iret dX9_mark_9 rfl (Nat.le_refl _) (Nat.le_refl _) ⟨_, rfl, h⟩
def B_X9_pour_83 (p0 : Int32) (kb26 : Int32 → Int32 → Int32 → Mm → Prop) (K : Int32 → Mm → Prop) (l1 : Int32) (l2 : Int32) (l3 : Int32) (s0 : Int32) (mem : Mm) : Prop := W_X9_swaps ((7 + (6 * l3)) + 1) s0 mem (fun v_98 m_98 => (¬ v_98 = s0 → (kb26 l1 (l2 + 1) (l3 + 1) m_98)) ∧ (v_98 = s0 → (kb26 l1 (l2 + 0) (l3 + 1) m_98)))
set_option maxRecDepth 100000 in
set_option maxHeartbeats 4000000 in
theorem b_X9_pour_83 (X : CX) (p0 : Int32)  (kb26 : Int32 → Int32 → Int32 → Mm → Prop) (K : Int32 → Mm → Prop) (hkb26 : ∀ (l1 : Int32) (l2 : Int32) (l3 : Int32) (mem : Mm), kb26 l1 l2 l3 mem → GoC X 2 0 0 M_X9_pour 26 [some (.ref (cx_n X + 82)), some (.int l1), some (.int l2), some (.int l3), none, none] [] 0 0 (cellAt X mem) (sz mem) (qm X (fun r m => ∃ v : Int32, r = some (.int v) ∧ K v m))) (l1 : Int32) (l2 : Int32) (l3 : Int32) (s0 : Int32) (mem : Mm)  (h : B_X9_pour_83 p0  kb26 K l1 l2 l3 s0 mem) : GoC X 2 0 0 M_X9_pour 83 [some (.ref (cx_n X + 82)), some (.int l1), some (.int l2), some (.int l3), none, none] [.int s0] 0 0 (cellAt X mem) (sz mem) (qm X (fun r m => ∃ v : Int32, r = some (.int v) ∧ K v m)) := by
  unfold B_X9_pour_83 at h
  refine gc_istore dX9_pour_83 (by decide) ?_
  refine gc_iload_n dX9_pour_85 rfl ?_
  refine gc_aload_n dX9_pour_86 rfl ?_
  refine gc_bipush (v := 7) dX9_pour_87 (by decide) ?_
  refine gc_bipush (v := 6) dX9_pour_89 (by decide) ?_
  refine gc_iload_n dX9_pour_91 rfl ?_
  refine gc_imul dX9_pour_92 ?_
  refine gc_iadd dX9_pour_93 ?_
  refine gc_iconst (v := 1) dX9_pour_94 (by decide) ?_
  refine gc_iadd dX9_pour_95 ?_
  refine gc_iload dX9_pour_96 rfl ?_
  refine go_cVI (y := M_X9_swaps) (As := [.int ((7 + (6 * l3)) + 1), .int s0]) (rest := [.int l2]) dX9_pour_98 lm_X9_141 ok_X9_swaps (by decide) (sz_lt (by decide)) kd_82 rfl rfl (w_X9_swaps X ((7 + (6 * l3)) + 1) s0 mem _ h) rfl (Nat.le_of_ble_eq_true rfl) (fun v_98 m_98 h => ?_)
  refine gc_iload dX9_pour_101 rfl ?_
  refine gc_icmp_ne 110 dX9_pour_103 (by decide) (fun hc => ?_) (fun hc => ?_)
  · have h := h.1 hc
    refine gc_iconst (v := 1) dX9_pour_110 (by decide) ?_
    refine gc_iadd dX9_pour_111 ?_
    refine gc_istore_n dX9_pour_112 (by decide) ?_
    refine gc_iinc (v := l3 + 1) dX9_pour_113 rfl rfl (by decide) ?_
    refine gc_goto 26 dX9_pour_116 (by decide) ?_
    refine gc_forget 5 ?_
    exact hkb26 l1 (l2 + 1) (l3 + 1) m_98  h
  · have h := h.2 hc
    refine gc_iconst (v := 0) dX9_pour_106 (by decide) ?_
    refine gc_goto 111 dX9_pour_107 (by decide) ?_
    refine gc_iadd dX9_pour_111 ?_
    refine gc_istore_n dX9_pour_112 (by decide) ?_
    refine gc_iinc (v := l3 + 1) dX9_pour_113 rfl rfl (by decide) ?_
    refine gc_goto 26 dX9_pour_116 (by decide) ?_
    refine gc_forget 5 ?_
    exact hkb26 l1 (l2 + 0) (l3 + 1) m_98  h
def L_X9_pour_26 (p0 : Int32) (K : Int32 → Mm → Prop) : Nat → Int32 → Int32 → Int32 → Mm → Prop
  | 0, _, _, _, _ => False
  | n + 1, l1, l2, l3, mem => ∃ i_32 : Nat, l1 = nI i_32 ∧ i_32 < 4 ∧ (((mem 98 i_32) ≤ l3 → (K l2 mem)) ∧ (¬ (mem 98 i_32) ≤ l3 → (((mem 83 1) ≤ l3 → (K l2 mem)) ∧ (¬ (mem 83 1) ≤ l3 → (∃ i_56 : Nat, ((24 * l1) + l3) = nI i_56 ∧ i_56 < 96 ∧ ((¬ (mem 99 i_56) = (-1000000005) → (W_X9_within (mem 99 i_56) 0 99 mem (fun v_80 m_80 => B_X9_pour_83 p0  (fun zl1 zl2 zl3 zm => L_X9_pour_26 p0  K n zl1 zl2 zl3 zm) K l1 l2 l3 v_80 m_80))) ∧ ((mem 99 i_56) = (-1000000005) → (W_X9_of l3 1 mem (fun v_69 m_69 => B_X9_pour_83 p0  (fun zl1 zl2 zl3 zm => L_X9_pour_26 p0  K n zl1 zl2 zl3 zm) K l1 l2 l3 v_69 m_69)))))))))
set_option maxRecDepth 100000 in
set_option maxHeartbeats 4000000 in
theorem l_X9_pour_26 (X : CX) (p0 : Int32)  (K : Int32 → Mm → Prop) : ∀ (n : Nat) (l1 : Int32) (l2 : Int32) (l3 : Int32) (mem : Mm), L_X9_pour_26 p0   K n l1 l2 l3 mem → GoC X 2 0 0 M_X9_pour 26 [some (.ref (cx_n X + 82)), some (.int l1), some (.int l2), some (.int l3), none, none] [] 0 0 (cellAt X mem) (sz mem) (qm X (fun r m => ∃ v : Int32, r = some (.int v) ∧ K v m))
  := by
  intro n
  induction n with
  | zero => intro l1 l2 l3 mem h; exact h.elim
  | succ n ih =>
    intro l1 l2 l3 mem h
    unfold L_X9_pour_26 at h
    refine gc_iload_n dX9_pour_26 rfl ?_
    refine gc_aload_n dX9_pour_27 rfl ?_
    refine go_getR dX9_pour_28 lg_X9_57 (sz_lt (by decide)) kd_82 rfl ?_
    refine gc_iload_n dX9_pour_31 rfl ?_
    obtain ⟨i_32, hx_32, hi_32, h⟩ := h
    refine go_iald i_32 dX9_pour_32 kd_98 hx_32 hi_32 ?_
    refine gc_icmp_ge 119 dX9_pour_33 (by decide) (fun hc => ?_) (fun hc => ?_)
    · have h := h.1 hc
      refine gc_iload_n dX9_pour_119 rfl ?_
      exact go_iret dX9_pour_120 rfl (Nat.le_refl _) (Nat.le_refl _) ⟨_, rfl, h⟩
    · have h := h.2 hc
      refine gc_iload_n dX9_pour_36 rfl ?_
      refine gc_aload_n dX9_pour_37 rfl ?_
      refine go_getR dX9_pour_38 lg_X9_9 (sz_lt (by decide)) kd_82 rfl ?_
      refine gc_iconst (v := 1) dX9_pour_41 (by decide) ?_
      refine go_iald 1 dX9_pour_42 kd_83 rfl (by decide) ?_
      refine gc_icmp_ge 119 dX9_pour_43 (by decide) (fun hc => ?_) (fun hc => ?_)
      · have h := h.1 hc
        refine gc_iload_n dX9_pour_119 rfl ?_
        exact go_iret dX9_pour_120 rfl (Nat.le_refl _) (Nat.le_refl _) ⟨_, rfl, h⟩
      · have h := h.2 hc
        refine gc_aload_n dX9_pour_46 rfl ?_
        refine go_getR dX9_pour_47 lg_X9_60 (sz_lt (by decide)) kd_82 rfl ?_
        refine gc_bipush (v := 24) dX9_pour_50 (by decide) ?_
        refine gc_iload_n dX9_pour_52 rfl ?_
        refine gc_imul dX9_pour_53 ?_
        refine gc_iload_n dX9_pour_54 rfl ?_
        refine gc_iadd dX9_pour_55 ?_
        obtain ⟨i_56, hx_56, hi_56, h⟩ := h
        refine go_iald i_56 dX9_pour_56 kd_99 hx_56 hi_56 ?_
        refine gc_istore dX9_pour_57 (by decide) ?_
        refine gc_iload dX9_pour_59 rfl ?_
        refine gc_ldc (v := (-1000000005)) dX9_pour_61 lk_X9_180 ?_
        refine gc_icmp_ne 75 dX9_pour_63 (by decide) (fun hc => ?_) (fun hc => ?_)
        · have h := h.1 hc
          refine gc_iload dX9_pour_75 rfl ?_
          refine gc_iconst (v := 0) dX9_pour_77 (by decide) ?_
          refine gc_bipush (v := 99) dX9_pour_78 (by decide) ?_
          refine go_cSI (y := M_X9_within) (As := [.int (mem 99 i_56), .int 0, .int 99]) (rest := []) dX9_pour_80 lm_X9_107 ok_X9_within (by decide) (w_X9_within X (mem 99 i_56) 0 99 mem _ h) rfl (Nat.le_of_ble_eq_true rfl) (fun v_80 m_80 h => ?_)
          refine gc_forget 4 ?_
          exact b_X9_pour_83 X p0   (fun zl1 zl2 zl3 zm => L_X9_pour_26 p0  K n zl1 zl2 zl3 zm) K  ih l1 l2 l3 v_80 m_80  h
        · have h := h.2 hc
          refine gc_aload_n dX9_pour_66 rfl ?_
          refine gc_iload_n dX9_pour_67 rfl ?_
          refine gc_iconst (v := 1) dX9_pour_68 (by decide) ?_
          refine go_cVI (y := M_X9_of) (As := [.int l3, .int 1]) (rest := []) dX9_pour_69 lm_X9_89 ok_X9_of (by decide) (sz_lt (by decide)) kd_82 rfl rfl (w_X9_of X l3 1 mem _ h) rfl (Nat.le_of_ble_eq_true rfl) (fun v_69 m_69 h => ?_)
          refine gc_goto 83 dX9_pour_72 (by decide) ?_
          refine gc_forget 4 ?_
          exact b_X9_pour_83 X p0   (fun zl1 zl2 zl3 zm => L_X9_pour_26 p0  K n zl1 zl2 zl3 zm) K  ih l1 l2 l3 v_69 m_69  h
def W_X9_pour (p0 : Int32) (mem : Mm) (K : Int32 → Mm → Prop) : Prop := W_X9_isSheet p0 mem (fun v_1 m_1 => (¬ (bZ v_1) = 0 → (∃ i_15 : Nat, p0 = nI i_15 ∧ i_15 < 4 ∧ ((0 ≤ (m_1 97 i_15) → (∃ nz : Nat, L_X9_pour_26 p0   K nz p0 0 0 m_1)) ∧ (¬ 0 ≤ (m_1 97 i_15) → (K (-1000000011) m_1))))) ∧ ((bZ v_1) = 0 → (K (-1000000001) m_1)))
set_option maxRecDepth 100000 in
set_option maxHeartbeats 4000000 in
theorem w_X9_pour (X : CX) (p0 : Int32) (mem : Mm) (K : Int32 → Mm → Prop) (h : W_X9_pour p0 mem K) : CallsI X 2 M_X9_pour [.ref (cx_n X + 82), .int p0] mem K := by
  unfold W_X9_pour at h
  refine CallsC.ofP 4 (by decide) rfl (Nat.le_of_ble_eq_true rfl) ?_
  refine gc_iload_n dX9_pour_0 rfl ?_
  refine go_cSZ (y := M_X9_isSheet) (As := [.int p0]) (rest := []) dX9_pour_1 lm_X9_211 ok_X9_isSheet (by decide) (w_X9_isSheet X p0 mem _ h) rfl (Nat.le_of_ble_eq_true rfl) (fun v_1 m_1 h => ?_)
  refine gc_if_ne 10 dX9_pour_4 (by decide) (fun hc => ?_) (fun hc => ?_)
  · have h := h.1 hc
    refine gc_aload_n dX9_pour_10 rfl ?_
    refine go_getR dX9_pour_11 lg_X9_54 (sz_lt (by decide)) kd_82 rfl ?_
    refine gc_iload_n dX9_pour_14 rfl ?_
    obtain ⟨i_15, hx_15, hi_15, h⟩ := h
    refine go_iald i_15 dX9_pour_15 kd_97 hx_15 hi_15 ?_
    refine gc_if_ge 22 dX9_pour_16 (by decide) (fun hc => ?_) (fun hc => ?_)
    · have h := h.1 hc
      refine gc_iconst (v := 0) dX9_pour_22 (by decide) ?_
      refine gc_istore_n dX9_pour_23 (by decide) ?_
      refine gc_iconst (v := 0) dX9_pour_24 (by decide) ?_
      refine gc_istore_n dX9_pour_25 (by decide) ?_
      obtain ⟨n9, h⟩ := h
      exact l_X9_pour_26 X p0    K   n9 p0 0 0 m_1  h
    · have h := h.2 hc
      refine gc_ldc (v := (-1000000011)) dX9_pour_19 lk_X9_214 ?_
      exact go_iret dX9_pour_21 rfl (Nat.le_refl _) (Nat.le_refl _) ⟨_, rfl, h⟩
  · have h := h.2 hc
    refine gc_ldc (v := (-1000000001)) dX9_pour_7 lk_X9_121 ?_
    exact go_iret dX9_pour_9 rfl (Nat.le_refl _) (Nat.le_refl _) ⟨_, rfl, h⟩
def L_X9_reads_24 (p0 : Int32) (K : Int32 → Mm → Prop) : Nat → Int32 → Int32 → Mm → Prop
  | 0, _, _, _ => False
  | n + 1, l1, l2, mem => ∃ i_30 : Nat, l1 = nI i_30 ∧ i_30 < 4 ∧ (((mem 98 i_30) ≤ l2 → (K (-1000000005) mem)) ∧ (¬ (mem 98 i_30) ≤ l2 → (∃ i_44 : Nat, ((24 * l1) + l2) = nI i_44 ∧ i_44 < 96 ∧ (((mem 99 i_44) = (-1000000005) → (L_X9_reads_24 p0  K n l1 (l2 + 1) mem)) ∧ (¬ (mem 99 i_44) = (-1000000005) → (W_X9_isMan l2 mem (fun v_54 m_54 => ((bZ v_54) = 0 → (K l2 m_54)) ∧ (¬ (bZ v_54) = 0 → (W_X9_of l2 2 m_54 (fun v_64 m_64 => ((mem 99 i_44) = v_64 → (L_X9_reads_24 p0  K n l1 (l2 + 1) m_64)) ∧ (¬ (mem 99 i_44) = v_64 → (K l2 m_64))))))))))))
set_option maxRecDepth 100000 in
set_option maxHeartbeats 4000000 in
theorem l_X9_reads_24 (X : CX) (p0 : Int32)  (K : Int32 → Mm → Prop) : ∀ (n : Nat) (l1 : Int32) (l2 : Int32) (mem : Mm), L_X9_reads_24 p0   K n l1 l2 mem → GoC X 2 0 0 M_X9_reads 24 [some (.ref (cx_n X + 82)), some (.int l1), some (.int l2), none] [] 0 0 (cellAt X mem) (sz mem) (qm X (fun r m => ∃ v : Int32, r = some (.int v) ∧ K v m))
  := by
  intro n
  induction n with
  | zero => intro l1 l2 mem h; exact h.elim
  | succ n ih =>
    intro l1 l2 mem h
    unfold L_X9_reads_24 at h
    refine gc_iload_n dX9_reads_24 rfl ?_
    refine gc_aload_n dX9_reads_25 rfl ?_
    refine go_getR dX9_reads_26 lg_X9_57 (sz_lt (by decide)) kd_82 rfl ?_
    refine gc_iload_n dX9_reads_29 rfl ?_
    obtain ⟨i_30, hx_30, hi_30, h⟩ := h
    refine go_iald i_30 dX9_reads_30 kd_98 hx_30 hi_30 ?_
    refine gc_icmp_ge 78 dX9_reads_31 (by decide) (fun hc => ?_) (fun hc => ?_)
    · have h := h.1 hc
      refine gc_ldc (v := (-1000000005)) dX9_reads_78 lk_X9_180 ?_
      exact go_iret dX9_reads_80 rfl (Nat.le_refl _) (Nat.le_refl _) ⟨_, rfl, h⟩
    · have h := h.2 hc
      refine gc_aload_n dX9_reads_34 rfl ?_
      refine go_getR dX9_reads_35 lg_X9_60 (sz_lt (by decide)) kd_82 rfl ?_
      refine gc_bipush (v := 24) dX9_reads_38 (by decide) ?_
      refine gc_iload_n dX9_reads_40 rfl ?_
      refine gc_imul dX9_reads_41 ?_
      refine gc_iload_n dX9_reads_42 rfl ?_
      refine gc_iadd dX9_reads_43 ?_
      obtain ⟨i_44, hx_44, hi_44, h⟩ := h
      refine go_iald i_44 dX9_reads_44 kd_99 hx_44 hi_44 ?_
      refine gc_istore_n dX9_reads_45 (by decide) ?_
      refine gc_iload_n dX9_reads_46 rfl ?_
      refine gc_ldc (v := (-1000000005)) dX9_reads_47 lk_X9_180 ?_
      refine gc_icmp_eq 72 dX9_reads_49 (by decide) (fun hc => ?_) (fun hc => ?_)
      · have h := h.1 hc
        refine gc_iinc (v := l2 + 1) dX9_reads_72 rfl rfl (by decide) ?_
        refine gc_goto 24 dX9_reads_75 (by decide) ?_
        refine gc_forget 3 ?_
        exact ih l1 (l2 + 1) mem  h
      · have h := h.2 hc
        refine gc_aload_n dX9_reads_52 rfl ?_
        refine gc_iload_n dX9_reads_53 rfl ?_
        refine go_cVZ (y := M_X9_isMan) (As := [.int l2]) (rest := []) dX9_reads_54 lm_X9_85 ok_X9_isMan (by decide) (sz_lt (by decide)) kd_82 rfl rfl (w_X9_isMan X l2 mem _ h) rfl (Nat.le_of_ble_eq_true rfl) (fun v_54 m_54 h => ?_)
        refine gc_if_eq 70 dX9_reads_57 (by decide) (fun hc => ?_) (fun hc => ?_)
        · have h := h.1 hc
          refine gc_iload_n dX9_reads_70 rfl ?_
          exact go_iret dX9_reads_71 rfl (Nat.le_refl _) (Nat.le_refl _) ⟨_, rfl, h⟩
        · have h := h.2 hc
          refine gc_iload_n dX9_reads_60 rfl ?_
          refine gc_aload_n dX9_reads_61 rfl ?_
          refine gc_iload_n dX9_reads_62 rfl ?_
          refine gc_iconst (v := 2) dX9_reads_63 (by decide) ?_
          refine go_cVI (y := M_X9_of) (As := [.int l2, .int 2]) (rest := [.int (mem 99 i_44)]) dX9_reads_64 lm_X9_89 ok_X9_of (by decide) (sz_lt (by decide)) kd_82 rfl rfl (w_X9_of X l2 2 m_54 _ h) rfl (Nat.le_of_ble_eq_true rfl) (fun v_64 m_64 h => ?_)
          refine gc_icmp_eq 72 dX9_reads_67 (by decide) (fun hc => ?_) (fun hc => ?_)
          · have h := h.1 hc
            refine gc_iinc (v := l2 + 1) dX9_reads_72 rfl rfl (by decide) ?_
            refine gc_goto 24 dX9_reads_75 (by decide) ?_
            refine gc_forget 3 ?_
            exact ih l1 (l2 + 1) m_64  h
          · have h := h.2 hc
            refine gc_iload_n dX9_reads_70 rfl ?_
            exact go_iret dX9_reads_71 rfl (Nat.le_refl _) (Nat.le_refl _) ⟨_, rfl, h⟩
def W_X9_reads (p0 : Int32) (mem : Mm) (K : Int32 → Mm → Prop) : Prop := W_X9_isSheet p0 mem (fun v_1 m_1 => (¬ (bZ v_1) = 0 → (∃ i_15 : Nat, p0 = nI i_15 ∧ i_15 < 4 ∧ ((0 ≤ (m_1 97 i_15) → (∃ nz : Nat, L_X9_reads_24 p0   K nz p0 0 m_1)) ∧ (¬ 0 ≤ (m_1 97 i_15) → (K (-1000000011) m_1))))) ∧ ((bZ v_1) = 0 → (K (-1000000001) m_1)))
set_option maxRecDepth 100000 in
set_option maxHeartbeats 4000000 in
theorem w_X9_reads (X : CX) (p0 : Int32) (mem : Mm) (K : Int32 → Mm → Prop) (h : W_X9_reads p0 mem K) : CallsI X 2 M_X9_reads [.ref (cx_n X + 82), .int p0] mem K := by
  unfold W_X9_reads at h
  refine CallsC.ofP 2 (by decide) rfl (Nat.le_of_ble_eq_true rfl) ?_
  refine gc_iload_n dX9_reads_0 rfl ?_
  refine go_cSZ (y := M_X9_isSheet) (As := [.int p0]) (rest := []) dX9_reads_1 lm_X9_211 ok_X9_isSheet (by decide) (w_X9_isSheet X p0 mem _ h) rfl (Nat.le_of_ble_eq_true rfl) (fun v_1 m_1 h => ?_)
  refine gc_if_ne 10 dX9_reads_4 (by decide) (fun hc => ?_) (fun hc => ?_)
  · have h := h.1 hc
    refine gc_aload_n dX9_reads_10 rfl ?_
    refine go_getR dX9_reads_11 lg_X9_54 (sz_lt (by decide)) kd_82 rfl ?_
    refine gc_iload_n dX9_reads_14 rfl ?_
    obtain ⟨i_15, hx_15, hi_15, h⟩ := h
    refine go_iald i_15 dX9_reads_15 kd_97 hx_15 hi_15 ?_
    refine gc_if_ge 22 dX9_reads_16 (by decide) (fun hc => ?_) (fun hc => ?_)
    · have h := h.1 hc
      refine gc_iconst (v := 0) dX9_reads_22 (by decide) ?_
      refine gc_istore_n dX9_reads_23 (by decide) ?_
      obtain ⟨n9, h⟩ := h
      exact l_X9_reads_24 X p0    K   n9 p0 0 m_1  h
    · have h := h.2 hc
      refine gc_ldc (v := (-1000000011)) dX9_reads_19 lk_X9_214 ?_
      exact go_iret dX9_reads_21 rfl (Nat.le_refl _) (Nat.le_refl _) ⟨_, rfl, h⟩
  · have h := h.2 hc
    refine gc_ldc (v := (-1000000001)) dX9_reads_7 lk_X9_121 ?_
    exact go_iret dX9_reads_9 rfl (Nat.le_refl _) (Nat.le_refl _) ⟨_, rfl, h⟩
def L_X9_copy_141 (p0 : Int32) (p1 : Int32) (p2 : Int32) (p3 : Int32) (p4 : Int32) (K : Int32 → Mm → Prop) : Nat → Int32 → Int32 → Int32 → Int32 → Mm → Prop
  | 0, _, _, _, _, _ => False
  | n + 1, l3, l4, l5, l6, mem => (l5 ≤ l6 → (K l5 mem)) ∧ (¬ l5 ≤ l6 → (∃ i_168 : Nat, l6 = nI i_168 ∧ i_168 < 24 ∧ (∃ i_169 : Nat, (((24 * l3) + l4) + l6) = nI i_169 ∧ i_169 < 96 ∧ (∀ m_169 : Mm, m_169 = mu mem 99 i_169 (mem 104 i_168) → (L_X9_copy_141 p0 p1 p2 p3 p4  K n l3 l4 l5 (l6 + 1) m_169)))))
set_option maxRecDepth 100000 in
set_option maxHeartbeats 4000000 in
theorem l_X9_copy_141 (X : CX) (p0 : Int32) (p1 : Int32) (p2 : Int32) (p3 : Int32) (p4 : Int32)  (K : Int32 → Mm → Prop) : ∀ (n : Nat) (l3 : Int32) (l4 : Int32) (l5 : Int32) (l6 : Int32) (mem : Mm), L_X9_copy_141 p0 p1 p2 p3 p4   K n l3 l4 l5 l6 mem → GoC X 2 0 0 M_X9_copy 141 [some (.ref (cx_n X + 82)), none, none, some (.int l3), some (.int l4), some (.int l5), some (.int l6)] [] 0 0 (cellAt X mem) (sz mem) (qm X (fun r m => ∃ v : Int32, r = some (.int v) ∧ K v m))
  := by
  intro n
  induction n with
  | zero => intro l3 l4 l5 l6 mem h; exact h.elim
  | succ n ih =>
    intro l3 l4 l5 l6 mem h
    unfold L_X9_copy_141 at h
    refine gc_iload dX9_copy_141 rfl ?_
    refine gc_iload dX9_copy_143 rfl ?_
    refine gc_icmp_ge 176 dX9_copy_145 (by decide) (fun hc => ?_) (fun hc => ?_)
    · have h := h.1 hc
      refine gc_iload dX9_copy_176 rfl ?_
      exact go_iret dX9_copy_178 rfl (Nat.le_refl _) (Nat.le_refl _) ⟨_, rfl, h⟩
    · have h := h.2 hc
      refine gc_aload_n dX9_copy_148 rfl ?_
      refine go_getR dX9_copy_149 lg_X9_60 (sz_lt (by decide)) kd_82 rfl ?_
      refine gc_bipush (v := 24) dX9_copy_152 (by decide) ?_
      refine gc_iload_n dX9_copy_154 rfl ?_
      refine gc_imul dX9_copy_155 ?_
      refine gc_iload dX9_copy_156 rfl ?_
      refine gc_iadd dX9_copy_158 ?_
      refine gc_iload dX9_copy_159 rfl ?_
      refine gc_iadd dX9_copy_161 ?_
      refine gc_aload_n dX9_copy_162 rfl ?_
      refine go_getR dX9_copy_163 lg_X9_75 (sz_lt (by decide)) kd_82 rfl ?_
      refine gc_iload dX9_copy_166 rfl ?_
      obtain ⟨i_168, hx_168, hi_168, h⟩ := h
      refine go_iald i_168 dX9_copy_168 kd_104 hx_168 hi_168 ?_
      obtain ⟨i_169, hx_169, hi_169, h⟩ := h
      refine go_iast_ i_169 dX9_copy_169 kd_99 hx_169 hi_169 (by decide) (fun m_169 em_169 => ?_)
      have h := h m_169 em_169
      refine gc_iinc (v := l6 + 1) dX9_copy_170 rfl rfl (by decide) ?_
      refine gc_goto 141 dX9_copy_173 (by decide) ?_
      exact ih l3 l4 l5 (l6 + 1) m_169  h
def L_X9_copy_104 (p0 : Int32) (p1 : Int32) (p2 : Int32) (p3 : Int32) (p4 : Int32) (K : Int32 → Mm → Prop) : Nat → Int32 → Int32 → Int32 → Int32 → Int32 → Int32 → Mm → Prop
  | 0, _, _, _, _, _, _, _ => False
  | n + 1, l1, l2, l3, l4, l5, l6, mem => (l5 ≤ l6 → (∃ nz : Nat, L_X9_copy_141 p0 p1 p2 p3 p4   K nz l3 l4 l5 0 mem)) ∧ (¬ l5 ≤ l6 → (∃ i_130 : Nat, (((24 * l1) + l2) + l6) = nI i_130 ∧ i_130 < 96 ∧ (∃ i_131 : Nat, l6 = nI i_131 ∧ i_131 < 24 ∧ (∀ m_131 : Mm, m_131 = mu mem 104 i_131 (mem 99 i_130) → (L_X9_copy_104 p0 p1 p2 p3 p4  K n l1 l2 l3 l4 l5 (l6 + 1) m_131)))))
set_option maxRecDepth 100000 in
set_option maxHeartbeats 4000000 in
theorem l_X9_copy_104 (X : CX) (p0 : Int32) (p1 : Int32) (p2 : Int32) (p3 : Int32) (p4 : Int32)  (K : Int32 → Mm → Prop) : ∀ (n : Nat) (l1 : Int32) (l2 : Int32) (l3 : Int32) (l4 : Int32) (l5 : Int32) (l6 : Int32) (mem : Mm), L_X9_copy_104 p0 p1 p2 p3 p4   K n l1 l2 l3 l4 l5 l6 mem → GoC X 2 0 0 M_X9_copy 104 [some (.ref (cx_n X + 82)), some (.int l1), some (.int l2), some (.int l3), some (.int l4), some (.int l5), some (.int l6)] [] 0 0 (cellAt X mem) (sz mem) (qm X (fun r m => ∃ v : Int32, r = some (.int v) ∧ K v m))
  := by
  intro n
  induction n with
  | zero => intro l1 l2 l3 l4 l5 l6 mem h; exact h.elim
  | succ n ih =>
    intro l1 l2 l3 l4 l5 l6 mem h
    unfold L_X9_copy_104 at h
    refine gc_iload dX9_copy_104 rfl ?_
    refine gc_iload dX9_copy_106 rfl ?_
    refine gc_icmp_ge 138 dX9_copy_108 (by decide) (fun hc => ?_) (fun hc => ?_)
    · have h := h.1 hc
      refine gc_iconst (v := 0) dX9_copy_138 (by decide) ?_
      refine gc_istore dX9_copy_139 (by decide) ?_
      refine gc_forget 1 ?_
      refine gc_forget 2 ?_
      obtain ⟨n9, h⟩ := h
      exact l_X9_copy_141 X p0 p1 p2 p3 p4    K   n9 l3 l4 l5 0 mem  h
    · have h := h.2 hc
      refine gc_aload_n dX9_copy_111 rfl ?_
      refine go_getR dX9_copy_112 lg_X9_75 (sz_lt (by decide)) kd_82 rfl ?_
      refine gc_iload dX9_copy_115 rfl ?_
      refine gc_aload_n dX9_copy_117 rfl ?_
      refine go_getR dX9_copy_118 lg_X9_60 (sz_lt (by decide)) kd_82 rfl ?_
      refine gc_bipush (v := 24) dX9_copy_121 (by decide) ?_
      refine gc_iload_n dX9_copy_123 rfl ?_
      refine gc_imul dX9_copy_124 ?_
      refine gc_iload_n dX9_copy_125 rfl ?_
      refine gc_iadd dX9_copy_126 ?_
      refine gc_iload dX9_copy_127 rfl ?_
      refine gc_iadd dX9_copy_129 ?_
      obtain ⟨i_130, hx_130, hi_130, h⟩ := h
      refine go_iald i_130 dX9_copy_130 kd_99 hx_130 hi_130 ?_
      obtain ⟨i_131, hx_131, hi_131, h⟩ := h
      refine go_iast_ i_131 dX9_copy_131 kd_104 hx_131 hi_131 (by decide) (fun m_131 em_131 => ?_)
      have h := h m_131 em_131
      refine gc_iinc (v := l6 + 1) dX9_copy_132 rfl rfl (by decide) ?_
      refine gc_goto 104 dX9_copy_135 (by decide) ?_
      exact ih l1 l2 l3 l4 l5 (l6 + 1) m_131  h
def W_X9_copy (p0 : Int32) (p1 : Int32) (p2 : Int32) (p3 : Int32) (p4 : Int32) (mem : Mm) (K : Int32 → Mm → Prop) : Prop := W_X9_isSheet p0 mem (fun v_1 m_1 => ((bZ v_1) = 0 → (K (-1000000001) m_1)) ∧ (¬ (bZ v_1) = 0 → (W_X9_isSheet p2 m_1 (fun v_8 m_8 => (¬ (bZ v_8) = 0 → (∃ i_22 : Nat, p0 = nI i_22 ∧ i_22 < 4 ∧ (((m_8 97 i_22) < 0 → (K (-1000000011) m_8)) ∧ (¬ (m_8 97 i_22) < 0 → (∃ i_31 : Nat, p2 = nI i_31 ∧ i_31 < 4 ∧ ((0 ≤ (m_8 97 i_31) → (∃ i_43 : Nat, p0 = nI i_43 ∧ i_43 < 4 ∧ (∃ i_49 : Nat, p2 = nI i_49 ∧ i_49 < 4 ∧ (((m_8 97 i_43) = (m_8 97 i_49) → ((p1 < 0 → (K (-1000000013) m_8)) ∧ (¬ p1 < 0 → ((p3 < 0 → (K (-1000000013) m_8)) ∧ (¬ p3 < 0 → ((p4 < 0 → (K (-1000000013) m_8)) ∧ (¬ p4 < 0 → (∃ i_76 : Nat, p0 = nI i_76 ∧ i_76 < 4 ∧ ((((m_8 98 i_76) - p4) < p1 → (K (-1000000013) m_8)) ∧ (¬ ((m_8 98 i_76) - p4) < p1 → (∃ i_90 : Nat, p2 = nI i_90 ∧ i_90 < 4 ∧ ((p3 ≤ ((m_8 98 i_90) - p4) → (∃ nz : Nat, L_X9_copy_104 p0 p1 p2 p3 p4   K nz p0 p1 p2 p3 p4 0 m_8)) ∧ (¬ p3 ≤ ((m_8 98 i_90) - p4) → (K (-1000000013) m_8)))))))))))))) ∧ (¬ (m_8 97 i_43) = (m_8 97 i_49) → (K (-1000000012) m_8)))))) ∧ (¬ 0 ≤ (m_8 97 i_31) → (K (-1000000011) m_8)))))))) ∧ ((bZ v_8) = 0 → (K (-1000000001) m_8))))))
set_option maxRecDepth 100000 in
set_option maxHeartbeats 4000000 in
theorem w_X9_copy (X : CX) (p0 : Int32) (p1 : Int32) (p2 : Int32) (p3 : Int32) (p4 : Int32) (mem : Mm) (K : Int32 → Mm → Prop) (h : W_X9_copy p0 p1 p2 p3 p4 mem K) : CallsI X 2 M_X9_copy [.ref (cx_n X + 82), .int p0, .int p1, .int p2, .int p3, .int p4] mem K := by
  unfold W_X9_copy at h
  refine CallsC.ofP 1 (by decide) rfl (Nat.le_of_ble_eq_true rfl) ?_
  refine gc_iload_n dX9_copy_0 rfl ?_
  refine go_cSZ (y := M_X9_isSheet) (As := [.int p0]) (rest := []) dX9_copy_1 lm_X9_211 ok_X9_isSheet (by decide) (w_X9_isSheet X p0 mem _ h) rfl (Nat.le_of_ble_eq_true rfl) (fun v_1 m_1 h => ?_)
  refine gc_if_eq 14 dX9_copy_4 (by decide) (fun hc => ?_) (fun hc => ?_)
  · have h := h.1 hc
    refine gc_ldc (v := (-1000000001)) dX9_copy_14 lk_X9_121 ?_
    exact go_iret dX9_copy_16 rfl (Nat.le_refl _) (Nat.le_refl _) ⟨_, rfl, h⟩
  · have h := h.2 hc
    refine gc_iload_n dX9_copy_7 rfl ?_
    refine go_cSZ (y := M_X9_isSheet) (As := [.int p2]) (rest := []) dX9_copy_8 lm_X9_211 ok_X9_isSheet (by decide) (w_X9_isSheet X p2 m_1 _ h) rfl (Nat.le_of_ble_eq_true rfl) (fun v_8 m_8 h => ?_)
    refine gc_if_ne 17 dX9_copy_11 (by decide) (fun hc => ?_) (fun hc => ?_)
    · have h := h.1 hc
      refine gc_aload_n dX9_copy_17 rfl ?_
      refine go_getR dX9_copy_18 lg_X9_54 (sz_lt (by decide)) kd_82 rfl ?_
      refine gc_iload_n dX9_copy_21 rfl ?_
      obtain ⟨i_22, hx_22, hi_22, h⟩ := h
      refine go_iald i_22 dX9_copy_22 kd_97 hx_22 hi_22 ?_
      refine gc_if_lt 35 dX9_copy_23 (by decide) (fun hc => ?_) (fun hc => ?_)
      · have h := h.1 hc
        refine gc_ldc (v := (-1000000011)) dX9_copy_35 lk_X9_214 ?_
        exact go_iret dX9_copy_37 rfl (Nat.le_refl _) (Nat.le_refl _) ⟨_, rfl, h⟩
      · have h := h.2 hc
        refine gc_aload_n dX9_copy_26 rfl ?_
        refine go_getR dX9_copy_27 lg_X9_54 (sz_lt (by decide)) kd_82 rfl ?_
        refine gc_iload_n dX9_copy_30 rfl ?_
        obtain ⟨i_31, hx_31, hi_31, h⟩ := h
        refine go_iald i_31 dX9_copy_31 kd_97 hx_31 hi_31 ?_
        refine gc_if_ge 38 dX9_copy_32 (by decide) (fun hc => ?_) (fun hc => ?_)
        · have h := h.1 hc
          refine gc_aload_n dX9_copy_38 rfl ?_
          refine go_getR dX9_copy_39 lg_X9_54 (sz_lt (by decide)) kd_82 rfl ?_
          refine gc_iload_n dX9_copy_42 rfl ?_
          obtain ⟨i_43, hx_43, hi_43, h⟩ := h
          refine go_iald i_43 dX9_copy_43 kd_97 hx_43 hi_43 ?_
          refine gc_aload_n dX9_copy_44 rfl ?_
          refine go_getR dX9_copy_45 lg_X9_54 (sz_lt (by decide)) kd_82 rfl ?_
          refine gc_iload_n dX9_copy_48 rfl ?_
          obtain ⟨i_49, hx_49, hi_49, h⟩ := h
          refine go_iald i_49 dX9_copy_49 kd_97 hx_49 hi_49 ?_
          refine gc_icmp_eq 56 dX9_copy_50 (by decide) (fun hc => ?_) (fun hc => ?_)
          · have h := h.1 hc
            refine gc_iload_n dX9_copy_56 rfl ?_
            refine gc_if_lt 97 dX9_copy_57 (by decide) (fun hc => ?_) (fun hc => ?_)
            · have h := h.1 hc
              refine gc_ldcw (v := (-1000000013)) dX9_copy_97 lk_X9_286 ?_
              exact go_iret dX9_copy_100 rfl (Nat.le_refl _) (Nat.le_refl _) ⟨_, rfl, h⟩
            · have h := h.2 hc
              refine gc_iload dX9_copy_60 rfl ?_
              refine gc_if_lt 97 dX9_copy_62 (by decide) (fun hc => ?_) (fun hc => ?_)
              · have h := h.1 hc
                refine gc_ldcw (v := (-1000000013)) dX9_copy_97 lk_X9_286 ?_
                exact go_iret dX9_copy_100 rfl (Nat.le_refl _) (Nat.le_refl _) ⟨_, rfl, h⟩
              · have h := h.2 hc
                refine gc_iload dX9_copy_65 rfl ?_
                refine gc_if_lt 97 dX9_copy_67 (by decide) (fun hc => ?_) (fun hc => ?_)
                · have h := h.1 hc
                  refine gc_ldcw (v := (-1000000013)) dX9_copy_97 lk_X9_286 ?_
                  exact go_iret dX9_copy_100 rfl (Nat.le_refl _) (Nat.le_refl _) ⟨_, rfl, h⟩
                · have h := h.2 hc
                  refine gc_iload_n dX9_copy_70 rfl ?_
                  refine gc_aload_n dX9_copy_71 rfl ?_
                  refine go_getR dX9_copy_72 lg_X9_57 (sz_lt (by decide)) kd_82 rfl ?_
                  refine gc_iload_n dX9_copy_75 rfl ?_
                  obtain ⟨i_76, hx_76, hi_76, h⟩ := h
                  refine go_iald i_76 dX9_copy_76 kd_98 hx_76 hi_76 ?_
                  refine gc_iload dX9_copy_77 rfl ?_
                  refine gc_isub dX9_copy_79 ?_
                  refine gc_icmp_gt 97 dX9_copy_80 (by decide) (fun hc => ?_) (fun hc => ?_)
                  · have h := h.1 hc
                    refine gc_ldcw (v := (-1000000013)) dX9_copy_97 lk_X9_286 ?_
                    exact go_iret dX9_copy_100 rfl (Nat.le_refl _) (Nat.le_refl _) ⟨_, rfl, h⟩
                  · have h := h.2 hc
                    refine gc_iload dX9_copy_83 rfl ?_
                    refine gc_aload_n dX9_copy_85 rfl ?_
                    refine go_getR dX9_copy_86 lg_X9_57 (sz_lt (by decide)) kd_82 rfl ?_
                    refine gc_iload_n dX9_copy_89 rfl ?_
                    obtain ⟨i_90, hx_90, hi_90, h⟩ := h
                    refine go_iald i_90 dX9_copy_90 kd_98 hx_90 hi_90 ?_
                    refine gc_iload dX9_copy_91 rfl ?_
                    refine gc_isub dX9_copy_93 ?_
                    refine gc_icmp_le 101 dX9_copy_94 (by decide) (fun hc => ?_) (fun hc => ?_)
                    · have h := h.1 hc
                      refine gc_iconst (v := 0) dX9_copy_101 (by decide) ?_
                      refine gc_istore dX9_copy_102 (by decide) ?_
                      obtain ⟨n9, h⟩ := h
                      exact l_X9_copy_104 X p0 p1 p2 p3 p4    K   n9 p0 p1 p2 p3 p4 0 m_8  h
                    · have h := h.2 hc
                      refine gc_ldcw (v := (-1000000013)) dX9_copy_97 lk_X9_286 ?_
                      exact go_iret dX9_copy_100 rfl (Nat.le_refl _) (Nat.le_refl _) ⟨_, rfl, h⟩
          · have h := h.2 hc
            refine gc_ldc (v := (-1000000012)) dX9_copy_53 lk_X9_140 ?_
            exact go_iret dX9_copy_55 rfl (Nat.le_refl _) (Nat.le_refl _) ⟨_, rfl, h⟩
        · have h := h.2 hc
          refine gc_ldc (v := (-1000000011)) dX9_copy_35 lk_X9_214 ?_
          exact go_iret dX9_copy_37 rfl (Nat.le_refl _) (Nat.le_refl _) ⟨_, rfl, h⟩
    · have h := h.2 hc
      refine gc_ldc (v := (-1000000001)) dX9_copy_14 lk_X9_121 ?_
      exact go_iret dX9_copy_16 rfl (Nat.le_refl _) (Nat.le_refl _) ⟨_, rfl, h⟩
