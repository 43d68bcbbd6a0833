def W_X9_seed (p0 : Int32) (mem : Mm) (K : Int32 → Mm → Prop) : Prop := W_X9_swaps 0 p0 mem (fun v_3 m_3 => K v_3 m_3)
set_option maxRecDepth 100000 in
set_option maxHeartbeats 4000000 in
theorem w_X9_seed (X : CX) (p0 : Int32) (mem : Mm) (K : Int32 → Mm → Prop) (h : W_X9_seed p0 mem K) : CallsI X 1 M_X9_seed [.ref (cx_n X + 82), .int p0] mem K := by
  unfold W_X9_seed at h
  refine CallsC.ofP 0 (by decide) rfl (Nat.le_of_ble_eq_true rfl) ?_
  refine gc_aload_n dX9_seed_0 rfl ?_
  refine gc_iconst (v := 0) dX9_seed_1 (by decide) ?_
  refine gc_iload_n dX9_seed_2 rfl ?_
  refine go_cVI (y := M_X9_swaps) (As := [.int 0, .int p0]) (rest := []) dX9_seed_3 lm_X9_141 ok_X9_swaps (by decide) (sz_lt (by decide)) kd_82 rfl rfl (w_X9_swaps X 0 p0 mem _ h) rfl (Nat.le_of_ble_eq_true rfl) (fun v_3 m_3 h => ?_)
  exact go_iret dX9_seed_6 rfl (Nat.le_refl _) (Nat.le_refl _) ⟨_, rfl, h⟩
def L_X9_aGo_111  (K : Mm → Prop) : Nat → Int32 → Mm → Prop
  | 0, _, _ => False
  | n + 1, l5, mem => ((mem 83 1) ≤ l5 → (∀ m_173 : Mm, m_173 = mu mem 83 5 ((mem 83 5) + 1) → (∀ m_183 : Mm, m_183 = mu m_173 83 2 ((m_173 83 2) + 1) → (K m_183)))) ∧ (¬ (mem 83 1) ≤ l5 → (W_X9_of l5 1 mem (fun v_130 m_130 => W_X9_of l5 5 m_130 (fun v_137 m_137 => (¬ v_137 = 0 → (W_X9_within (v_130 + (-1)) 0 99 m_137 (fun v_152 m_152 => W_X9_put l5 1 v_152 m_152 (fun m_155 => L_X9_aGo_111   K n (l5 + 1) m_155)))) ∧ (v_137 = 0 → (W_X9_within (v_130 + 1) 0 99 m_137 (fun v_152 m_152 => W_X9_put l5 1 v_152 m_152 (fun m_155 => L_X9_aGo_111   K n (l5 + 1) m_155))))))))
set_option maxRecDepth 100000 in
set_option maxHeartbeats 4000000 in
theorem l_X9_aGo_111 (X : CX)   (K : Mm → Prop) : ∀ (n : Nat) (l5 : Int32) (mem : Mm), L_X9_aGo_111    K n l5 mem → GoC X 18 0 0 M_X9_aGo 111 [some (.ref (cx_n X + 82)), none, none, none, none, some (.int l5), none] [] 0 0 (cellAt X mem) (sz mem) (qm X (fun r m => r = none ∧ K m))
  := by
  intro n
  induction n with
  | zero => intro l5 mem h; exact h.elim
  | succ n ih =>
    intro l5 mem h
    unfold L_X9_aGo_111 at h
    refine gc_iload dX9_aGo_111 rfl ?_
    refine gc_aload_n dX9_aGo_113 rfl ?_
    refine go_getR dX9_aGo_114 lg_X9_9 (sz_lt (by decide)) kd_82 rfl ?_
    refine gc_iconst (v := 1) dX9_aGo_117 (by decide) ?_
    refine go_iald 1 dX9_aGo_118 kd_83 rfl (by decide) ?_
    refine gc_icmp_ge 164 dX9_aGo_119 (by decide) (fun hc => ?_) (fun hc => ?_)
    · have h := h.1 hc
      refine gc_aload_n dX9_aGo_164 rfl ?_
      refine go_getR dX9_aGo_165 lg_X9_9 (sz_lt (by decide)) kd_82 rfl ?_
      refine gc_iconst (v := 5) dX9_aGo_168 (by decide) ?_
      refine gc_dup2 dX9_aGo_169 rfl rfl ?_
      refine go_iald 5 dX9_aGo_170 kd_83 rfl (by decide) ?_
      refine gc_iconst (v := 1) dX9_aGo_171 (by decide) ?_
      refine gc_iadd dX9_aGo_172 ?_
      refine go_iast_ 5 dX9_aGo_173 kd_83 rfl (by decide) (by decide) (fun m_173 em_173 => ?_)
      have h := h m_173 em_173
      refine gc_aload_n dX9_aGo_174 rfl ?_
      refine go_getR dX9_aGo_175 lg_X9_9 (sz_lt (by decide)) kd_82 rfl ?_
      refine gc_iconst (v := 2) dX9_aGo_178 (by decide) ?_
      refine gc_dup2 dX9_aGo_179 rfl rfl ?_
      refine go_iald 2 dX9_aGo_180 kd_83 rfl (by decide) ?_
      refine gc_iconst (v := 1) dX9_aGo_181 (by decide) ?_
      refine gc_iadd dX9_aGo_182 ?_
      refine go_iast_ 2 dX9_aGo_183 kd_83 rfl (by decide) (by decide) (fun m_183 em_183 => ?_)
      have h := h m_183 em_183
      exact go_vret dX9_aGo_184 rfl (Nat.le_refl _) (Nat.le_refl _) ⟨rfl, h⟩
    · have h := h.2 hc
      refine gc_aload_n dX9_aGo_122 rfl ?_
      refine gc_iload dX9_aGo_123 rfl ?_
      refine gc_iconst (v := 1) dX9_aGo_125 (by decide) ?_
      refine gc_aload_n dX9_aGo_126 rfl ?_
      refine gc_iload dX9_aGo_127 rfl ?_
      refine gc_iconst (v := 1) dX9_aGo_129 (by decide) ?_
      refine go_cVI (y := M_X9_of) (As := [.int l5, .int 1]) (rest := [.int 1, .int l5, .ref (cx_n X + 82)]) dX9_aGo_130 lm_X9_89 ok_X9_of (by decide) (sz_lt (by decide)) kd_82 rfl rfl (w_X9_of X l5 1 mem _ h) rfl (Nat.le_of_ble_eq_true rfl) (fun v_130 m_130 h => ?_)
      refine gc_aload_n dX9_aGo_133 rfl ?_
      refine gc_iload dX9_aGo_134 rfl ?_
      refine gc_iconst (v := 5) dX9_aGo_136 (by decide) ?_
      refine go_cVI (y := M_X9_of) (As := [.int l5, .int 5]) (rest := [.int v_130, .int 1, .int l5, .ref (cx_n X + 82)]) dX9_aGo_137 lm_X9_89 ok_X9_of (by decide) (sz_lt (by decide)) kd_82 rfl rfl (w_X9_of X l5 5 m_130 _ h) rfl (Nat.le_of_ble_eq_true rfl) (fun v_137 m_137 h => ?_)
      refine gc_if_ne 147 dX9_aGo_140 (by decide) (fun hc => ?_) (fun hc => ?_)
      · have h := h.1 hc
        refine gc_iconst (v := (-1)) dX9_aGo_147 (by decide) ?_
        refine gc_iadd dX9_aGo_148 ?_
        refine gc_iconst (v := 0) dX9_aGo_149 (by decide) ?_
        refine gc_bipush (v := 99) dX9_aGo_150 (by decide) ?_
        refine go_cSI (y := M_X9_within) (As := [.int (v_130 + (-1)), .int 0, .int 99]) (rest := [.int 1, .int l5, .ref (cx_n X + 82)]) dX9_aGo_152 lm_X9_107 ok_X9_within (by decide) (w_X9_within X (v_130 + (-1)) 0 99 m_137 _ h) rfl (Nat.le_of_ble_eq_true rfl) (fun v_152 m_152 h => ?_)
        refine go_cVU (y := M_X9_put) (As := [.int l5, .int 1, .int v_152]) (rest := []) dX9_aGo_155 lm_X9_114 ok_X9_put (by decide) (sz_lt (by decide)) kd_82 rfl rfl (w_X9_put X l5 1 v_152 m_152 _ h) rfl (Nat.le_of_ble_eq_true rfl) (fun m_155 h => ?_)
        refine gc_iinc (v := l5 + 1) dX9_aGo_158 rfl rfl (by decide) ?_
        refine gc_goto 111 dX9_aGo_161 (by decide) ?_
        exact ih (l5 + 1) m_155  h
      · have h := h.2 hc
        refine gc_iconst (v := 1) dX9_aGo_143 (by decide) ?_
        refine gc_goto 148 dX9_aGo_144 (by decide) ?_
        refine gc_iadd dX9_aGo_148 ?_
        refine gc_iconst (v := 0) dX9_aGo_149 (by decide) ?_
        refine gc_bipush (v := 99) dX9_aGo_150 (by decide) ?_
        refine go_cSI (y := M_X9_within) (As := [.int (v_130 + 1), .int 0, .int 99]) (rest := [.int 1, .int l5, .ref (cx_n X + 82)]) dX9_aGo_152 lm_X9_107 ok_X9_within (by decide) (w_X9_within X (v_130 + 1) 0 99 m_137 _ h) rfl (Nat.le_of_ble_eq_true rfl) (fun v_152 m_152 h => ?_)
        refine go_cVU (y := M_X9_put) (As := [.int l5, .int 1, .int v_152]) (rest := []) dX9_aGo_155 lm_X9_114 ok_X9_put (by decide) (sz_lt (by decide)) kd_82 rfl rfl (w_X9_put X l5 1 v_152 m_152 _ h) rfl (Nat.le_of_ble_eq_true rfl) (fun m_155 h => ?_)
        refine gc_iinc (v := l5 + 1) dX9_aGo_158 rfl rfl (by decide) ?_
        refine gc_goto 111 dX9_aGo_161 (by decide) ?_
        exact ih (l5 + 1) m_155  h
def L_X9_aGo_72  (K : Mm → Prop) : Nat → Int32 → Int32 → Int32 → Int32 → Mm → Prop
  | 0, _, _, _, _, _ => False
  | n + 1, l1, l2, l3, l5, mem => W_X9_doesStand l5 mem (fun v_75 m_75 => (¬ (bZ v_75) = 0 → (W_X9_said l5 l1 l2 l3 m_75 (fun v_103 m_103 => ∃ nz : Nat, L_X9_aGo_111    K nz 0 m_103))) ∧ ((bZ v_75) = 0 → (¬ (m_75 83 1) = 0 ∧ (∀ y_92 : Int32, y_92 = (l5 + 1) - (l5 + 1) / (m_75 83 1) * (m_75 83 1) → (L_X9_aGo_72   K n l1 l2 l3 y_92 m_75)))))
set_option maxRecDepth 100000 in
set_option maxHeartbeats 4000000 in
theorem l_X9_aGo_72 (X : CX)   (K : Mm → Prop) : ∀ (n : Nat) (l1 : Int32) (l2 : Int32) (l3 : Int32) (l5 : Int32) (mem : Mm), L_X9_aGo_72    K n l1 l2 l3 l5 mem → GoC X 18 0 0 M_X9_aGo 72 [some (.ref (cx_n X + 82)), some (.int l1), some (.int l2), some (.int l3), none, some (.int l5), none] [] 0 0 (cellAt X mem) (sz mem) (qm X (fun r m => r = none ∧ K m))
  := by
  intro n
  induction n with
  | zero => intro l1 l2 l3 l5 mem h; exact h.elim
  | succ n ih =>
    intro l1 l2 l3 l5 mem h
    unfold L_X9_aGo_72 at h
    refine gc_aload_n dX9_aGo_72 rfl ?_
    refine gc_iload dX9_aGo_73 rfl ?_
    refine go_cVZ (y := M_X9_doesStand) (As := [.int l5]) (rest := []) dX9_aGo_75 lm_X9_150 ok_X9_doesStand (by decide) (sz_lt (by decide)) kd_82 rfl rfl (w_X9_doesStand X l5 mem _ h) rfl (Nat.le_of_ble_eq_true rfl) (fun v_75 m_75 h => ?_)
    refine gc_if_ne 97 dX9_aGo_78 (by decide) (fun hc => ?_) (fun hc => ?_)
    · have h := h.1 hc
      refine gc_aload_n dX9_aGo_97 rfl ?_
      refine gc_iload dX9_aGo_98 rfl ?_
      refine gc_iload_n dX9_aGo_100 rfl ?_
      refine gc_iload_n dX9_aGo_101 rfl ?_
      refine gc_iload_n dX9_aGo_102 rfl ?_
      refine go_cVI (y := M_X9_said) (As := [.int l5, .int l1, .int l2, .int l3]) (rest := []) dX9_aGo_103 lm_X9_159 ok_X9_said (by decide) (sz_lt (by decide)) kd_82 rfl rfl (w_X9_said X l5 l1 l2 l3 m_75 _ h) rfl (Nat.le_of_ble_eq_true rfl) (fun v_103 m_103 h => ?_)
      refine gc_istore dX9_aGo_106 (by decide) ?_
      refine gc_iconst (v := 0) dX9_aGo_108 (by decide) ?_
      refine gc_istore dX9_aGo_109 (by decide) ?_
      refine gc_forget 1 ?_
      refine gc_forget 2 ?_
      refine gc_forget 3 ?_
      refine gc_forget 6 ?_
      obtain ⟨n9, h⟩ := h
      exact l_X9_aGo_111 X     K   n9 0 m_103  h
    · have h := h.2 hc
      refine gc_iload dX9_aGo_81 rfl ?_
      refine gc_iconst (v := 1) dX9_aGo_83 (by decide) ?_
      refine gc_iadd dX9_aGo_84 ?_
      refine gc_aload_n dX9_aGo_85 rfl ?_
      refine go_getR dX9_aGo_86 lg_X9_9 (sz_lt (by decide)) kd_82 rfl ?_
      refine gc_iconst (v := 1) dX9_aGo_89 (by decide) ?_
      refine go_iald 1 dX9_aGo_90 kd_83 rfl (by decide) ?_
      obtain ⟨hne, h⟩ := h
      refine gc_irem dX9_aGo_91 hne ?_
      refine gc_name (fun y_92 ey_92 => ?_)
      have h := h y_92 ey_92
      refine gc_istore dX9_aGo_92 (by decide) ?_
      refine gc_goto 72 dX9_aGo_94 (by decide) ?_
      exact ih l1 l2 l3 y_92 m_75  h
def B_X9_aGo_21  (K : Mm → Prop)  (mem : Mm) : Prop := W_X9_draw  mem (fun v_22 m_22 => W_X9_draw  m_22 (fun v_30 m_30 => W_X9_draw  m_30 (fun v_38 m_38 => W_X9_draw  m_38 (fun v_47 m_47 => ((m_47 83 1) ≤ 0 → (∃ nz : Nat, L_X9_aGo_111    K nz 0 m_47)) ∧ (¬ (m_47 83 1) ≤ 0 → (¬ (m_47 83 1) = 0 ∧ (∃ nz : Nat, L_X9_aGo_72    K nz (v_22 - v_22 / 8 * 8) (v_30 - v_30 / 100 * 100) ((v_38 - v_38 / 3 * 3) - 1) (v_47 - v_47 / (m_47 83 1) * (m_47 83 1)) m_47)))))))
set_option maxRecDepth 100000 in
set_option maxHeartbeats 4000000 in
theorem b_X9_aGo_21 (X : CX)   (K : Mm → Prop)  (mem : Mm)  (h : B_X9_aGo_21    K  mem) : GoC X 18 0 0 M_X9_aGo 21 [some (.ref (cx_n X + 82)), none, none, none, none, none, none] [] 0 0 (cellAt X mem) (sz mem) (qm X (fun r m => r = none ∧ K m)) := by
  unfold B_X9_aGo_21 at h
  refine gc_aload_n dX9_aGo_21 rfl ?_
  refine go_cVI (y := M_X9_draw) (As := []) (rest := []) dX9_aGo_22 lm_X9_167 ok_X9_draw (by decide) (sz_lt (by decide)) kd_82 rfl rfl (w_X9_draw X  mem _ h) rfl (Nat.le_of_ble_eq_true rfl) (fun v_22 m_22 h => ?_)
  refine gc_bipush (v := 8) dX9_aGo_25 (by decide) ?_
  refine gc_irem dX9_aGo_27 (by decide) ?_
  refine gc_istore_n dX9_aGo_28 (by decide) ?_
  refine gc_aload_n dX9_aGo_29 rfl ?_
  refine go_cVI (y := M_X9_draw) (As := []) (rest := []) dX9_aGo_30 lm_X9_167 ok_X9_draw (by decide) (sz_lt (by decide)) kd_82 rfl rfl (w_X9_draw X  m_22 _ h) rfl (Nat.le_of_ble_eq_true rfl) (fun v_30 m_30 h => ?_)
  refine gc_bipush (v := 100) dX9_aGo_33 (by decide) ?_
  refine gc_irem dX9_aGo_35 (by decide) ?_
  refine gc_istore_n dX9_aGo_36 (by decide) ?_
  refine gc_aload_n dX9_aGo_37 rfl ?_
  refine go_cVI (y := M_X9_draw) (As := []) (rest := []) dX9_aGo_38 lm_X9_167 ok_X9_draw (by decide) (sz_lt (by decide)) kd_82 rfl rfl (w_X9_draw X  m_30 _ h) rfl (Nat.le_of_ble_eq_true rfl) (fun v_38 m_38 h => ?_)
  refine gc_iconst (v := 3) dX9_aGo_41 (by decide) ?_
  refine gc_irem dX9_aGo_42 (by decide) ?_
  refine gc_iconst (v := 1) dX9_aGo_43 (by decide) ?_
  refine gc_isub dX9_aGo_44 ?_
  refine gc_istore_n dX9_aGo_45 (by decide) ?_
  refine gc_aload_n dX9_aGo_46 rfl ?_
  refine go_cVI (y := M_X9_draw) (As := []) (rest := []) dX9_aGo_47 lm_X9_167 ok_X9_draw (by decide) (sz_lt (by decide)) kd_82 rfl rfl (w_X9_draw X  m_38 _ h) rfl (Nat.le_of_ble_eq_true rfl) (fun v_47 m_47 h => ?_)
  refine gc_istore dX9_aGo_50 (by decide) ?_
  refine gc_aload_n dX9_aGo_52 rfl ?_
  refine go_getR dX9_aGo_53 lg_X9_9 (sz_lt (by decide)) kd_82 rfl ?_
  refine gc_iconst (v := 1) dX9_aGo_56 (by decide) ?_
  refine go_iald 1 dX9_aGo_57 kd_83 rfl (by decide) ?_
  refine gc_if_le 108 dX9_aGo_58 (by decide) (fun hc => ?_) (fun hc => ?_)
  · have h := h.1 hc
    refine gc_iconst (v := 0) dX9_aGo_108 (by decide) ?_
    refine gc_istore dX9_aGo_109 (by decide) ?_
    refine gc_forget 1 ?_
    refine gc_forget 2 ?_
    refine gc_forget 3 ?_
    refine gc_forget 4 ?_
    obtain ⟨n9, h⟩ := h
    exact l_X9_aGo_111 X     K   n9 0 m_47  h
  · have h := h.2 hc
    refine gc_iload dX9_aGo_61 rfl ?_
    refine gc_aload_n dX9_aGo_63 rfl ?_
    refine go_getR dX9_aGo_64 lg_X9_9 (sz_lt (by decide)) kd_82 rfl ?_
    refine gc_iconst (v := 1) dX9_aGo_67 (by decide) ?_
    refine go_iald 1 dX9_aGo_68 kd_83 rfl (by decide) ?_
    obtain ⟨hne, h⟩ := h
    refine gc_irem dX9_aGo_69 hne ?_
    refine gc_istore dX9_aGo_70 (by decide) ?_
    refine gc_forget 4 ?_
    obtain ⟨n9, h⟩ := h
    exact l_X9_aGo_72 X     K   n9 (v_22 - v_22 / 8 * 8) (v_30 - v_30 / 100 * 100) ((v_38 - v_38 / 3 * 3) - 1) (v_47 - v_47 / (m_47 83 1) * (m_47 83 1)) m_47  h
def W_X9_aGo  (mem : Mm) (K : Mm → Prop) : Prop := ((mem 83 5) = 3 → (W_X9_setsUp  mem (fun m_18 => B_X9_aGo_21    K  m_18))) ∧ (¬ (mem 83 5) = 3 → (W_X9_standing  mem (fun v_11 m_11 => (¬ v_11 = 0 → (B_X9_aGo_21    K  m_11)) ∧ (v_11 = 0 → (W_X9_setsUp  m_11 (fun m_18 => B_X9_aGo_21    K  m_18))))))
set_option maxRecDepth 100000 in
set_option maxHeartbeats 4000000 in
theorem w_X9_aGo (X : CX)  (mem : Mm) (K : Mm → Prop) (h : W_X9_aGo  mem K) : CallsU X 18 M_X9_aGo [.ref (cx_n X + 82)] mem K := by
  unfold W_X9_aGo at h
  refine CallsC.ofP 6 (by decide) rfl (Nat.le_of_ble_eq_true rfl) ?_
  refine gc_aload_n dX9_aGo_0 rfl ?_
  refine go_getR dX9_aGo_1 lg_X9_9 (sz_lt (by decide)) kd_82 rfl ?_
  refine gc_iconst (v := 5) dX9_aGo_4 (by decide) ?_
  refine go_iald 5 dX9_aGo_5 kd_83 rfl (by decide) ?_
  refine gc_iconst (v := 3) dX9_aGo_6 (by decide) ?_
  refine gc_icmp_eq 17 dX9_aGo_7 (by decide) (fun hc => ?_) (fun hc => ?_)
  · have h := h.1 hc
    refine gc_aload_n dX9_aGo_17 rfl ?_
    refine go_cVU (y := M_X9_setsUp) (As := []) (rest := []) dX9_aGo_18 lm_X9_163 ok_X9_setsUp (by decide) (sz_lt (by decide)) kd_82 rfl rfl (w_X9_setsUp X  mem _ h) rfl (Nat.le_of_ble_eq_true rfl) (fun m_18 h => ?_)
    exact b_X9_aGo_21 X     K    m_18  h
  · have h := h.2 hc
    refine gc_aload_n dX9_aGo_10 rfl ?_
    refine go_cVI (y := M_X9_standing) (As := []) (rest := []) dX9_aGo_11 lm_X9_97 ok_X9_standing (by decide) (sz_lt (by decide)) kd_82 rfl rfl (w_X9_standing X  mem _ h) rfl (Nat.le_of_ble_eq_true rfl) (fun v_11 m_11 h => ?_)
    refine gc_if_ne 21 dX9_aGo_14 (by decide) (fun hc => ?_) (fun hc => ?_)
    · have h := h.1 hc
      exact b_X9_aGo_21 X     K    m_11  h
    · have h := h.2 hc
      refine gc_aload_n dX9_aGo_17 rfl ?_
      refine go_cVU (y := M_X9_setsUp) (As := []) (rest := []) dX9_aGo_18 lm_X9_163 ok_X9_setsUp (by decide) (sz_lt (by decide)) kd_82 rfl rfl (w_X9_setsUp X  m_11 _ h) rfl (Nat.le_of_ble_eq_true rfl) (fun m_18 h => ?_)
      exact b_X9_aGo_21 X     K    m_18  h
def L_X9_goesOn_2 (p0 : Int32) (K : Mm → Prop) : Nat → Int32 → Int32 → Mm → Prop
  | 0, _, _, _ => False
  | n + 1, l1, l2, mem => (l1 ≤ l2 → (K mem)) ∧ (¬ l1 ≤ l2 → (W_X9_aGo  mem (fun m_8 => L_X9_goesOn_2 p0  K n l1 (l2 + 1) m_8)))
set_option maxRecDepth 100000 in
set_option maxHeartbeats 4000000 in
theorem l_X9_goesOn_2 (X : CX) (p0 : Int32)  (K : Mm → Prop) : ∀ (n : Nat) (l1 : Int32) (l2 : Int32) (mem : Mm), L_X9_goesOn_2 p0   K n l1 l2 mem → GoC X 19 0 0 M_X9_goesOn 2 [some (.ref (cx_n X + 82)), some (.int l1), some (.int l2)] [] 0 0 (cellAt X mem) (sz mem) (qm X (fun r m => r = none ∧ K m))
  := by
  intro n
  induction n with
  | zero => intro l1 l2 mem h; exact h.elim
  | succ n ih =>
    intro l1 l2 mem h
    unfold L_X9_goesOn_2 at h
    refine gc_iload_n dX9_goesOn_2 rfl ?_
    refine gc_iload_n dX9_goesOn_3 rfl ?_
    refine gc_icmp_ge 17 dX9_goesOn_4 (by decide) (fun hc => ?_) (fun hc => ?_)
    · have h := h.1 hc
      exact go_vret dX9_goesOn_17 rfl (Nat.le_refl _) (Nat.le_refl _) ⟨rfl, h⟩
    · have h := h.2 hc
      refine gc_aload_n dX9_goesOn_7 rfl ?_
      refine go_cVU (y := M_X9_aGo) (As := []) (rest := []) dX9_goesOn_8 lm_X9_170 ok_X9_aGo (by decide) (sz_lt (by decide)) kd_82 rfl rfl (w_X9_aGo X  mem _ h) rfl (Nat.le_of_ble_eq_true rfl) (fun m_8 h => ?_)
      refine gc_iinc (v := l2 + 1) dX9_goesOn_11 rfl rfl (by decide) ?_
      refine gc_goto 2 dX9_goesOn_14 (by decide) ?_
      exact ih l1 (l2 + 1) m_8  h
def W_X9_goesOn (p0 : Int32) (mem : Mm) (K : Mm → Prop) : Prop := ∃ nz : Nat, L_X9_goesOn_2 p0   K nz p0 0 mem
set_option maxRecDepth 100000 in
set_option maxHeartbeats 4000000 in
theorem w_X9_goesOn (X : CX) (p0 : Int32) (mem : Mm) (K : Mm → Prop) (h : W_X9_goesOn p0 mem K) : CallsU X 19 M_X9_goesOn [.ref (cx_n X + 82), .int p0] mem K := by
  unfold W_X9_goesOn at h
  refine CallsC.ofP 1 (by decide) rfl (Nat.le_of_ble_eq_true rfl) ?_
  refine gc_iconst (v := 0) dX9_goesOn_0 (by decide) ?_
  refine gc_istore_n dX9_goesOn_1 (by decide) ?_
  obtain ⟨n9, h⟩ := h
  exact l_X9_goesOn_2 X p0    K   n9 p0 0 mem  h
def W_X9_goes (p0 : Int32) (mem : Mm) (K : Int32 → Mm → Prop) : Prop := W_X9_in p0 1 100 mem (fun v_4 m_4 => (¬ (bZ v_4) = 0 → (W_X9_within (9999 - (m_4 83 2)) 0 p0 m_4 (fun v_33 m_33 => W_X9_goesOn v_33 m_33 (fun m_36 => K ((m_36 83 3) - (m_4 83 3)) m_36)))) ∧ ((bZ v_4) = 0 → (K (-1000000001) m_4)))
set_option maxRecDepth 100000 in
set_option maxHeartbeats 4000000 in
theorem w_X9_goes (X : CX) (p0 : Int32) (mem : Mm) (K : Int32 → Mm → Prop) (h : W_X9_goes p0 mem K) : CallsI X 20 M_X9_goes [.ref (cx_n X + 82), .int p0] mem K := by
  unfold W_X9_goes at h
  refine CallsC.ofP 1 (by decide) rfl (Nat.le_of_ble_eq_true rfl) ?_
  refine gc_iload_n dX9_goes_0 rfl ?_
  refine gc_iconst (v := 1) dX9_goes_1 (by decide) ?_
  refine gc_bipush (v := 100) dX9_goes_2 (by decide) ?_
  refine go_cSZ (y := M_X9_in) (As := [.int p0, .int 1, .int 100]) (rest := []) dX9_goes_4 lm_X9_81 ok_X9_in (by decide) (w_X9_in X p0 1 100 mem _ h) rfl (Nat.le_of_ble_eq_true rfl) (fun v_4 m_4 h => ?_)
  refine gc_if_ne 13 dX9_goes_7 (by decide) (fun hc => ?_) (fun hc => ?_)
  · have h := h.1 hc
    refine gc_aload_n dX9_goes_13 rfl ?_
    refine go_getR dX9_goes_14 lg_X9_9 (sz_lt (by decide)) kd_82 rfl ?_
    refine gc_iconst (v := 3) dX9_goes_17 (by decide) ?_
    refine go_iald 3 dX9_goes_18 kd_83 rfl (by decide) ?_
    refine gc_istore_n dX9_goes_19 (by decide) ?_
    refine gc_aload_n dX9_goes_20 rfl ?_
    refine gc_sipush (v := 9999) dX9_goes_21 (by decide) ?_
    refine gc_aload_n dX9_goes_24 rfl ?_
    refine go_getR dX9_goes_25 lg_X9_9 (sz_lt (by decide)) kd_82 rfl ?_
    refine gc_iconst (v := 2) dX9_goes_28 (by decide) ?_
    refine go_iald 2 dX9_goes_29 kd_83 rfl (by decide) ?_
    refine gc_isub dX9_goes_30 ?_
    refine gc_iconst (v := 0) dX9_goes_31 (by decide) ?_
    refine gc_iload_n dX9_goes_32 rfl ?_
    refine go_cSI (y := M_X9_within) (As := [.int (9999 - (m_4 83 2)), .int 0, .int p0]) (rest := [.ref (cx_n X + 82)]) dX9_goes_33 lm_X9_107 ok_X9_within (by decide) (w_X9_within X (9999 - (m_4 83 2)) 0 p0 m_4 _ h) rfl (Nat.le_of_ble_eq_true rfl) (fun v_33 m_33 h => ?_)
    refine go_cVU (y := M_X9_goesOn) (As := [.int v_33]) (rest := []) dX9_goes_36 lm_X9_173 ok_X9_goesOn (by decide) (sz_lt (by decide)) kd_82 rfl rfl (w_X9_goesOn X v_33 m_33 _ h) rfl (Nat.le_of_ble_eq_true rfl) (fun m_36 h => ?_)
    refine gc_aload_n dX9_goes_39 rfl ?_
    refine go_getR dX9_goes_40 lg_X9_9 (sz_lt (by decide)) kd_82 rfl ?_
    refine gc_iconst (v := 3) dX9_goes_43 (by decide) ?_
    refine go_iald 3 dX9_goes_44 kd_83 rfl (by decide) ?_
    refine gc_iload_n dX9_goes_45 rfl ?_
    refine gc_isub dX9_goes_46 ?_
    exact go_iret dX9_goes_47 rfl (Nat.le_refl _) (Nat.le_refl _) ⟨_, rfl, h⟩
  · have h := h.2 hc
    refine gc_ldc (v := (-1000000001)) dX9_goes_10 lk_X9_121 ?_
    exact go_iret dX9_goes_12 rfl (Nat.le_refl _) (Nat.le_refl _) ⟨_, rfl, h⟩
def L_X9_nerves_4  (K : Int32 → Mm → Prop) : Nat → Int32 → Int32 → Mm → Prop
  | 0, _, _, _ => False
  | n + 1, l1, l2, mem => ((mem 83 1) ≤ l2 → (K l1 mem)) ∧ (¬ (mem 83 1) ≤ l2 → (W_X9_of l2 1 mem (fun v_18 m_18 => L_X9_nerves_4   K n (l1 + v_18) (l2 + 1) m_18)))
set_option maxRecDepth 100000 in
set_option maxHeartbeats 4000000 in
theorem l_X9_nerves_4 (X : CX)   (K : Int32 → Mm → Prop) : ∀ (n : Nat) (l1 : Int32) (l2 : Int32) (mem : Mm), L_X9_nerves_4    K n l1 l2 mem → GoC X 1 0 0 M_X9_nerves 4 [some (.ref (cx_n X + 82)), some (.int l1), some (.int l2)] [] 0 0 (cellAt X mem) (sz mem) (qm X (fun r m => ∃ v : Int32, r = some (.int v) ∧ K v m))
  := by
  intro n
  induction n with
  | zero => intro l1 l2 mem h; exact h.elim
  | succ n ih =>
    intro l1 l2 mem h
    unfold L_X9_nerves_4 at h
    refine gc_iload_n dX9_nerves_4 rfl ?_
    refine gc_aload_n dX9_nerves_5 rfl ?_
    refine go_getR dX9_nerves_6 lg_X9_9 (sz_lt (by decide)) kd_82 rfl ?_
    refine gc_iconst (v := 1) dX9_nerves_9 (by decide) ?_
    refine go_iald 1 dX9_nerves_10 kd_83 rfl (by decide) ?_
    refine gc_icmp_ge 29 dX9_nerves_11 (by decide) (fun hc => ?_) (fun hc => ?_)
    · have h := h.1 hc
      refine gc_iload_n dX9_nerves_29 rfl ?_
      exact go_iret dX9_nerves_30 rfl (Nat.le_refl _) (Nat.le_refl _) ⟨_, rfl, h⟩
    · have h := h.2 hc
      refine gc_iload_n dX9_nerves_14 rfl ?_
      refine gc_aload_n dX9_nerves_15 rfl ?_
      refine gc_iload_n dX9_nerves_16 rfl ?_
      refine gc_iconst (v := 1) dX9_nerves_17 (by decide) ?_
      refine go_cVI (y := M_X9_of) (As := [.int l2, .int 1]) (rest := [.int l1]) dX9_nerves_18 lm_X9_89 ok_X9_of (by decide) (sz_lt (by decide)) kd_82 rfl rfl (w_X9_of X l2 1 mem _ h) rfl (Nat.le_of_ble_eq_true rfl) (fun v_18 m_18 h => ?_)
      refine gc_iadd dX9_nerves_21 ?_
      refine gc_istore_n dX9_nerves_22 (by decide) ?_
      refine gc_iinc (v := l2 + 1) dX9_nerves_23 rfl rfl (by decide) ?_
      refine gc_goto 4 dX9_nerves_26 (by decide) ?_
      exact ih (l1 + v_18) (l2 + 1) m_18  h
def W_X9_nerves  (mem : Mm) (K : Int32 → Mm → Prop) : Prop := ∃ nz : Nat, L_X9_nerves_4    K nz 0 0 mem
set_option maxRecDepth 100000 in
set_option maxHeartbeats 4000000 in
theorem w_X9_nerves (X : CX)  (mem : Mm) (K : Int32 → Mm → Prop) (h : W_X9_nerves  mem K) : CallsI X 1 M_X9_nerves [.ref (cx_n X + 82)] mem K := by
  unfold W_X9_nerves at h
  refine CallsC.ofP 2 (by decide) rfl (Nat.le_of_ble_eq_true rfl) ?_
  refine gc_iconst (v := 0) dX9_nerves_0 (by decide) ?_
  refine gc_istore_n dX9_nerves_1 (by decide) ?_
  refine gc_iconst (v := 0) dX9_nerves_2 (by decide) ?_
  refine gc_istore_n dX9_nerves_3 (by decide) ?_
  obtain ⟨n9, h⟩ := h
  exact l_X9_nerves_4 X     K   n9 0 0 mem  h
def L_X9_mostFelled_4  (K : Int32 → Mm → Prop) : Nat → Int32 → Int32 → Mm → Prop
  | 0, _, _, _ => False
  | n + 1, l1, l2, mem => ((mem 83 1) ≤ l2 → (K l1 mem)) ∧ (¬ (mem 83 1) ≤ l2 → ((l1 < 0 → (L_X9_mostFelled_4   K n l2 (l2 + 1) mem)) ∧ (¬ l1 < 0 → (W_X9_of l2 4 mem (fun v_21 m_21 => W_X9_of l1 4 m_21 (fun v_27 m_27 => (v_21 ≤ v_27 → (L_X9_mostFelled_4   K n l1 (l2 + 1) m_27)) ∧ (¬ v_21 ≤ v_27 → (L_X9_mostFelled_4   K n l2 (l2 + 1) m_27))))))))
set_option maxRecDepth 100000 in
set_option maxHeartbeats 4000000 in
theorem l_X9_mostFelled_4 (X : CX)   (K : Int32 → Mm → Prop) : ∀ (n : Nat) (l1 : Int32) (l2 : Int32) (mem : Mm), L_X9_mostFelled_4    K n l1 l2 mem → GoC X 1 0 0 M_X9_mostFelled 4 [some (.ref (cx_n X + 82)), some (.int l1), some (.int l2)] [] 0 0 (cellAt X mem) (sz mem) (qm X (fun r m => ∃ v : Int32, r = some (.int v) ∧ K v m))
  := by
  intro n
  induction n with
  | zero => intro l1 l2 mem h; exact h.elim
  | succ n ih =>
    intro l1 l2 mem h
    unfold L_X9_mostFelled_4 at h
    refine gc_iload_n dX9_mostFelled_4 rfl ?_
    refine gc_aload_n dX9_mostFelled_5 rfl ?_
    refine go_getR dX9_mostFelled_6 lg_X9_9 (sz_lt (by decide)) kd_82 rfl ?_
    refine gc_iconst (v := 1) dX9_mostFelled_9 (by decide) ?_
    refine go_iald 1 dX9_mostFelled_10 kd_83 rfl (by decide) ?_
    refine gc_icmp_ge 45 dX9_mostFelled_11 (by decide) (fun hc => ?_) (fun hc => ?_)
    · have h := h.1 hc
      refine gc_iload_n dX9_mostFelled_45 rfl ?_
      exact go_iret dX9_mostFelled_46 rfl (Nat.le_refl _) (Nat.le_refl _) ⟨_, rfl, h⟩
    · have h := h.2 hc
      refine gc_iload_n dX9_mostFelled_14 rfl ?_
      refine gc_if_lt 33 dX9_mostFelled_15 (by decide) (fun hc => ?_) (fun hc => ?_)
      · have h := h.1 hc
        refine gc_iload_n dX9_mostFelled_33 rfl ?_
        refine gc_goto 38 dX9_mostFelled_34 (by decide) ?_
        refine gc_istore_n dX9_mostFelled_38 (by decide) ?_
        refine gc_iinc (v := l2 + 1) dX9_mostFelled_39 rfl rfl (by decide) ?_
        refine gc_goto 4 dX9_mostFelled_42 (by decide) ?_
        exact ih l2 (l2 + 1) mem  h
      · have h := h.2 hc
        refine gc_aload_n dX9_mostFelled_18 rfl ?_
        refine gc_iload_n dX9_mostFelled_19 rfl ?_
        refine gc_iconst (v := 4) dX9_mostFelled_20 (by decide) ?_
        refine go_cVI (y := M_X9_of) (As := [.int l2, .int 4]) (rest := []) dX9_mostFelled_21 lm_X9_89 ok_X9_of (by decide) (sz_lt (by decide)) kd_82 rfl rfl (w_X9_of X l2 4 mem _ h) rfl (Nat.le_of_ble_eq_true rfl) (fun v_21 m_21 h => ?_)
        refine gc_aload_n dX9_mostFelled_24 rfl ?_
        refine gc_iload_n dX9_mostFelled_25 rfl ?_
        refine gc_iconst (v := 4) dX9_mostFelled_26 (by decide) ?_
        refine go_cVI (y := M_X9_of) (As := [.int l1, .int 4]) (rest := [.int v_21]) dX9_mostFelled_27 lm_X9_89 ok_X9_of (by decide) (sz_lt (by decide)) kd_82 rfl rfl (w_X9_of X l1 4 m_21 _ h) rfl (Nat.le_of_ble_eq_true rfl) (fun v_27 m_27 h => ?_)
        refine gc_icmp_le 37 dX9_mostFelled_30 (by decide) (fun hc => ?_) (fun hc => ?_)
        · have h := h.1 hc
          refine gc_iload_n dX9_mostFelled_37 rfl ?_
          refine gc_istore_n dX9_mostFelled_38 (by decide) ?_
          refine gc_iinc (v := l2 + 1) dX9_mostFelled_39 rfl rfl (by decide) ?_
          refine gc_goto 4 dX9_mostFelled_42 (by decide) ?_
          exact ih l1 (l2 + 1) m_27  h
        · have h := h.2 hc
          refine gc_iload_n dX9_mostFelled_33 rfl ?_
          refine gc_goto 38 dX9_mostFelled_34 (by decide) ?_
          refine gc_istore_n dX9_mostFelled_38 (by decide) ?_
          refine gc_iinc (v := l2 + 1) dX9_mostFelled_39 rfl rfl (by decide) ?_
          refine gc_goto 4 dX9_mostFelled_42 (by decide) ?_
          exact ih l2 (l2 + 1) m_27  h
def W_X9_mostFelled  (mem : Mm) (K : Int32 → Mm → Prop) : Prop := ∃ nz : Nat, L_X9_mostFelled_4    K nz (-1) 0 mem
set_option maxRecDepth 100000 in
set_option maxHeartbeats 4000000 in
theorem w_X9_mostFelled (X : CX)  (mem : Mm) (K : Int32 → Mm → Prop) (h : W_X9_mostFelled  mem K) : CallsI X 1 M_X9_mostFelled [.ref (cx_n X + 82)] mem K := by
  unfold W_X9_mostFelled at h
  refine CallsC.ofP 2 (by decide) rfl (Nat.le_of_ble_eq_true rfl) ?_
  refine gc_iconst (v := (-1)) dX9_mostFelled_0 (by decide) ?_
  refine gc_istore_n dX9_mostFelled_1 (by decide) ?_
  refine gc_iconst (v := 0) dX9_mostFelled_2 (by decide) ?_
  refine gc_istore_n dX9_mostFelled_3 (by decide) ?_
  obtain ⟨n9, h⟩ := h
  exact l_X9_mostFelled_4 X     K   n9 (-1) 0 mem  h
def W_X9_alley (p0 : Int32) (mem : Mm) (K : Int32 → Mm → Prop) : Prop := (p0 = 0 → (∃ i_47 : Nat, (3 + p0) = nI i_47 ∧ i_47 < 1433 ∧ (K (mem 83 i_47) mem))) ∧ (¬ p0 = 0 → ((p0 = 1 → (∃ i_47 : Nat, (3 + p0) = nI i_47 ∧ i_47 < 1433 ∧ (K (mem 83 i_47) mem))) ∧ (¬ p0 = 1 → ((p0 = 2 → (∃ i_47 : Nat, (3 + p0) = nI i_47 ∧ i_47 < 1433 ∧ (K (mem 83 i_47) mem))) ∧ (¬ p0 = 2 → ((p0 = 3 → (W_X9_standing  mem (fun v_50 m_50 => K v_50 m_50))) ∧ (¬ p0 = 3 → ((p0 = 4 → (W_X9_nerves  mem (fun v_55 m_55 => K v_55 m_55))) ∧ (¬ p0 = 4 → ((p0 = 5 → ((¬ (mem 83 1) = 0 → (W_X9_mostFelled  mem (fun v_74 m_74 => K v_74 m_74))) ∧ ((mem 83 1) = 0 → (K (-1000000005) mem)))) ∧ (¬ p0 = 5 → (K (-1000000001) mem))))))))))))
set_option maxRecDepth 100000 in
set_option maxHeartbeats 4000000 in
theorem w_X9_alley (X : CX) (p0 : Int32) (mem : Mm) (K : Int32 → Mm → Prop) (h : W_X9_alley p0 mem K) : CallsI X 2 M_X9_alley [.ref (cx_n X + 82), .int p0] mem K := by
  unfold W_X9_alley at h
  refine CallsC.ofP 0 (by decide) rfl (Nat.le_of_ble_eq_true rfl) ?_
  refine gc_iload_n dX9_alley_0 rfl ?_
  by_cases hn0 : p0 = 0
  · have h := h.1 hn0
    refine gc_tabIn (off := 39) 40 dX9_alley_1 (by rw [hn0]; decide) (by rw [hn0]; decide) (by rw [hn0]; rfl) (by decide) ?_
    refine gc_aload_n dX9_alley_40 rfl ?_
    refine go_getR dX9_alley_41 lg_X9_9 (sz_lt (by decide)) kd_82 rfl ?_
    refine gc_iconst (v := 3) dX9_alley_44 (by decide) ?_
    refine gc_iload_n dX9_alley_45 rfl ?_
    refine gc_iadd dX9_alley_46 ?_
    obtain ⟨i_47, hx_47, hi_47, h⟩ := h
    refine go_iald i_47 dX9_alley_47 kd_83 hx_47 hi_47 ?_
    exact go_iret dX9_alley_48 rfl (Nat.le_refl _) (Nat.le_refl _) ⟨_, rfl, h⟩
  · have h := h.2 hn0
    have hq0 := tab_ne hn0 (a := 0) (by decide)
    by_cases hn1 : p0 = 1
    · have h := h.1 hn1
      refine gc_tabIn (off := 39) 40 dX9_alley_1 (by rw [hn1]; decide) (by rw [hn1]; decide) (by rw [hn1]; rfl) (by decide) ?_
      refine gc_aload_n dX9_alley_40 rfl ?_
      refine go_getR dX9_alley_41 lg_X9_9 (sz_lt (by decide)) kd_82 rfl ?_
      refine gc_iconst (v := 3) dX9_alley_44 (by decide) ?_
      refine gc_iload_n dX9_alley_45 rfl ?_
      refine gc_iadd dX9_alley_46 ?_
      obtain ⟨i_47, hx_47, hi_47, h⟩ := h
      refine go_iald i_47 dX9_alley_47 kd_83 hx_47 hi_47 ?_
      exact go_iret dX9_alley_48 rfl (Nat.le_refl _) (Nat.le_refl _) ⟨_, rfl, h⟩
    · have h := h.2 hn1
      have hq1 := tab_ne hn1 (a := 1) (by decide)
      by_cases hn2 : p0 = 2
      · have h := h.1 hn2
        refine gc_tabIn (off := 39) 40 dX9_alley_1 (by rw [hn2]; decide) (by rw [hn2]; decide) (by rw [hn2]; rfl) (by decide) ?_
        refine gc_aload_n dX9_alley_40 rfl ?_
        refine go_getR dX9_alley_41 lg_X9_9 (sz_lt (by decide)) kd_82 rfl ?_
        refine gc_iconst (v := 3) dX9_alley_44 (by decide) ?_
        refine gc_iload_n dX9_alley_45 rfl ?_
        refine gc_iadd dX9_alley_46 ?_
        obtain ⟨i_47, hx_47, hi_47, h⟩ := h
        refine go_iald i_47 dX9_alley_47 kd_83 hx_47 hi_47 ?_
        exact go_iret dX9_alley_48 rfl (Nat.le_refl _) (Nat.le_refl _) ⟨_, rfl, h⟩
      · have h := h.2 hn2
        have hq2 := tab_ne hn2 (a := 2) (by decide)
        by_cases hn3 : p0 = 3
        · have h := h.1 hn3
          refine gc_tabIn (off := 48) 49 dX9_alley_1 (by rw [hn3]; decide) (by rw [hn3]; decide) (by rw [hn3]; rfl) (by decide) ?_
          refine gc_aload_n dX9_alley_49 rfl ?_
          refine go_cVI (y := M_X9_standing) (As := []) (rest := []) dX9_alley_50 lm_X9_97 ok_X9_standing (by decide) (sz_lt (by decide)) kd_82 rfl rfl (w_X9_standing X  mem _ h) rfl (Nat.le_of_ble_eq_true rfl) (fun v_50 m_50 h => ?_)
          exact go_iret dX9_alley_53 rfl (Nat.le_refl _) (Nat.le_refl _) ⟨_, rfl, h⟩
        · have h := h.2 hn3
          have hq3 := tab_ne hn3 (a := 3) (by decide)
          by_cases hn4 : p0 = 4
          · have h := h.1 hn4
            refine gc_tabIn (off := 53) 54 dX9_alley_1 (by rw [hn4]; decide) (by rw [hn4]; decide) (by rw [hn4]; rfl) (by decide) ?_
            refine gc_aload_n dX9_alley_54 rfl ?_
            refine go_cVI (y := M_X9_nerves) (As := []) (rest := []) dX9_alley_55 lm_X9_177 ok_X9_nerves (by decide) (sz_lt (by decide)) kd_82 rfl rfl (w_X9_nerves X  mem _ h) rfl (Nat.le_of_ble_eq_true rfl) (fun v_55 m_55 h => ?_)
            exact go_iret dX9_alley_58 rfl (Nat.le_refl _) (Nat.le_refl _) ⟨_, rfl, h⟩
          · have h := h.2 hn4
            have hq4 := tab_ne hn4 (a := 4) (by decide)
            by_cases hn5 : p0 = 5
            · have h := h.1 hn5
              refine gc_tabIn (off := 58) 59 dX9_alley_1 (by rw [hn5]; decide) (by rw [hn5]; decide) (by rw [hn5]; rfl) (by decide) ?_
              refine gc_aload_n dX9_alley_59 rfl ?_
              refine go_getR dX9_alley_60 lg_X9_9 (sz_lt (by decide)) kd_82 rfl ?_
              refine gc_iconst (v := 1) dX9_alley_63 (by decide) ?_
              refine go_iald 1 dX9_alley_64 kd_83 rfl (by decide) ?_
              refine gc_if_ne 73 dX9_alley_65 (by decide) (fun hc => ?_) (fun hc => ?_)
              · have h := h.1 hc
                refine gc_aload_n dX9_alley_73 rfl ?_
                refine go_cVI (y := M_X9_mostFelled) (As := []) (rest := []) dX9_alley_74 lm_X9_181 ok_X9_mostFelled (by decide) (sz_lt (by decide)) kd_82 rfl rfl (w_X9_mostFelled X  mem _ h) rfl (Nat.le_of_ble_eq_true rfl) (fun v_74 m_74 h => ?_)
                exact go_iret dX9_alley_77 rfl (Nat.le_refl _) (Nat.le_refl _) ⟨_, rfl, h⟩
              · have h := h.2 hc
                refine gc_ldc (v := (-1000000005)) dX9_alley_68 lk_X9_180 ?_
                refine gc_goto 77 dX9_alley_70 (by decide) ?_
                exact go_iret dX9_alley_77 rfl (Nat.le_refl _) (Nat.le_refl _) ⟨_, rfl, h⟩
            · have h := h.2 hn5
              have hq5 := tab_ne hn5 (a := 5) (by decide)
              refine gc_tabOut 78 dX9_alley_1 (by have q := tab_out (x := p0) (lo := 0) (hi := 5) (fun j h1 h2 => by rcases (show j = 0 ∨ j = 1 ∨ j = 2 ∨ j = 3 ∨ j = 4 ∨ j = 5 by omega) with rfl | rfl | rfl | rfl | rfl | rfl <;> assumption); exact q) (by decide) ?_
              refine gc_ldc (v := (-1000000001)) dX9_alley_78 lk_X9_121 ?_
              exact go_iret dX9_alley_80 rfl (Nat.le_refl _) (Nat.le_refl _) ⟨_, rfl, h⟩
def L_X9_copyAll_2 (a1 : Nat) (n1 : Nat) (a2 : Nat) (n2 : Nat) (K : Mm → Prop) : Nat → Int32 → Mm → Prop
  | 0, _, _ => False
  | n + 1, l2, mem => (1433 ≤ l2 → (K mem)) ∧ (¬ 1433 ≤ l2 → (∃ i_13 : Nat, l2 = nI i_13 ∧ i_13 < n1 ∧ (∃ i_14 : Nat, l2 = nI i_14 ∧ i_14 < n2 ∧ (∀ m_14 : Mm, m_14 = mu mem a2 i_14 (mem a1 i_13) → (L_X9_copyAll_2 a1 n1 a2 n2  K n (l2 + 1) m_14)))))
set_option maxRecDepth 100000 in
set_option maxHeartbeats 4000000 in
theorem l_X9_copyAll_2 (X : CX) (a1 : Nat) (n1 : Nat) (a2 : Nat) (n2 : Nat) (ha1 : kd a1 = (1, 0, n1) ∧ a1 ≠ 0) (ha2 : kd a2 = (1, 0, n2) ∧ a2 ≠ 0) (K : Mm → Prop) : ∀ (n : Nat) (l2 : Int32) (mem : Mm), L_X9_copyAll_2 a1 n1 a2 n2   K n l2 mem → GoC X 0 0 0 M_X9_copyAll 2 [some (.ref (cx_n X + a1)), some (.ref (cx_n X + a2)), some (.int l2)] [] 0 0 (cellAt X mem) (sz mem) (qm X (fun r m => r = none ∧ K m))
  := by
  intro n
  induction n with
  | zero => intro l2 mem h; exact h.elim
  | succ n ih =>
    intro l2 mem h
    unfold L_X9_copyAll_2 at h
    refine gc_iload_n dX9_copyAll_2 rfl ?_
    refine gc_sipush (v := 1433) dX9_copyAll_3 (by decide) ?_
    refine gc_icmp_ge 21 dX9_copyAll_6 (by decide) (fun hc => ?_) (fun hc => ?_)
    · have h := h.1 hc
      exact go_vret dX9_copyAll_21 rfl (Nat.le_refl _) (Nat.le_refl _) ⟨rfl, h⟩
    · have h := h.2 hc
      refine gc_aload_n dX9_copyAll_9 rfl ?_
      refine gc_iload_n dX9_copyAll_10 rfl ?_
      refine gc_aload_n dX9_copyAll_11 rfl ?_
      refine gc_iload_n dX9_copyAll_12 rfl ?_
      obtain ⟨i_13, hx_13, hi_13, h⟩ := h
      refine go_iald i_13 dX9_copyAll_13 ha1.1 hx_13 hi_13 ?_
      obtain ⟨i_14, hx_14, hi_14, h⟩ := h
      refine go_iast_ i_14 dX9_copyAll_14 ha2.1 hx_14 hi_14 ha2.2 (fun m_14 em_14 => ?_)
      have h := h m_14 em_14
      refine gc_iinc (v := l2 + 1) dX9_copyAll_15 rfl rfl (by decide) ?_
      refine gc_goto 2 dX9_copyAll_18 (by decide) ?_
      exact ih (l2 + 1) m_14  h
def W_X9_copyAll (a1 : Nat) (n1 : Nat) (a2 : Nat) (n2 : Nat) (mem : Mm) (K : Mm → Prop) : Prop := ∃ nz : Nat, L_X9_copyAll_2 a1 n1 a2 n2   K nz 0 mem
set_option maxRecDepth 100000 in
set_option maxHeartbeats 4000000 in
theorem w_X9_copyAll (X : CX) (a1 : Nat) (n1 : Nat) (ha1 : kd a1 = (1, 0, n1) ∧ a1 ≠ 0) (a2 : Nat) (n2 : Nat) (ha2 : kd a2 = (1, 0, n2) ∧ a2 ≠ 0) (mem : Mm) (K : Mm → Prop) (h : W_X9_copyAll a1 n1 a2 n2 mem K) : CallsU X 0 M_X9_copyAll [.ref (cx_n X + a1), .ref (cx_n X + a2)] mem K := by
  unfold W_X9_copyAll at h
  refine CallsC.ofP 1 (by decide) rfl (Nat.le_of_ble_eq_true rfl) ?_
  refine gc_iconst (v := 0) dX9_copyAll_0 (by decide) ?_
  refine gc_istore_n dX9_copyAll_1 (by decide) ?_
  obtain ⟨n9, h⟩ := h
  exact l_X9_copyAll_2 X a1 n1 a2 n2 ha1 ha2   K   n9 0 mem  h
def W_X9_thinks  (mem : Mm) (K : Mm → Prop) : Prop := W_X9_copyAll 83 1433 85 1433 mem (fun m_8 => K m_8)
set_option maxRecDepth 100000 in
set_option maxHeartbeats 4000000 in
theorem w_X9_thinks (X : CX)  (mem : Mm) (K : Mm → Prop) (h : W_X9_thinks  mem K) : CallsU X 1 M_X9_thinks [.ref (cx_n X + 82)] mem K := by
  unfold W_X9_thinks at h
  refine CallsC.ofP 0 (by decide) rfl (Nat.le_of_ble_eq_true rfl) ?_
  refine gc_aload_n dX9_thinks_0 rfl ?_
  refine go_getR dX9_thinks_1 lg_X9_9 (sz_lt (by decide)) kd_82 rfl ?_
  refine gc_aload_n dX9_thinks_4 rfl ?_
  refine go_getR dX9_thinks_5 lg_X9_16 (sz_lt (by decide)) kd_82 rfl ?_
  refine go_cSU (y := M_X9_copyAll) (As := [.ref (cx_n X + 83), .ref (cx_n X + 85)]) (rest := []) dX9_thinks_8 lm_X9_184 ok_X9_copyAll (by decide) (w_X9_copyAll X 83 1433 ⟨kd_83, by decide⟩ 85 1433 ⟨kd_85, by decide⟩ mem _ h) rfl (Nat.le_of_ble_eq_true rfl) (fun m_8 h => ?_)
  exact go_vret dX9_thinks_11 rfl (Nat.le_refl _) (Nat.le_refl _) ⟨rfl, h⟩
def L_X9_letsStand_2 (p0 : Int32) (K : Mm → Prop) : Nat → Int32 → Int32 → Mm → Prop
  | 0, _, _, _ => False
  | n + 1, l1, l2, mem => ((mem 83 1) ≤ l2 → (K mem)) ∧ (¬ (mem 83 1) ≤ l2 → (W_X9_put l2 5 (((l1 >>> (l2 &&& 31)) &&& 1) ^^^ 1) mem (fun m_33 => ∃ i_47 : Nat, ((7 + (6 * l2)) + 4) = nI i_47 ∧ i_47 < 1433 ∧ (∃ i_56 : Nat, ((7 + (6 * l2)) + 5) = nI i_56 ∧ i_56 < 1433 ∧ ((¬ (m_33 85 i_56) = 0 → (W_X9_within ((m_33 85 i_47) + 0) 0 9999 m_33 (fun v_70 m_70 => W_X9_put l2 4 v_70 m_70 (fun m_73 => L_X9_letsStand_2 p0  K n l1 (l2 + 1) m_73)))) ∧ ((m_33 85 i_56) = 0 → (W_X9_within ((m_33 85 i_47) + (((l1 >>> (l2 &&& 31)) &&& 1) ^^^ 1)) 0 9999 m_33 (fun v_70 m_70 => W_X9_put l2 4 v_70 m_70 (fun m_73 => L_X9_letsStand_2 p0  K n l1 (l2 + 1) m_73)))))))))
set_option maxRecDepth 100000 in
set_option maxHeartbeats 4000000 in
theorem l_X9_letsStand_2 (X : CX) (p0 : Int32)  (K : Mm → Prop) : ∀ (n : Nat) (l1 : Int32) (l2 : Int32) (mem : Mm), L_X9_letsStand_2 p0   K n l1 l2 mem → GoC X 1 0 0 M_X9_letsStand 2 [some (.ref (cx_n X + 82)), some (.int l1), some (.int l2), none, none] [] 0 0 (cellAt X mem) (sz mem) (qm X (fun r m => r = none ∧ K m))
  := by
  intro n
  induction n with
  | zero => intro l1 l2 mem h; exact h.elim
  | succ n ih =>
    intro l1 l2 mem h
    unfold L_X9_letsStand_2 at h
    refine gc_iload_n dX9_letsStand_2 rfl ?_
    refine gc_aload_n dX9_letsStand_3 rfl ?_
    refine go_getR dX9_letsStand_4 lg_X9_9 (sz_lt (by decide)) kd_82 rfl ?_
    refine gc_iconst (v := 1) dX9_letsStand_7 (by decide) ?_
    refine go_iald 1 dX9_letsStand_8 kd_83 rfl (by decide) ?_
    refine gc_icmp_ge 82 dX9_letsStand_9 (by decide) (fun hc => ?_) (fun hc => ?_)
    · have h := h.1 hc
      exact go_vret dX9_letsStand_82 rfl (Nat.le_refl _) (Nat.le_refl _) ⟨rfl, h⟩
    · have h := h.2 hc
      refine gc_iload_n dX9_letsStand_12 rfl ?_
      refine gc_iload_n dX9_letsStand_13 rfl ?_
      refine gc_ishr dX9_letsStand_14 ?_
      refine gc_iconst (v := 1) dX9_letsStand_15 (by decide) ?_
      refine gc_iand dX9_letsStand_16 ?_
      refine gc_iconst (v := 1) dX9_letsStand_17 (by decide) ?_
      refine gc_ixor dX9_letsStand_18 ?_
      refine gc_istore_n dX9_letsStand_19 (by decide) ?_
      refine gc_bipush (v := 7) dX9_letsStand_20 (by decide) ?_
      refine gc_bipush (v := 6) dX9_letsStand_22 (by decide) ?_
      refine gc_iload_n dX9_letsStand_24 rfl ?_
      refine gc_imul dX9_letsStand_25 ?_
      refine gc_iadd dX9_letsStand_26 ?_
      refine gc_istore dX9_letsStand_27 (by decide) ?_
      refine gc_aload_n dX9_letsStand_29 rfl ?_
      refine gc_iload_n dX9_letsStand_30 rfl ?_
      refine gc_iconst (v := 5) dX9_letsStand_31 (by decide) ?_
      refine gc_iload_n dX9_letsStand_32 rfl ?_
      refine go_cVU (y := M_X9_put) (As := [.int l2, .int 5, .int (((l1 >>> (l2 &&& 31)) &&& 1) ^^^ 1)]) (rest := []) dX9_letsStand_33 lm_X9_114 ok_X9_put (by decide) (sz_lt (by decide)) kd_82 rfl rfl (w_X9_put X l2 5 (((l1 >>> (l2 &&& 31)) &&& 1) ^^^ 1) mem _ h) rfl (Nat.le_of_ble_eq_true rfl) (fun m_33 h => ?_)
      refine gc_aload_n dX9_letsStand_36 rfl ?_
      refine gc_iload_n dX9_letsStand_37 rfl ?_
      refine gc_iconst (v := 4) dX9_letsStand_38 (by decide) ?_
      refine gc_aload_n dX9_letsStand_39 rfl ?_
      refine go_getR dX9_letsStand_40 lg_X9_16 (sz_lt (by decide)) kd_82 rfl ?_
      refine gc_iload dX9_letsStand_43 rfl ?_
      refine gc_iconst (v := 4) dX9_letsStand_45 (by decide) ?_
      refine gc_iadd dX9_letsStand_46 ?_
      obtain ⟨i_47, hx_47, hi_47, h⟩ := h
      refine go_iald i_47 dX9_letsStand_47 kd_85 hx_47 hi_47 ?_
      refine gc_aload_n dX9_letsStand_48 rfl ?_
      refine go_getR dX9_letsStand_49 lg_X9_16 (sz_lt (by decide)) kd_82 rfl ?_
      refine gc_iload dX9_letsStand_52 rfl ?_
      refine gc_iconst (v := 5) dX9_letsStand_54 (by decide) ?_
      refine gc_iadd dX9_letsStand_55 ?_
      obtain ⟨i_56, hx_56, hi_56, h⟩ := h
      refine go_iald i_56 dX9_letsStand_56 kd_85 hx_56 hi_56 ?_
      refine gc_if_ne 64 dX9_letsStand_57 (by decide) (fun hc => ?_) (fun hc => ?_)
      · have h := h.1 hc
        refine gc_iconst (v := 0) dX9_letsStand_64 (by decide) ?_
        refine gc_iadd dX9_letsStand_65 ?_
        refine gc_iconst (v := 0) dX9_letsStand_66 (by decide) ?_
        refine gc_sipush (v := 9999) dX9_letsStand_67 (by decide) ?_
        refine go_cSI (y := M_X9_within) (As := [.int ((m_33 85 i_47) + 0), .int 0, .int 9999]) (rest := [.int 4, .int l2, .ref (cx_n X + 82)]) dX9_letsStand_70 lm_X9_107 ok_X9_within (by decide) (w_X9_within X ((m_33 85 i_47) + 0) 0 9999 m_33 _ h) rfl (Nat.le_of_ble_eq_true rfl) (fun v_70 m_70 h => ?_)
        refine go_cVU (y := M_X9_put) (As := [.int l2, .int 4, .int v_70]) (rest := []) dX9_letsStand_73 lm_X9_114 ok_X9_put (by decide) (sz_lt (by decide)) kd_82 rfl rfl (w_X9_put X l2 4 v_70 m_70 _ h) rfl (Nat.le_of_ble_eq_true rfl) (fun m_73 h => ?_)
        refine gc_iinc (v := l2 + 1) dX9_letsStand_76 rfl rfl (by decide) ?_
        refine gc_goto 2 dX9_letsStand_79 (by decide) ?_
        refine gc_forget 3 ?_
        refine gc_forget 4 ?_
        exact ih l1 (l2 + 1) m_73  h
      · have h := h.2 hc
        refine gc_iload_n dX9_letsStand_60 rfl ?_
        refine gc_goto 65 dX9_letsStand_61 (by decide) ?_
        refine gc_iadd dX9_letsStand_65 ?_
        refine gc_iconst (v := 0) dX9_letsStand_66 (by decide) ?_
        refine gc_sipush (v := 9999) dX9_letsStand_67 (by decide) ?_
        refine go_cSI (y := M_X9_within) (As := [.int ((m_33 85 i_47) + (((l1 >>> (l2 &&& 31)) &&& 1) ^^^ 1)), .int 0, .int 9999]) (rest := [.int 4, .int l2, .ref (cx_n X + 82)]) dX9_letsStand_70 lm_X9_107 ok_X9_within (by decide) (w_X9_within X ((m_33 85 i_47) + (((l1 >>> (l2 &&& 31)) &&& 1) ^^^ 1)) 0 9999 m_33 _ h) rfl (Nat.le_of_ble_eq_true rfl) (fun v_70 m_70 h => ?_)
        refine go_cVU (y := M_X9_put) (As := [.int l2, .int 4, .int v_70]) (rest := []) dX9_letsStand_73 lm_X9_114 ok_X9_put (by decide) (sz_lt (by decide)) kd_82 rfl rfl (w_X9_put X l2 4 v_70 m_70 _ h) rfl (Nat.le_of_ble_eq_true rfl) (fun m_73 h => ?_)
        refine gc_iinc (v := l2 + 1) dX9_letsStand_76 rfl rfl (by decide) ?_
        refine gc_goto 2 dX9_letsStand_79 (by decide) ?_
        refine gc_forget 3 ?_
        refine gc_forget 4 ?_
        exact ih l1 (l2 + 1) m_73  h
def W_X9_letsStand (p0 : Int32) (mem : Mm) (K : Mm → Prop) : Prop := ∃ nz : Nat, L_X9_letsStand_2 p0   K nz p0 0 mem
set_option maxRecDepth 100000 in
set_option maxHeartbeats 4000000 in
theorem w_X9_letsStand (X : CX) (p0 : Int32) (mem : Mm) (K : Mm → Prop) (h : W_X9_letsStand p0 mem K) : CallsU X 1 M_X9_letsStand [.ref (cx_n X + 82), .int p0] mem K := by
  unfold W_X9_letsStand at h
  refine CallsC.ofP 3 (by decide) rfl (Nat.le_of_ble_eq_true rfl) ?_
  refine gc_iconst (v := 0) dX9_letsStand_0 (by decide) ?_
  refine gc_istore_n dX9_letsStand_1 (by decide) ?_
  obtain ⟨n9, h⟩ := h
  exact l_X9_letsStand_2 X p0    K   n9 p0 0 mem  h
def W_X9_fellBy (p0 : Int32) (p1 : Int32) (p2 : Int32) (mem : Mm) (K : Int32 → Mm → Prop) : Prop := ∀ m_8 : Mm, m_8 = mu mem 82 4 p0 → ((¬ ((p0 >>> ((p1 / 24) &&& 31)) &&& 1) = 0 → (W_X9_letsStand p0 m_8 (fun m_24 => W_X9_said (p1 / 24) ((p1 / 3) - (p1 / 3) / 8 * 8) p2 ((p1 - p1 / 3 * 3) - 1) m_24 (fun v_42 m_42 => W_X9_standing  m_42 (fun v_49 m_49 => ∀ m_52 : Mm, m_52 = mu m_49 82 4 v_49 → (K v_42 m_52)))))) ∧ (((p0 >>> ((p1 / 24) &&& 31)) &&& 1) = 0 → (K 0 m_8)))
set_option maxRecDepth 100000 in
set_option maxHeartbeats 4000000 in
theorem w_X9_fellBy (X : CX) (p0 : Int32) (p1 : Int32) (p2 : Int32) (mem : Mm) (K : Int32 → Mm → Prop) (h : W_X9_fellBy p0 p1 p2 mem K) : CallsI X 18 M_X9_fellBy [.ref (cx_n X + 82), .int p0, .int p1, .int p2] mem K := by
  unfold W_X9_fellBy at h
  refine CallsC.ofP 2 (by decide) rfl (Nat.le_of_ble_eq_true rfl) ?_
  refine gc_iload_n dX9_fellBy_0 rfl ?_
  refine gc_bipush (v := 24) dX9_fellBy_1 (by decide) ?_
  refine gc_idiv dX9_fellBy_3 (by decide) ?_
  refine gc_istore dX9_fellBy_4 (by decide) ?_
  refine gc_aload_n dX9_fellBy_6 rfl ?_
  refine gc_iload_n dX9_fellBy_7 rfl ?_
  refine go_putI_ dX9_fellBy_8 lp_X9_188 (sz_lt (by decide)) kd_82 rfl (fun m_8 em_8 => ?_)
  have h := h m_8 em_8
  refine gc_iload_n dX9_fellBy_11 rfl ?_
  refine gc_iload dX9_fellBy_12 rfl ?_
  refine gc_ishr dX9_fellBy_14 ?_
  refine gc_iconst (v := 1) dX9_fellBy_15 (by decide) ?_
  refine gc_iand dX9_fellBy_16 ?_
  refine gc_if_ne 22 dX9_fellBy_17 (by decide) (fun hc => ?_) (fun hc => ?_)
  · have h := h.1 hc
    refine gc_aload_n dX9_fellBy_22 rfl ?_
    refine gc_iload_n dX9_fellBy_23 rfl ?_
    refine go_cVU (y := M_X9_letsStand) (As := [.int p0]) (rest := []) dX9_fellBy_24 lm_X9_192 ok_X9_letsStand (by decide) (sz_lt (by decide)) kd_82 rfl rfl (w_X9_letsStand X p0 m_8 _ h) rfl (Nat.le_of_ble_eq_true rfl) (fun m_24 h => ?_)
    refine gc_aload_n dX9_fellBy_27 rfl ?_
    refine gc_iload dX9_fellBy_28 rfl ?_
    refine gc_iload_n dX9_fellBy_30 rfl ?_
    refine gc_iconst (v := 3) dX9_fellBy_31 (by decide) ?_
    refine gc_idiv dX9_fellBy_32 (by decide) ?_
    refine gc_bipush (v := 8) dX9_fellBy_33 (by decide) ?_
    refine gc_irem dX9_fellBy_35 (by decide) ?_
    refine gc_iload_n dX9_fellBy_36 rfl ?_
    refine gc_iload_n dX9_fellBy_37 rfl ?_
    refine gc_iconst (v := 3) dX9_fellBy_38 (by decide) ?_
    refine gc_irem dX9_fellBy_39 (by decide) ?_
    refine gc_iconst (v := 1) dX9_fellBy_40 (by decide) ?_
    refine gc_isub dX9_fellBy_41 ?_
    refine go_cVI (y := M_X9_said) (As := [.int (p1 / 24), .int ((p1 / 3) - (p1 / 3) / 8 * 8), .int p2, .int ((p1 - p1 / 3 * 3) - 1)]) (rest := []) dX9_fellBy_42 lm_X9_159 ok_X9_said (by decide) (sz_lt (by decide)) kd_82 rfl rfl (w_X9_said X (p1 / 24) ((p1 / 3) - (p1 / 3) / 8 * 8) p2 ((p1 - p1 / 3 * 3) - 1) m_24 _ h) rfl (Nat.le_of_ble_eq_true rfl) (fun v_42 m_42 h => ?_)
    refine gc_istore dX9_fellBy_45 (by decide) ?_
    refine gc_aload_n dX9_fellBy_47 rfl ?_
    refine gc_aload_n dX9_fellBy_48 rfl ?_
    refine go_cVI (y := M_X9_standing) (As := []) (rest := [.ref (cx_n X + 82)]) dX9_fellBy_49 lm_X9_97 ok_X9_standing (by decide) (sz_lt (by decide)) kd_82 rfl rfl (w_X9_standing X  m_42 _ h) rfl (Nat.le_of_ble_eq_true rfl) (fun v_49 m_49 h => ?_)
    refine go_putI_ dX9_fellBy_52 lp_X9_188 (sz_lt (by decide)) kd_82 rfl (fun m_52 em_52 => ?_)
    have h := h m_52 em_52
    refine gc_iload dX9_fellBy_55 rfl ?_
    exact go_iret dX9_fellBy_57 rfl (Nat.le_refl _) (Nat.le_refl _) ⟨_, rfl, h⟩
  · have h := h.2 hc
    refine gc_iconst (v := 0) dX9_fellBy_20 (by decide) ?_
    exact go_iret dX9_fellBy_21 rfl (Nat.le_refl _) (Nat.le_refl _) ⟨_, rfl, h⟩
def W_X9_putsBack  (mem : Mm) (K : Mm → Prop) : Prop := W_X9_copyAll 85 1433 83 1433 mem (fun m_8 => K m_8)
set_option maxRecDepth 100000 in
set_option maxHeartbeats 4000000 in
theorem w_X9_putsBack (X : CX)  (mem : Mm) (K : Mm → Prop) (h : W_X9_putsBack  mem K) : CallsU X 1 M_X9_putsBack [.ref (cx_n X + 82)] mem K := by
  unfold W_X9_putsBack at h
  refine CallsC.ofP 0 (by decide) rfl (Nat.le_of_ble_eq_true rfl) ?_
  refine gc_aload_n dX9_putsBack_0 rfl ?_
  refine go_getR dX9_putsBack_1 lg_X9_16 (sz_lt (by decide)) kd_82 rfl ?_
  refine gc_aload_n dX9_putsBack_4 rfl ?_
  refine go_getR dX9_putsBack_5 lg_X9_9 (sz_lt (by decide)) kd_82 rfl ?_
  refine go_cSU (y := M_X9_copyAll) (As := [.ref (cx_n X + 85), .ref (cx_n X + 83)]) (rest := []) dX9_putsBack_8 lm_X9_184 ok_X9_copyAll (by decide) (w_X9_copyAll X 85 1433 ⟨kd_85, by decide⟩ 83 1433 ⟨kd_83, by decide⟩ mem _ h) rfl (Nat.le_of_ble_eq_true rfl) (fun m_8 h => ?_)
  exact go_vret dX9_putsBack_11 rfl (Nat.le_refl _) (Nat.le_refl _) ⟨rfl, h⟩
def B_X9_best_96 (p0 : Int32) (p1 : Int32) (kb47 : Int32 → Int32 → Int32 → Int32 → Int32 → Int32 → Mm → Prop) (K : Int32 → Mm → Prop) (l1 : Int32) (l2 : Int32) (l3 : Int32) (l4 : Int32) (l5 : Int32) (l6 : Int32) (l7 : Int32) (s0 : Int32) (mem : Mm) : Prop := (s0 = 0 → ((s0 = 0 → (kb47 l1 l2 l3 l4 l5 (l6 + 1) mem)) ∧ (¬ s0 = 0 → (kb47 l1 l2 l3 l4 l7 (l6 + 1) mem)))) ∧ (¬ s0 = 0 → ((s0 = 0 → (kb47 l1 l2 l3 l6 l5 (l6 + 1) mem)) ∧ (¬ s0 = 0 → (kb47 l1 l2 l3 l6 l7 (l6 + 1) mem))))
set_option maxRecDepth 100000 in
set_option maxHeartbeats 4000000 in
theorem b_X9_best_96 (X : CX) (p0 : Int32) (p1 : Int32)  (kb47 : Int32 → Int32 → Int32 → Int32 → Int32 → Int32 → Mm → Prop) (K : Int32 → Mm → Prop) (hkb47 : ∀ (l1 : Int32) (l2 : Int32) (l3 : Int32) (l4 : Int32) (l5 : Int32) (l6 : Int32) (mem : Mm), kb47 l1 l2 l3 l4 l5 l6 mem → GoC X 19 0 0 M_X9_best 47 [some (.ref (cx_n X + 82)), some (.int l1), some (.int l2), some (.int l3), some (.int l4), some (.int l5), some (.int l6), none, none] [] 0 0 (cellAt X mem) (sz mem) (qm X (fun r m => ∃ v : Int32, r = some (.int v) ∧ K v m))) (l1 : Int32) (l2 : Int32) (l3 : Int32) (l4 : Int32) (l5 : Int32) (l6 : Int32) (l7 : Int32) (s0 : Int32) (mem : Mm)  (h : B_X9_best_96 p0 p1  kb47 K l1 l2 l3 l4 l5 l6 l7 s0 mem) : GoC X 19 0 0 M_X9_best 96 [some (.ref (cx_n X + 82)), some (.int l1), some (.int l2), some (.int l3), some (.int l4), some (.int l5), some (.int l6), some (.int l7), none] [.int s0] 0 0 (cellAt X mem) (sz mem) (qm X (fun r m => ∃ v : Int32, r = some (.int v) ∧ K v m)) := by
  unfold B_X9_best_96 at h
  refine gc_istore dX9_best_96 (by decide) ?_
  refine gc_iload dX9_best_98 rfl ?_
  refine gc_if_eq 108 dX9_best_100 (by decide) (fun hc => ?_) (fun hc => ?_)
  · have h := h.1 hc
    refine gc_iload dX9_best_108 rfl ?_
    refine gc_istore dX9_best_110 (by decide) ?_
    refine gc_iload dX9_best_112 rfl ?_
    refine gc_if_eq 122 dX9_best_114 (by decide) (fun hc => ?_) (fun hc => ?_)
    · have h := h.1 hc
      refine gc_iload dX9_best_122 rfl ?_
      refine gc_istore dX9_best_124 (by decide) ?_
      refine gc_iinc (v := l6 + 1) dX9_best_126 rfl rfl (by decide) ?_
      refine gc_goto 47 dX9_best_129 (by decide) ?_
      refine gc_forget 7 ?_
      refine gc_forget 8 ?_
      exact hkb47 l1 l2 l3 l4 l5 (l6 + 1) mem  h
    · have h := h.2 hc
      refine gc_iload dX9_best_117 rfl ?_
      refine gc_goto 124 dX9_best_119 (by decide) ?_
      refine gc_istore dX9_best_124 (by decide) ?_
      refine gc_iinc (v := l6 + 1) dX9_best_126 rfl rfl (by decide) ?_
      refine gc_goto 47 dX9_best_129 (by decide) ?_
      refine gc_forget 7 ?_
      refine gc_forget 8 ?_
      exact hkb47 l1 l2 l3 l4 l7 (l6 + 1) mem  h
  · have h := h.2 hc
    refine gc_iload dX9_best_103 rfl ?_
    refine gc_goto 110 dX9_best_105 (by decide) ?_
    refine gc_istore dX9_best_110 (by decide) ?_
    refine gc_iload dX9_best_112 rfl ?_
    refine gc_if_eq 122 dX9_best_114 (by decide) (fun hc => ?_) (fun hc => ?_)
    · have h := h.1 hc
      refine gc_iload dX9_best_122 rfl ?_
      refine gc_istore dX9_best_124 (by decide) ?_
      refine gc_iinc (v := l6 + 1) dX9_best_126 rfl rfl (by decide) ?_
      refine gc_goto 47 dX9_best_129 (by decide) ?_
      refine gc_forget 7 ?_
      refine gc_forget 8 ?_
      exact hkb47 l1 l2 l3 l6 l5 (l6 + 1) mem  h
    · have h := h.2 hc
      refine gc_iload dX9_best_117 rfl ?_
      refine gc_goto 124 dX9_best_119 (by decide) ?_
      refine gc_istore dX9_best_124 (by decide) ?_
      refine gc_iinc (v := l6 + 1) dX9_best_126 rfl rfl (by decide) ?_
      refine gc_goto 47 dX9_best_129 (by decide) ?_
      refine gc_forget 7 ?_
      refine gc_forget 8 ?_
      exact hkb47 l1 l2 l3 l6 l7 (l6 + 1) mem  h
def L_X9_best_47 (p0 : Int32) (p1 : Int32) (K : Int32 → Mm → Prop) : Nat → Int32 → Int32 → Int32 → Int32 → Int32 → Int32 → Mm → Prop
  | 0, _, _, _, _, _, _, _ => False
  | n + 1, l1, l2, l3, l4, l5, l6, mem => ((24 * (mem 83 1)) ≤ l6 → (W_X9_putsBack  mem (fun m_133 => (¬ l2 = 0 → ((¬ l2 = 1 → ((¬ l2 = 2 → (K (l4 - l4 / 3 * 3) m_133)) ∧ (l2 = 2 → (K ((l4 / 3) - (l4 / 3) / 8 * 8) m_133)))) ∧ (l2 = 1 → (K (l4 / 24) m_133)))) ∧ (l2 = 0 → (K l5 m_133))))) ∧ (¬ (24 * (mem 83 1)) ≤ l6 → (W_X9_fellBy l3 l6 l1 mem (fun v_66 m_66 => (¬ ((l3 >>> ((l6 / 24) &&& 31)) &&& 1) = 1 → (B_X9_best_96 p0 p1  (fun zl1 zl2 zl3 zl4 zl5 zl6 zm => L_X9_best_47 p0 p1  K n zl1 zl2 zl3 zl4 zl5 zl6 zm) K l1 l2 l3 l4 l5 l6 v_66 0 m_66)) ∧ (((l3 >>> ((l6 / 24) &&& 31)) &&& 1) = 1 → ((v_66 ≤ l5 → (B_X9_best_96 p0 p1  (fun zl1 zl2 zl3 zl4 zl5 zl6 zm => L_X9_best_47 p0 p1  K n zl1 zl2 zl3 zl4 zl5 zl6 zm) K l1 l2 l3 l4 l5 l6 v_66 0 m_66)) ∧ (¬ v_66 ≤ l5 → (B_X9_best_96 p0 p1  (fun zl1 zl2 zl3 zl4 zl5 zl6 zm => L_X9_best_47 p0 p1  K n zl1 zl2 zl3 zl4 zl5 zl6 zm) K l1 l2 l3 l4 l5 l6 v_66 1 m_66)))))))
set_option maxRecDepth 100000 in
set_option maxHeartbeats 4000000 in
theorem l_X9_best_47 (X : CX) (p0 : Int32) (p1 : Int32)  (K : Int32 → Mm → Prop) : ∀ (n : Nat) (l1 : Int32) (l2 : Int32) (l3 : Int32) (l4 : Int32) (l5 : Int32) (l6 : Int32) (mem : Mm), L_X9_best_47 p0 p1   K n l1 l2 l3 l4 l5 l6 mem → GoC X 19 0 0 M_X9_best 47 [some (.ref (cx_n X + 82)), some (.int l1), some (.int l2), some (.int l3), some (.int l4), some (.int l5), some (.int l6), none, none] [] 0 0 (cellAt X mem) (sz mem) (qm X (fun r m => ∃ v : Int32, r = some (.int v) ∧ K v m))
  := by
  intro n
  induction n with
  | zero => intro l1 l2 l3 l4 l5 l6 mem h; exact h.elim
  | succ n ih =>
    intro l1 l2 l3 l4 l5 l6 mem h
    unfold L_X9_best_47 at h
    refine gc_iload dX9_best_47 rfl ?_
    refine gc_bipush (v := 24) dX9_best_49 (by decide) ?_
    refine gc_aload_n dX9_best_51 rfl ?_
    refine go_getR dX9_best_52 lg_X9_9 (sz_lt (by decide)) kd_82 rfl ?_
    refine gc_iconst (v := 1) dX9_best_55 (by decide) ?_
    refine go_iald 1 dX9_best_56 kd_83 rfl (by decide) ?_
    refine gc_imul dX9_best_57 ?_
    refine gc_icmp_ge 132 dX9_best_58 (by decide) (fun hc => ?_) (fun hc => ?_)
    · have h := h.1 hc
      refine gc_aload_n dX9_best_132 rfl ?_
      refine go_cVU (y := M_X9_putsBack) (As := []) (rest := []) dX9_best_133 lm_X9_201 ok_X9_putsBack (by decide) (sz_lt (by decide)) kd_82 rfl rfl (w_X9_putsBack X  mem _ h) rfl (Nat.le_of_ble_eq_true rfl) (fun m_133 h => ?_)
      refine gc_iload_n dX9_best_136 rfl ?_
      refine gc_if_ne 145 dX9_best_137 (by decide) (fun hc => ?_) (fun hc => ?_)
      · have h := h.1 hc
        refine gc_iload_n dX9_best_145 rfl ?_
        refine gc_iconst (v := 1) dX9_best_146 (by decide) ?_
        refine gc_icmp_ne 158 dX9_best_147 (by decide) (fun hc => ?_) (fun hc => ?_)
        · have h := h.1 hc
          refine gc_iload_n dX9_best_158 rfl ?_
          refine gc_iconst (v := 2) dX9_best_159 (by decide) ?_
          refine gc_icmp_ne 173 dX9_best_160 (by decide) (fun hc => ?_) (fun hc => ?_)
          · have h := h.1 hc
            refine gc_iload dX9_best_173 rfl ?_
            refine gc_iconst (v := 3) dX9_best_175 (by decide) ?_
            refine gc_irem dX9_best_176 (by decide) ?_
            exact go_iret dX9_best_177 rfl (Nat.le_refl _) (Nat.le_refl _) ⟨_, rfl, h⟩
          · have h := h.2 hc
            refine gc_iload dX9_best_163 rfl ?_
            refine gc_iconst (v := 3) dX9_best_165 (by decide) ?_
            refine gc_idiv dX9_best_166 (by decide) ?_
            refine gc_bipush (v := 8) dX9_best_167 (by decide) ?_
            refine gc_irem dX9_best_169 (by decide) ?_
            refine gc_goto 177 dX9_best_170 (by decide) ?_
            exact go_iret dX9_best_177 rfl (Nat.le_refl _) (Nat.le_refl _) ⟨_, rfl, h⟩
        · have h := h.2 hc
          refine gc_iload dX9_best_150 rfl ?_
          refine gc_bipush (v := 24) dX9_best_152 (by decide) ?_
          refine gc_idiv dX9_best_154 (by decide) ?_
          refine gc_goto 177 dX9_best_155 (by decide) ?_
          exact go_iret dX9_best_177 rfl (Nat.le_refl _) (Nat.le_refl _) ⟨_, rfl, h⟩
      · have h := h.2 hc
        refine gc_iload dX9_best_140 rfl ?_
        refine gc_goto 177 dX9_best_142 (by decide) ?_
        exact go_iret dX9_best_177 rfl (Nat.le_refl _) (Nat.le_refl _) ⟨_, rfl, h⟩
    · have h := h.2 hc
      refine gc_aload_n dX9_best_61 rfl ?_
      refine gc_iload_n dX9_best_62 rfl ?_
      refine gc_iload dX9_best_63 rfl ?_
      refine gc_iload_n dX9_best_65 rfl ?_
      refine go_cVI (y := M_X9_fellBy) (As := [.int l3, .int l6, .int l1]) (rest := []) dX9_best_66 lm_X9_198 ok_X9_fellBy (by decide) (sz_lt (by decide)) kd_82 rfl rfl (w_X9_fellBy X l3 l6 l1 mem _ h) rfl (Nat.le_of_ble_eq_true rfl) (fun v_66 m_66 h => ?_)
      refine gc_istore dX9_best_69 (by decide) ?_
      refine gc_iload_n dX9_best_71 rfl ?_
      refine gc_iload dX9_best_72 rfl ?_
      refine gc_bipush (v := 24) dX9_best_74 (by decide) ?_
      refine gc_idiv dX9_best_76 (by decide) ?_
      refine gc_ishr dX9_best_77 ?_
      refine gc_iconst (v := 1) dX9_best_78 (by decide) ?_
      refine gc_iand dX9_best_79 ?_
      refine gc_iconst (v := 1) dX9_best_80 (by decide) ?_
      refine gc_icmp_ne 95 dX9_best_81 (by decide) (fun hc => ?_) (fun hc => ?_)
      · have h := h.1 hc
        refine gc_iconst (v := 0) dX9_best_95 (by decide) ?_
        exact b_X9_best_96 X p0 p1   (fun zl1 zl2 zl3 zl4 zl5 zl6 zm => L_X9_best_47 p0 p1  K n zl1 zl2 zl3 zl4 zl5 zl6 zm) K  ih l1 l2 l3 l4 l5 l6 v_66 0 m_66  h
      · have h := h.2 hc
        refine gc_iload dX9_best_84 rfl ?_
        refine gc_iload dX9_best_86 rfl ?_
        refine gc_icmp_le 95 dX9_best_88 (by decide) (fun hc => ?_) (fun hc => ?_)
        · have h := h.1 hc
          refine gc_iconst (v := 0) dX9_best_95 (by decide) ?_
          exact b_X9_best_96 X p0 p1   (fun zl1 zl2 zl3 zl4 zl5 zl6 zm => L_X9_best_47 p0 p1  K n zl1 zl2 zl3 zl4 zl5 zl6 zm) K  ih l1 l2 l3 l4 l5 l6 v_66 0 m_66  h
        · have h := h.2 hc
          refine gc_iconst (v := 1) dX9_best_91 (by decide) ?_
          refine gc_goto 96 dX9_best_92 (by decide) ?_
          exact b_X9_best_96 X p0 p1   (fun zl1 zl2 zl3 zl4 zl5 zl6 zm => L_X9_best_47 p0 p1  K n zl1 zl2 zl3 zl4 zl5 zl6 zm) K  ih l1 l2 l3 l4 l5 l6 v_66 1 m_66  h
def W_X9_best (p0 : Int32) (p1 : Int32) (mem : Mm) (K : Int32 → Mm → Prop) : Prop := W_X9_in p0 0 99 mem (fun v_4 m_4 => ((bZ v_4) = 0 → (K (-1000000001) m_4)) ∧ (¬ (bZ v_4) = 0 → (W_X9_in p1 0 3 m_4 (fun v_13 m_13 => (¬ (bZ v_13) = 0 → (W_X9_standing  m_13 (fun v_23 m_23 => (¬ v_23 = 0 → (W_X9_thinks  m_23 (fun m_35 => ∃ nz : Nat, L_X9_best_47 p0 p1   K nz p0 p1 v_23 (-1) (-1) 0 m_35))) ∧ (v_23 = 0 → (K (-1000000005) m_23))))) ∧ ((bZ v_13) = 0 → (K (-1000000001) m_13))))))
set_option maxRecDepth 100000 in
set_option maxHeartbeats 4000000 in
theorem w_X9_best (X : CX) (p0 : Int32) (p1 : Int32) (mem : Mm) (K : Int32 → Mm → Prop) (h : W_X9_best p0 p1 mem K) : CallsI X 19 M_X9_best [.ref (cx_n X + 82), .int p0, .int p1] mem K := by
  unfold W_X9_best at h
  refine CallsC.ofP 6 (by decide) rfl (Nat.le_of_ble_eq_true rfl) ?_
  refine gc_iload_n dX9_best_0 rfl ?_
  refine gc_iconst (v := 0) dX9_best_1 (by decide) ?_
  refine gc_bipush (v := 99) dX9_best_2 (by decide) ?_
  refine go_cSZ (y := M_X9_in) (As := [.int p0, .int 0, .int 99]) (rest := []) dX9_best_4 lm_X9_81 ok_X9_in (by decide) (w_X9_in X p0 0 99 mem _ h) rfl (Nat.le_of_ble_eq_true rfl) (fun v_4 m_4 h => ?_)
  refine gc_if_eq 19 dX9_best_7 (by decide) (fun hc => ?_) (fun hc => ?_)
  · have h := h.1 hc
    refine gc_ldc (v := (-1000000001)) dX9_best_19 lk_X9_121 ?_
    exact go_iret dX9_best_21 rfl (Nat.le_refl _) (Nat.le_refl _) ⟨_, rfl, h⟩
  · have h := h.2 hc
    refine gc_iload_n dX9_best_10 rfl ?_
    refine gc_iconst (v := 0) dX9_best_11 (by decide) ?_
    refine gc_iconst (v := 3) dX9_best_12 (by decide) ?_
    refine go_cSZ (y := M_X9_in) (As := [.int p1, .int 0, .int 3]) (rest := []) dX9_best_13 lm_X9_81 ok_X9_in (by decide) (w_X9_in X p1 0 3 m_4 _ h) rfl (Nat.le_of_ble_eq_true rfl) (fun v_13 m_13 h => ?_)
    refine gc_if_ne 22 dX9_best_16 (by decide) (fun hc => ?_) (fun hc => ?_)
    · have h := h.1 hc
      refine gc_aload_n dX9_best_22 rfl ?_
      refine go_cVI (y := M_X9_standing) (As := []) (rest := []) dX9_best_23 lm_X9_97 ok_X9_standing (by decide) (sz_lt (by decide)) kd_82 rfl rfl (w_X9_standing X  m_13 _ h) rfl (Nat.le_of_ble_eq_true rfl) (fun v_23 m_23 h => ?_)
      refine gc_istore_n dX9_best_26 (by decide) ?_
      refine gc_iload_n dX9_best_27 rfl ?_
      refine gc_if_ne 34 dX9_best_28 (by decide) (fun hc => ?_) (fun hc => ?_)
      · have h := h.1 hc
        refine gc_aload_n dX9_best_34 rfl ?_
        refine go_cVU (y := M_X9_thinks) (As := []) (rest := []) dX9_best_35 lm_X9_195 ok_X9_thinks (by decide) (sz_lt (by decide)) kd_82 rfl rfl (w_X9_thinks X  m_23 _ h) rfl (Nat.le_of_ble_eq_true rfl) (fun m_35 h => ?_)
        refine gc_iconst (v := (-1)) dX9_best_38 (by decide) ?_
        refine gc_istore dX9_best_39 (by decide) ?_
        refine gc_iconst (v := (-1)) dX9_best_41 (by decide) ?_
        refine gc_istore dX9_best_42 (by decide) ?_
        refine gc_iconst (v := 0) dX9_best_44 (by decide) ?_
        refine gc_istore dX9_best_45 (by decide) ?_
        obtain ⟨n9, h⟩ := h
        exact l_X9_best_47 X p0 p1    K   n9 p0 p1 v_23 (-1) (-1) 0 m_35  h
      · have h := h.2 hc
        refine gc_ldc (v := (-1000000005)) dX9_best_31 lk_X9_180 ?_
        exact go_iret dX9_best_33 rfl (Nat.le_refl _) (Nat.le_refl _) ⟨_, rfl, h⟩
    · have h := h.2 hc
      refine gc_ldc (v := (-1000000001)) dX9_best_19 lk_X9_121 ?_
      exact go_iret dX9_best_21 rfl (Nat.le_refl _) (Nat.le_refl _) ⟨_, rfl, h⟩
