def W_X9_off (p0 : Int32) (mem : Mm) (K : Int32 → Mm → Prop) : Prop := (0 ≤ p0 → (K p0 mem)) ∧ (¬ 0 ≤ p0 → (K (-p0) mem))
set_option maxRecDepth 100000 in
set_option maxHeartbeats 4000000 in
theorem w_X9_off (X : CX) (p0 : Int32) (mem : Mm) (K : Int32 → Mm → Prop) (h : W_X9_off p0 mem K) : CallsI X 0 M_X9_off [.int p0] mem K := by
  unfold W_X9_off at h
  refine CallsC.ofP 0 (by decide) rfl (Nat.le_of_ble_eq_true rfl) ?_
  refine gc_iload_n dX9_off_0 rfl ?_
  refine gc_if_ge 9 dX9_off_1 (by decide) (fun hc => ?_) (fun hc => ?_)
  · have h := h.1 hc
    refine gc_iload_n dX9_off_9 rfl ?_
    exact go_iret dX9_off_10 rfl (Nat.le_refl _) (Nat.le_refl _) ⟨_, rfl, h⟩
  · have h := h.2 hc
    refine gc_iload_n dX9_off_4 rfl ?_
    refine gc_ineg dX9_off_5 ?_
    refine gc_goto 10 dX9_off_6 (by decide) ?_
    exact go_iret dX9_off_10 rfl (Nat.le_refl _) (Nat.le_refl _) ⟨_, rfl, h⟩
def L_X9_like_96 (p0 : Int32) (p1 : Int32) (kb68 : Int32 → Int32 → Int32 → Int32 → Mm → Prop) (K : Int32 → Mm → Prop) : Nat → Int32 → Int32 → Int32 → Int32 → Int32 → Int32 → Mm → Prop
  | 0, _, _, _, _, _, _, _ => False
  | n + 1, l1, l2, l3, l4, l5, l6, mem => (l3 ≤ l6 → (W_X9_aGo  mem (fun m_139 => kb68 l1 l2 l3 (l4 + 1) m_139))) ∧ (¬ l3 ≤ l6 → ((l5 = (-1000000005) → (W_X9_aGo  mem (fun m_139 => kb68 l1 l2 l3 (l4 + 1) m_139))) ∧ (¬ l5 = (-1000000005) → (∃ i_116 : Nat, l6 = nI i_116 ∧ i_116 < 9 ∧ (W_X9_of l6 1 mem (fun v_123 m_123 => W_X9_off (l5 - v_123) m_123 (fun v_127 m_127 => ∃ i_131 : Nat, l6 = nI i_131 ∧ i_131 < 9 ∧ (∀ m_131 : Mm, m_131 = mu m_127 88 i_131 ((mem 88 i_116) + v_127) → (L_X9_like_96 p0 p1 kb68 K n l1 l2 l3 l4 l5 (l6 + 1) m_131)))))))))
set_option maxRecDepth 100000 in
set_option maxHeartbeats 4000000 in
theorem l_X9_like_96 (X : CX) (p0 : Int32) (p1 : Int32)  (kb68 : Int32 → Int32 → Int32 → Int32 → Mm → Prop) (K : Int32 → Mm → Prop) (hkb68 : ∀ (l1 : Int32) (l2 : Int32) (l3 : Int32) (l4 : Int32) (mem : Mm), kb68 l1 l2 l3 l4 mem → GoC X 19 0 0 M_X9_like 68 [some (.ref (cx_n X + 82)), some (.int l1), some (.int l2), some (.int l3), some (.int l4), none, none] [] 0 0 (cellAt X mem) (sz mem) (qm X (fun r m => ∃ v : Int32, r = some (.int v) ∧ K v m))) : ∀ (n : Nat) (l1 : Int32) (l2 : Int32) (l3 : Int32) (l4 : Int32) (l5 : Int32) (l6 : Int32) (mem : Mm), L_X9_like_96 p0 p1  kb68 K n l1 l2 l3 l4 l5 l6 mem → GoC X 19 0 0 M_X9_like 96 [some (.ref (cx_n X + 82)), some (.int l1), some (.int l2), some (.int l3), some (.int l4), some (.int l5), some (.int l6)] [] 0 0 (cellAt X mem) (sz mem) (qm X (fun r m => ∃ v : Int32, r = some (.int v) ∧ K v m))
  := by
  intro n
  induction n with
  | zero => intro l1 l2 l3 l4 l5 l6 mem h; exact h.elim
  | succ n ih =>
    intro l1 l2 l3 l4 l5 l6 mem h
    unfold L_X9_like_96 at h
    refine gc_iload dX9_like_96 rfl ?_
    refine gc_iload_n dX9_like_98 rfl ?_
    refine gc_icmp_ge 138 dX9_like_99 (by decide) (fun hc => ?_) (fun hc => ?_)
    · have h := h.1 hc
      refine gc_aload_n dX9_like_138 rfl ?_
      refine go_cVU (y := M_X9_aGo) (As := []) (rest := []) dX9_like_139 lm_X9_170 ok_X9_aGo (by decide) (sz_lt (by decide)) kd_82 rfl rfl (w_X9_aGo X  mem _ h) rfl (Nat.le_of_ble_eq_true rfl) (fun m_139 h => ?_)
      refine gc_iinc (v := l4 + 1) dX9_like_142 rfl rfl (by decide) ?_
      refine gc_goto 68 dX9_like_145 (by decide) ?_
      refine gc_forget 5 ?_
      refine gc_forget 6 ?_
      exact hkb68 l1 l2 l3 (l4 + 1) m_139  h
    · have h := h.2 hc
      refine gc_iload dX9_like_102 rfl ?_
      refine gc_ldc (v := (-1000000005)) dX9_like_104 lk_X9_180 ?_
      refine gc_icmp_eq 138 dX9_like_106 (by decide) (fun hc => ?_) (fun hc => ?_)
      · have h := h.1 hc
        refine gc_aload_n dX9_like_138 rfl ?_
        refine go_cVU (y := M_X9_aGo) (As := []) (rest := []) dX9_like_139 lm_X9_170 ok_X9_aGo (by decide) (sz_lt (by decide)) kd_82 rfl rfl (w_X9_aGo X  mem _ h) rfl (Nat.le_of_ble_eq_true rfl) (fun m_139 h => ?_)
        refine gc_iinc (v := l4 + 1) dX9_like_142 rfl rfl (by decide) ?_
        refine gc_goto 68 dX9_like_145 (by decide) ?_
        refine gc_forget 5 ?_
        refine gc_forget 6 ?_
        exact hkb68 l1 l2 l3 (l4 + 1) m_139  h
      · have h := h.2 hc
        refine gc_aload_n dX9_like_109 rfl ?_
        refine go_getR dX9_like_110 lg_X9_25 (sz_lt (by decide)) kd_82 rfl ?_
        refine gc_iload dX9_like_113 rfl ?_
        refine gc_dup2 dX9_like_115 rfl rfl ?_
        obtain ⟨i_116, hx_116, hi_116, h⟩ := h
        refine go_iald i_116 dX9_like_116 kd_88 hx_116 hi_116 ?_
        refine gc_iload dX9_like_117 rfl ?_
        refine gc_aload_n dX9_like_119 rfl ?_
        refine gc_iload dX9_like_120 rfl ?_
        refine gc_iconst (v := 1) dX9_like_122 (by decide) ?_
        refine go_cVI (y := M_X9_of) (As := [.int l6, .int 1]) (rest := [.int l5, .int (mem 88 i_116), .int l6, .ref (cx_n X + 88)]) dX9_like_123 lm_X9_89 ok_X9_of (by decide) (sz_lt (by decide)) kd_82 rfl rfl (w_X9_of X l6 1 mem _ h) rfl (Nat.le_of_ble_eq_true rfl) (fun v_123 m_123 h => ?_)
        refine gc_isub dX9_like_126 ?_
        refine go_cSI (y := M_X9_off) (As := [.int (l5 - v_123)]) (rest := [.int (mem 88 i_116), .int l6, .ref (cx_n X + 88)]) dX9_like_127 lm_X9_215 ok_X9_off (by decide) (w_X9_off X (l5 - v_123) m_123 _ h) rfl (Nat.le_of_ble_eq_true rfl) (fun v_127 m_127 h => ?_)
        refine gc_iadd dX9_like_130 ?_
        obtain ⟨i_131, hx_131, hi_131, h⟩ := h
        refine go_iast_ i_131 dX9_like_131 kd_88 hx_131 hi_131 (by decide) (fun m_131 em_131 => ?_)
        have h := h m_131 em_131
        refine gc_iinc (v := l6 + 1) dX9_like_132 rfl rfl (by decide) ?_
        refine gc_goto 96 dX9_like_135 (by decide) ?_
        exact ih l1 l2 l3 l4 l5 (l6 + 1) m_131  h
def L_X9_like_158 (p0 : Int32) (p1 : Int32) (K : Int32 → Mm → Prop) : Nat → Int32 → Int32 → Int32 → Int32 → Mm → Prop
  | 0, _, _, _, _, _ => False
  | n + 1, l2, l3, l4, l5, mem => (l3 ≤ l5 → ((¬ l3 = 0 → ((¬ l2 = 0 → (∃ i_220 : Nat, l4 = nI i_220 ∧ i_220 < 9 ∧ (K (mem 88 i_220) mem))) ∧ (l2 = 0 → (K l4 mem)))) ∧ (l3 = 0 → (K (-1000000005) mem)))) ∧ (¬ l3 ≤ l5 → (∃ i_170 : Nat, l5 = nI i_170 ∧ i_170 < 9 ∧ (∃ i_177 : Nat, l4 = nI i_177 ∧ i_177 < 9 ∧ (((mem 88 i_177) ≤ (mem 88 i_170) → (L_X9_like_158 p0 p1  K n l2 l3 l4 (l5 + 1) mem)) ∧ (¬ (mem 88 i_177) ≤ (mem 88 i_170) → (L_X9_like_158 p0 p1  K n l2 l3 l5 (l5 + 1) mem))))))
set_option maxRecDepth 100000 in
set_option maxHeartbeats 4000000 in
theorem l_X9_like_158 (X : CX) (p0 : Int32) (p1 : Int32)  (K : Int32 → Mm → Prop) : ∀ (n : Nat) (l2 : Int32) (l3 : Int32) (l4 : Int32) (l5 : Int32) (mem : Mm), L_X9_like_158 p0 p1   K n l2 l3 l4 l5 mem → GoC X 19 0 0 M_X9_like 158 [some (.ref (cx_n X + 82)), none, some (.int l2), some (.int l3), some (.int l4), some (.int l5), none] [] 0 0 (cellAt X mem) (sz mem) (qm X (fun r m => ∃ v : Int32, r = some (.int v) ∧ K v m))
  := by
  intro n
  induction n with
  | zero => intro l2 l3 l4 l5 mem h; exact h.elim
  | succ n ih =>
    intro l2 l3 l4 l5 mem h
    unfold L_X9_like_158 at h
    refine gc_iload dX9_like_158 rfl ?_
    refine gc_iload_n dX9_like_160 rfl ?_
    refine gc_icmp_ge 196 dX9_like_161 (by decide) (fun hc => ?_) (fun hc => ?_)
    · have h := h.1 hc
      refine gc_iload_n dX9_like_196 rfl ?_
      refine gc_if_ne 205 dX9_like_197 (by decide) (fun hc => ?_) (fun hc => ?_)
      · have h := h.1 hc
        refine gc_iload_n dX9_like_205 rfl ?_
        refine gc_if_ne 214 dX9_like_206 (by decide) (fun hc => ?_) (fun hc => ?_)
        · have h := h.1 hc
          refine gc_aload_n dX9_like_214 rfl ?_
          refine go_getR dX9_like_215 lg_X9_25 (sz_lt (by decide)) kd_82 rfl ?_
          refine gc_iload dX9_like_218 rfl ?_
          obtain ⟨i_220, hx_220, hi_220, h⟩ := h
          refine go_iald i_220 dX9_like_220 kd_88 hx_220 hi_220 ?_
          exact go_iret dX9_like_221 rfl (Nat.le_refl _) (Nat.le_refl _) ⟨_, rfl, h⟩
        · have h := h.2 hc
          refine gc_iload dX9_like_209 rfl ?_
          refine gc_goto 221 dX9_like_211 (by decide) ?_
          exact go_iret dX9_like_221 rfl (Nat.le_refl _) (Nat.le_refl _) ⟨_, rfl, h⟩
      · have h := h.2 hc
        refine gc_ldc (v := (-1000000005)) dX9_like_200 lk_X9_180 ?_
        refine gc_goto 221 dX9_like_202 (by decide) ?_
        exact go_iret dX9_like_221 rfl (Nat.le_refl _) (Nat.le_refl _) ⟨_, rfl, h⟩
    · have h := h.2 hc
      refine gc_aload_n dX9_like_164 rfl ?_
      refine go_getR dX9_like_165 lg_X9_25 (sz_lt (by decide)) kd_82 rfl ?_
      refine gc_iload dX9_like_168 rfl ?_
      obtain ⟨i_170, hx_170, hi_170, h⟩ := h
      refine go_iald i_170 dX9_like_170 kd_88 hx_170 hi_170 ?_
      refine gc_aload_n dX9_like_171 rfl ?_
      refine go_getR dX9_like_172 lg_X9_25 (sz_lt (by decide)) kd_82 rfl ?_
      refine gc_iload dX9_like_175 rfl ?_
      obtain ⟨i_177, hx_177, hi_177, h⟩ := h
      refine go_iald i_177 dX9_like_177 kd_88 hx_177 hi_177 ?_
      refine gc_icmp_ge 186 dX9_like_178 (by decide) (fun hc => ?_) (fun hc => ?_)
      · have h := h.1 hc
        refine gc_iload dX9_like_186 rfl ?_
        refine gc_istore dX9_like_188 (by decide) ?_
        refine gc_iinc (v := l5 + 1) dX9_like_190 rfl rfl (by decide) ?_
        refine gc_goto 158 dX9_like_193 (by decide) ?_
        exact ih l2 l3 l4 (l5 + 1) mem  h
      · have h := h.2 hc
        refine gc_iload dX9_like_181 rfl ?_
        refine gc_goto 188 dX9_like_183 (by decide) ?_
        refine gc_istore dX9_like_188 (by decide) ?_
        refine gc_iinc (v := l5 + 1) dX9_like_190 rfl rfl (by decide) ?_
        refine gc_goto 158 dX9_like_193 (by decide) ?_
        exact ih l2 l3 l5 (l5 + 1) mem  h
def L_X9_like_68 (p0 : Int32) (p1 : Int32) (K : Int32 → Mm → Prop) : Nat → Int32 → Int32 → Int32 → Int32 → Mm → Prop
  | 0, _, _, _, _, _ => False
  | n + 1, l1, l2, l3, l4, mem => ∃ i_75 : Nat, l1 = nI i_75 ∧ i_75 < 4 ∧ (((mem 98 i_75) ≤ l4 → (W_X9_putsBack  mem (fun m_149 => ∃ nz : Nat, L_X9_like_158 p0 p1   K nz l2 l3 0 1 m_149))) ∧ (¬ (mem 98 i_75) ≤ l4 → (∃ i_90 : Nat, ((24 * l1) + l4) = nI i_90 ∧ i_90 < 96 ∧ (∃ nz : Nat, L_X9_like_96 p0 p1  (fun zl1 zl2 zl3 zl4 zm => L_X9_like_68 p0 p1  K n zl1 zl2 zl3 zl4 zm) K nz l1 l2 l3 l4 (mem 99 i_90) 0 mem))))
set_option maxRecDepth 100000 in
set_option maxHeartbeats 4000000 in
theorem l_X9_like_68 (X : CX) (p0 : Int32) (p1 : Int32)  (K : Int32 → Mm → Prop) : ∀ (n : Nat) (l1 : Int32) (l2 : Int32) (l3 : Int32) (l4 : Int32) (mem : Mm), L_X9_like_68 p0 p1   K n l1 l2 l3 l4 mem → GoC X 19 0 0 M_X9_like 68 [some (.ref (cx_n X + 82)), some (.int l1), some (.int l2), some (.int l3), some (.int l4), none, none] [] 0 0 (cellAt X mem) (sz mem) (qm X (fun r m => ∃ v : Int32, r = some (.int v) ∧ K v m))
  := by
  intro n
  induction n with
  | zero => intro l1 l2 l3 l4 mem h; exact h.elim
  | succ n ih =>
    intro l1 l2 l3 l4 mem h
    unfold L_X9_like_68 at h
    refine gc_iload dX9_like_68 rfl ?_
    refine gc_aload_n dX9_like_70 rfl ?_
    refine go_getR dX9_like_71 lg_X9_57 (sz_lt (by decide)) kd_82 rfl ?_
    refine gc_iload_n dX9_like_74 rfl ?_
    obtain ⟨i_75, hx_75, hi_75, h⟩ := h
    refine go_iald i_75 dX9_like_75 kd_98 hx_75 hi_75 ?_
    refine gc_icmp_ge 148 dX9_like_76 (by decide) (fun hc => ?_) (fun hc => ?_)
    · have h := h.1 hc
      refine gc_aload_n dX9_like_148 rfl ?_
      refine go_cVU (y := M_X9_putsBack) (As := []) (rest := []) dX9_like_149 lm_X9_201 ok_X9_putsBack (by decide) (sz_lt (by decide)) kd_82 rfl rfl (w_X9_putsBack X  mem _ h) rfl (Nat.le_of_ble_eq_true rfl) (fun m_149 h => ?_)
      refine gc_iconst (v := 0) dX9_like_152 (by decide) ?_
      refine gc_istore dX9_like_153 (by decide) ?_
      refine gc_iconst (v := 1) dX9_like_155 (by decide) ?_
      refine gc_istore dX9_like_156 (by decide) ?_
      refine gc_forget 1 ?_
      obtain ⟨n9, h⟩ := h
      exact l_X9_like_158 X p0 p1    K   n9 l2 l3 0 1 m_149  h
    · have h := h.2 hc
      refine gc_aload_n dX9_like_79 rfl ?_
      refine go_getR dX9_like_80 lg_X9_60 (sz_lt (by decide)) kd_82 rfl ?_
      refine gc_bipush (v := 24) dX9_like_83 (by decide) ?_
      refine gc_iload_n dX9_like_85 rfl ?_
      refine gc_imul dX9_like_86 ?_
      refine gc_iload dX9_like_87 rfl ?_
      refine gc_iadd dX9_like_89 ?_
      obtain ⟨i_90, hx_90, hi_90, h⟩ := h
      refine go_iald i_90 dX9_like_90 kd_99 hx_90 hi_90 ?_
      refine gc_istore dX9_like_91 (by decide) ?_
      refine gc_iconst (v := 0) dX9_like_93 (by decide) ?_
      refine gc_istore dX9_like_94 (by decide) ?_
      obtain ⟨n9, h⟩ := h
      exact l_X9_like_96 X p0 p1   (fun zl1 zl2 zl3 zl4 zm => L_X9_like_68 p0 p1  K n zl1 zl2 zl3 zl4 zm) K  ih n9 l1 l2 l3 l4 (mem 99 i_90) 0 mem  h
def L_X9_like_45 (p0 : Int32) (p1 : Int32) (K : Int32 → Mm → Prop) : Nat → Int32 → Int32 → Int32 → Int32 → Mm → Prop
  | 0, _, _, _, _, _ => False
  | n + 1, l1, l2, l3, l4, mem => (l3 ≤ l4 → (∃ nz : Nat, L_X9_like_68 p0 p1   K nz l1 l2 l3 0 mem)) ∧ (¬ l3 ≤ l4 → (∃ i_58 : Nat, l4 = nI i_58 ∧ i_58 < 9 ∧ (∀ m_58 : Mm, m_58 = mu mem 88 i_58 0 → (L_X9_like_45 p0 p1  K n l1 l2 l3 (l4 + 1) m_58))))
set_option maxRecDepth 100000 in
set_option maxHeartbeats 4000000 in
theorem l_X9_like_45 (X : CX) (p0 : Int32) (p1 : Int32)  (K : Int32 → Mm → Prop) : ∀ (n : Nat) (l1 : Int32) (l2 : Int32) (l3 : Int32) (l4 : Int32) (mem : Mm), L_X9_like_45 p0 p1   K n l1 l2 l3 l4 mem → GoC X 19 0 0 M_X9_like 45 [some (.ref (cx_n X + 82)), some (.int l1), some (.int l2), some (.int l3), some (.int l4), none, none] [] 0 0 (cellAt X mem) (sz mem) (qm X (fun r m => ∃ v : Int32, r = some (.int v) ∧ K v m))
  := by
  intro n
  induction n with
  | zero => intro l1 l2 l3 l4 mem h; exact h.elim
  | succ n ih =>
    intro l1 l2 l3 l4 mem h
    unfold L_X9_like_45 at h
    refine gc_iload dX9_like_45 rfl ?_
    refine gc_iload_n dX9_like_47 rfl ?_
    refine gc_icmp_ge 65 dX9_like_48 (by decide) (fun hc => ?_) (fun hc => ?_)
    · have h := h.1 hc
      refine gc_iconst (v := 0) dX9_like_65 (by decide) ?_
      refine gc_istore dX9_like_66 (by decide) ?_
      obtain ⟨n9, h⟩ := h
      exact l_X9_like_68 X p0 p1    K   n9 l1 l2 l3 0 mem  h
    · have h := h.2 hc
      refine gc_aload_n dX9_like_51 rfl ?_
      refine go_getR dX9_like_52 lg_X9_25 (sz_lt (by decide)) kd_82 rfl ?_
      refine gc_iload dX9_like_55 rfl ?_
      refine gc_iconst (v := 0) dX9_like_57 (by decide) ?_
      obtain ⟨i_58, hx_58, hi_58, h⟩ := h
      refine go_iast_ i_58 dX9_like_58 kd_88 hx_58 hi_58 (by decide) (fun m_58 em_58 => ?_)
      have h := h m_58 em_58
      refine gc_iinc (v := l4 + 1) dX9_like_59 rfl rfl (by decide) ?_
      refine gc_goto 45 dX9_like_62 (by decide) ?_
      exact ih l1 l2 l3 (l4 + 1) m_58  h
def W_X9_like (p0 : Int32) (p1 : Int32) (mem : Mm) (K : Int32 → Mm → Prop) : Prop := W_X9_isSheet p0 mem (fun v_1 m_1 => ((bZ v_1) = 0 → (K (-1000000001) m_1)) ∧ (¬ (bZ v_1) = 0 → (W_X9_in p1 0 1 m_1 (fun v_10 m_10 => (¬ (bZ v_10) = 0 → (∃ i_24 : Nat, p0 = nI i_24 ∧ i_24 < 4 ∧ ((0 ≤ (m_10 97 i_24) → (W_X9_thinks  m_10 (fun m_32 => ∃ nz : Nat, L_X9_like_45 p0 p1   K nz p0 p1 (m_32 83 1) 0 m_32))) ∧ (¬ 0 ≤ (m_10 97 i_24) → (K (-1000000011) m_10))))) ∧ ((bZ v_10) = 0 → (K (-1000000001) m_10))))))
set_option maxRecDepth 100000 in
set_option maxHeartbeats 4000000 in
theorem w_X9_like (X : CX) (p0 : Int32) (p1 : Int32) (mem : Mm) (K : Int32 → Mm → Prop) (h : W_X9_like p0 p1 mem K) : CallsI X 19 M_X9_like [.ref (cx_n X + 82), .int p0, .int p1] mem K := by
  unfold W_X9_like at h
  refine CallsC.ofP 4 (by decide) rfl (Nat.le_of_ble_eq_true rfl) ?_
  refine gc_iload_n dX9_like_0 rfl ?_
  refine go_cSZ (y := M_X9_isSheet) (As := [.int p0]) (rest := []) dX9_like_1 lm_X9_211 ok_X9_isSheet (by decide) (w_X9_isSheet X p0 mem _ h) rfl (Nat.le_of_ble_eq_true rfl) (fun v_1 m_1 h => ?_)
  refine gc_if_eq 16 dX9_like_4 (by decide) (fun hc => ?_) (fun hc => ?_)
  · have h := h.1 hc
    refine gc_ldc (v := (-1000000001)) dX9_like_16 lk_X9_121 ?_
    exact go_iret dX9_like_18 rfl (Nat.le_refl _) (Nat.le_refl _) ⟨_, rfl, h⟩
  · have h := h.2 hc
    refine gc_iload_n dX9_like_7 rfl ?_
    refine gc_iconst (v := 0) dX9_like_8 (by decide) ?_
    refine gc_iconst (v := 1) dX9_like_9 (by decide) ?_
    refine go_cSZ (y := M_X9_in) (As := [.int p1, .int 0, .int 1]) (rest := []) dX9_like_10 lm_X9_81 ok_X9_in (by decide) (w_X9_in X p1 0 1 m_1 _ h) rfl (Nat.le_of_ble_eq_true rfl) (fun v_10 m_10 h => ?_)
    refine gc_if_ne 19 dX9_like_13 (by decide) (fun hc => ?_) (fun hc => ?_)
    · have h := h.1 hc
      refine gc_aload_n dX9_like_19 rfl ?_
      refine go_getR dX9_like_20 lg_X9_54 (sz_lt (by decide)) kd_82 rfl ?_
      refine gc_iload_n dX9_like_23 rfl ?_
      obtain ⟨i_24, hx_24, hi_24, h⟩ := h
      refine go_iald i_24 dX9_like_24 kd_97 hx_24 hi_24 ?_
      refine gc_if_ge 31 dX9_like_25 (by decide) (fun hc => ?_) (fun hc => ?_)
      · have h := h.1 hc
        refine gc_aload_n dX9_like_31 rfl ?_
        refine go_cVU (y := M_X9_thinks) (As := []) (rest := []) dX9_like_32 lm_X9_195 ok_X9_thinks (by decide) (sz_lt (by decide)) kd_82 rfl rfl (w_X9_thinks X  m_10 _ h) rfl (Nat.le_of_ble_eq_true rfl) (fun m_32 h => ?_)
        refine gc_aload_n dX9_like_35 rfl ?_
        refine go_getR dX9_like_36 lg_X9_9 (sz_lt (by decide)) kd_82 rfl ?_
        refine gc_iconst (v := 1) dX9_like_39 (by decide) ?_
        refine go_iald 1 dX9_like_40 kd_83 rfl (by decide) ?_
        refine gc_istore_n dX9_like_41 (by decide) ?_
        refine gc_iconst (v := 0) dX9_like_42 (by decide) ?_
        refine gc_istore dX9_like_43 (by decide) ?_
        obtain ⟨n9, h⟩ := h
        exact l_X9_like_45 X p0 p1    K   n9 p0 p1 (m_32 83 1) 0 m_32  h
      · have h := h.2 hc
        refine gc_ldc (v := (-1000000011)) dX9_like_28 lk_X9_214 ?_
        exact go_iret dX9_like_30 rfl (Nat.le_refl _) (Nat.le_refl _) ⟨_, rfl, h⟩
    · have h := h.2 hc
      refine gc_ldc (v := (-1000000001)) dX9_like_16 lk_X9_121 ?_
      exact go_iret dX9_like_18 rfl (Nat.le_refl _) (Nat.le_refl _) ⟨_, rfl, h⟩
def W_X9_fee  (mem : Mm) (K : Int32 → Mm → Prop) : Prop := W_X9_counts 1 mem (fun v_2 m_2 => ∀ m_17 : Mm, m_17 = mu m_2 96 0 (m_2 83 3) → (∀ m_29 : Mm, m_29 = mu m_17 96 1 (m_17 83 4) → ((0 ≤ v_2 → (W_X9_worksOut v_2 m_29 (fun v_45 m_45 => K v_45 m_45))) ∧ (¬ 0 ≤ v_2 → (K (m_29 83 3) m_29)))))
set_option maxRecDepth 100000 in
set_option maxHeartbeats 4000000 in
theorem w_X9_fee (X : CX)  (mem : Mm) (K : Int32 → Mm → Prop) (h : W_X9_fee  mem K) : CallsI X 2 M_X9_fee [.ref (cx_n X + 82)] mem K := by
  unfold W_X9_fee at h
  refine CallsC.ofP 1 (by decide) rfl (Nat.le_of_ble_eq_true rfl) ?_
  refine gc_aload_n dX9_fee_0 rfl ?_
  refine gc_iconst (v := 1) dX9_fee_1 (by decide) ?_
  refine go_cVI (y := M_X9_counts) (As := [.int 1]) (rest := []) dX9_fee_2 lm_X9_93 ok_X9_counts (by decide) (sz_lt (by decide)) kd_82 rfl rfl (w_X9_counts X 1 mem _ h) rfl (Nat.le_of_ble_eq_true rfl) (fun v_2 m_2 h => ?_)
  refine gc_istore_n dX9_fee_5 (by decide) ?_
  refine gc_aload_n dX9_fee_6 rfl ?_
  refine go_getR dX9_fee_7 lg_X9_51 (sz_lt (by decide)) kd_82 rfl ?_
  refine gc_iconst (v := 0) dX9_fee_10 (by decide) ?_
  refine gc_aload_n dX9_fee_11 rfl ?_
  refine go_getR dX9_fee_12 lg_X9_9 (sz_lt (by decide)) kd_82 rfl ?_
  refine gc_iconst (v := 3) dX9_fee_15 (by decide) ?_
  refine go_iald 3 dX9_fee_16 kd_83 rfl (by decide) ?_
  refine go_iast_ 0 dX9_fee_17 kd_96 rfl (by decide) (by decide) (fun m_17 em_17 => ?_)
  have h := h m_17 em_17
  refine gc_aload_n dX9_fee_18 rfl ?_
  refine go_getR dX9_fee_19 lg_X9_51 (sz_lt (by decide)) kd_82 rfl ?_
  refine gc_iconst (v := 1) dX9_fee_22 (by decide) ?_
  refine gc_aload_n dX9_fee_23 rfl ?_
  refine go_getR dX9_fee_24 lg_X9_9 (sz_lt (by decide)) kd_82 rfl ?_
  refine gc_iconst (v := 4) dX9_fee_27 (by decide) ?_
  refine go_iald 4 dX9_fee_28 kd_83 rfl (by decide) ?_
  refine go_iast_ 1 dX9_fee_29 kd_96 rfl (by decide) (by decide) (fun m_29 em_29 => ?_)
  have h := h m_29 em_29
  refine gc_iload_n dX9_fee_30 rfl ?_
  refine gc_if_ge 43 dX9_fee_31 (by decide) (fun hc => ?_) (fun hc => ?_)
  · have h := h.1 hc
    refine gc_aload_n dX9_fee_43 rfl ?_
    refine gc_iload_n dX9_fee_44 rfl ?_
    refine go_cVI (y := M_X9_worksOut) (As := [.int v_2]) (rest := []) dX9_fee_45 lm_X9_104 ok_X9_worksOut (by decide) (sz_lt (by decide)) kd_82 rfl rfl (w_X9_worksOut X v_2 m_29 _ h) rfl (Nat.le_of_ble_eq_true rfl) (fun v_45 m_45 h => ?_)
    exact go_iret dX9_fee_48 rfl (Nat.le_refl _) (Nat.le_refl _) ⟨_, rfl, h⟩
  · have h := h.2 hc
    refine gc_aload_n dX9_fee_34 rfl ?_
    refine go_getR dX9_fee_35 lg_X9_9 (sz_lt (by decide)) kd_82 rfl ?_
    refine gc_iconst (v := 3) dX9_fee_38 (by decide) ?_
    refine go_iald 3 dX9_fee_39 kd_83 rfl (by decide) ?_
    refine gc_goto 48 dX9_fee_40 (by decide) ?_
    exact go_iret dX9_fee_48 rfl (Nat.le_refl _) (Nat.le_refl _) ⟨_, rfl, h⟩
def W_X9_fine (p0 : Int32) (mem : Mm) (K : Int32 → Mm → Prop) : Prop := W_X9_isMan p0 mem (fun v_2 m_2 => (¬ (bZ v_2) = 0 → (W_X9_counts 2 m_2 (fun v_13 m_13 => W_X9_of p0 1 m_13 (fun v_25 m_25 => ∀ m_28 : Mm, m_28 = mu m_25 96 0 v_25 → (W_X9_of p0 2 m_28 (fun v_37 m_37 => ∀ m_40 : Mm, m_40 = mu m_37 96 1 v_37 → ((0 ≤ v_13 → (W_X9_worksOut v_13 m_40 (fun v_56 m_56 => K v_56 m_56))) ∧ (¬ 0 ≤ v_13 → (W_X9_of p0 1 m_40 (fun v_48 m_48 => K v_48 m_48)))))))))) ∧ ((bZ v_2) = 0 → (K (-1000000001) m_2)))
set_option maxRecDepth 100000 in
set_option maxHeartbeats 4000000 in
theorem w_X9_fine (X : CX) (p0 : Int32) (mem : Mm) (K : Int32 → Mm → Prop) (h : W_X9_fine p0 mem K) : CallsI X 2 M_X9_fine [.ref (cx_n X + 82), .int p0] mem K := by
  unfold W_X9_fine at h
  refine CallsC.ofP 1 (by decide) rfl (Nat.le_of_ble_eq_true rfl) ?_
  refine gc_aload_n dX9_fine_0 rfl ?_
  refine gc_iload_n dX9_fine_1 rfl ?_
  refine go_cVZ (y := M_X9_isMan) (As := [.int p0]) (rest := []) dX9_fine_2 lm_X9_85 ok_X9_isMan (by decide) (sz_lt (by decide)) kd_82 rfl rfl (w_X9_isMan X p0 mem _ h) rfl (Nat.le_of_ble_eq_true rfl) (fun v_2 m_2 h => ?_)
  refine gc_if_ne 11 dX9_fine_5 (by decide) (fun hc => ?_) (fun hc => ?_)
  · have h := h.1 hc
    refine gc_aload_n dX9_fine_11 rfl ?_
    refine gc_iconst (v := 2) dX9_fine_12 (by decide) ?_
    refine go_cVI (y := M_X9_counts) (As := [.int 2]) (rest := []) dX9_fine_13 lm_X9_93 ok_X9_counts (by decide) (sz_lt (by decide)) kd_82 rfl rfl (w_X9_counts X 2 m_2 _ h) rfl (Nat.le_of_ble_eq_true rfl) (fun v_13 m_13 h => ?_)
    refine gc_istore_n dX9_fine_16 (by decide) ?_
    refine gc_aload_n dX9_fine_17 rfl ?_
    refine go_getR dX9_fine_18 lg_X9_51 (sz_lt (by decide)) kd_82 rfl ?_
    refine gc_iconst (v := 0) dX9_fine_21 (by decide) ?_
    refine gc_aload_n dX9_fine_22 rfl ?_
    refine gc_iload_n dX9_fine_23 rfl ?_
    refine gc_iconst (v := 1) dX9_fine_24 (by decide) ?_
    refine go_cVI (y := M_X9_of) (As := [.int p0, .int 1]) (rest := [.int 0, .ref (cx_n X + 96)]) dX9_fine_25 lm_X9_89 ok_X9_of (by decide) (sz_lt (by decide)) kd_82 rfl rfl (w_X9_of X p0 1 m_13 _ h) rfl (Nat.le_of_ble_eq_true rfl) (fun v_25 m_25 h => ?_)
    refine go_iast_ 0 dX9_fine_28 kd_96 rfl (by decide) (by decide) (fun m_28 em_28 => ?_)
    have h := h m_28 em_28
    refine gc_aload_n dX9_fine_29 rfl ?_
    refine go_getR dX9_fine_30 lg_X9_51 (sz_lt (by decide)) kd_82 rfl ?_
    refine gc_iconst (v := 1) dX9_fine_33 (by decide) ?_
    refine gc_aload_n dX9_fine_34 rfl ?_
    refine gc_iload_n dX9_fine_35 rfl ?_
    refine gc_iconst (v := 2) dX9_fine_36 (by decide) ?_
    refine go_cVI (y := M_X9_of) (As := [.int p0, .int 2]) (rest := [.int 1, .ref (cx_n X + 96)]) dX9_fine_37 lm_X9_89 ok_X9_of (by decide) (sz_lt (by decide)) kd_82 rfl rfl (w_X9_of X p0 2 m_28 _ h) rfl (Nat.le_of_ble_eq_true rfl) (fun v_37 m_37 h => ?_)
    refine go_iast_ 1 dX9_fine_40 kd_96 rfl (by decide) (by decide) (fun m_40 em_40 => ?_)
    have h := h m_40 em_40
    refine gc_iload_n dX9_fine_41 rfl ?_
    refine gc_if_ge 54 dX9_fine_42 (by decide) (fun hc => ?_) (fun hc => ?_)
    · have h := h.1 hc
      refine gc_aload_n dX9_fine_54 rfl ?_
      refine gc_iload_n dX9_fine_55 rfl ?_
      refine go_cVI (y := M_X9_worksOut) (As := [.int v_13]) (rest := []) dX9_fine_56 lm_X9_104 ok_X9_worksOut (by decide) (sz_lt (by decide)) kd_82 rfl rfl (w_X9_worksOut X v_13 m_40 _ h) rfl (Nat.le_of_ble_eq_true rfl) (fun v_56 m_56 h => ?_)
      exact go_iret dX9_fine_59 rfl (Nat.le_refl _) (Nat.le_refl _) ⟨_, rfl, h⟩
    · have h := h.2 hc
      refine gc_aload_n dX9_fine_45 rfl ?_
      refine gc_iload_n dX9_fine_46 rfl ?_
      refine gc_iconst (v := 1) dX9_fine_47 (by decide) ?_
      refine go_cVI (y := M_X9_of) (As := [.int p0, .int 1]) (rest := []) dX9_fine_48 lm_X9_89 ok_X9_of (by decide) (sz_lt (by decide)) kd_82 rfl rfl (w_X9_of X p0 1 m_40 _ h) rfl (Nat.le_of_ble_eq_true rfl) (fun v_48 m_48 h => ?_)
      refine gc_goto 59 dX9_fine_51 (by decide) ?_
      exact go_iret dX9_fine_59 rfl (Nat.le_refl _) (Nat.le_refl _) ⟨_, rfl, h⟩
  · have h := h.2 hc
    refine gc_ldc (v := (-1000000001)) dX9_fine_8 lk_X9_121 ?_
    exact go_iret dX9_fine_10 rfl (Nat.le_refl _) (Nat.le_refl _) ⟨_, rfl, h⟩
def B_X9_feed_47 (p0 : Int32) (p1 : Int32) (p2 : Int32) (kb18 : Int32 → Int32 → Int32 → Int32 → Mm → Prop) (K : Int32 → Mm → Prop) (l1 : Int32) (l2 : Int32) (l3 : Int32) (l4 : Int32) (s0 : Int32) (mem : Mm) : Prop := ∃ i_77 : Nat, ((mem 82 9) + l4) = nI i_77 ∧ i_77 < 96 ∧ (∀ m_77 : Mm, m_77 = mu mem 89 i_77 ((s0 >>> ((24 - (8 * (l4 - l4 / 4 * 4))) &&& 31)) &&& 255) → (kb18 l1 l2 l3 (l4 + 1) m_77))
set_option maxRecDepth 100000 in
set_option maxHeartbeats 4000000 in
theorem b_X9_feed_47 (X : CX) (p0 : Int32) (p1 : Int32) (p2 : Int32)  (kb18 : Int32 → Int32 → Int32 → Int32 → Mm → Prop) (K : Int32 → Mm → Prop) (hkb18 : ∀ (l1 : Int32) (l2 : Int32) (l3 : Int32) (l4 : Int32) (mem : Mm), kb18 l1 l2 l3 l4 mem → GoC X 0 0 0 M_X9_feed 18 [some (.ref (cx_n X + 82)), some (.int l1), some (.int l2), some (.int l3), some (.int l4), none] [] 0 0 (cellAt X mem) (sz mem) (qm X (fun r m => ∃ v : Int32, r = some (.int v) ∧ K v m))) (l1 : Int32) (l2 : Int32) (l3 : Int32) (l4 : Int32) (s0 : Int32) (mem : Mm)  (h : B_X9_feed_47 p0 p1 p2  kb18 K l1 l2 l3 l4 s0 mem) : GoC X 0 0 0 M_X9_feed 47 [some (.ref (cx_n X + 82)), some (.int l1), some (.int l2), some (.int l3), some (.int l4), none] [.int s0] 0 0 (cellAt X mem) (sz mem) (qm X (fun r m => ∃ v : Int32, r = some (.int v) ∧ K v m)) := by
  unfold B_X9_feed_47 at h
  refine gc_istore dX9_feed_47 (by decide) ?_
  refine gc_aload_n dX9_feed_49 rfl ?_
  refine go_getR dX9_feed_50 lg_X9_28 (sz_lt (by decide)) kd_82 rfl ?_
  refine gc_aload_n dX9_feed_53 rfl ?_
  refine go_getI dX9_feed_54 lg_X9_218 (sz_lt (by decide)) kd_82 rfl ?_
  refine gc_iload dX9_feed_57 rfl ?_
  refine gc_iadd dX9_feed_59 ?_
  refine gc_iload dX9_feed_60 rfl ?_
  refine gc_bipush (v := 24) dX9_feed_62 (by decide) ?_
  refine gc_bipush (v := 8) dX9_feed_64 (by decide) ?_
  refine gc_iload dX9_feed_66 rfl ?_
  refine gc_iconst (v := 4) dX9_feed_68 (by decide) ?_
  refine gc_irem dX9_feed_69 (by decide) ?_
  refine gc_imul dX9_feed_70 ?_
  refine gc_isub dX9_feed_71 ?_
  refine gc_ishr dX9_feed_72 ?_
  refine gc_sipush (v := 255) dX9_feed_73 (by decide) ?_
  refine gc_iand dX9_feed_76 ?_
  obtain ⟨i_77, hx_77, hi_77, h⟩ := h
  refine go_iast_ i_77 dX9_feed_77 kd_89 hx_77 hi_77 (by decide) (fun m_77 em_77 => ?_)
  have h := h m_77 em_77
  refine gc_iinc (v := l4 + 1) dX9_feed_78 rfl rfl (by decide) ?_
  refine gc_goto 18 dX9_feed_81 (by decide) ?_
  refine gc_forget 5 ?_
  exact hkb18 l1 l2 l3 (l4 + 1) m_77  h
def L_X9_feed_18 (p0 : Int32) (p1 : Int32) (p2 : Int32) (K : Int32 → Mm → Prop) : Nat → Int32 → Int32 → Int32 → Int32 → Mm → Prop
  | 0, _, _, _, _, _ => False
  | n + 1, l1, l2, l3, l4, mem => (12 ≤ l4 → (∀ m_92 : Mm, m_92 = mu mem 82 9 ((mem 82 9) + 12) → (K (m_92 82 9) m_92))) ∧ (¬ 12 ≤ l4 → ((4 ≤ l4 → ((8 ≤ l4 → (B_X9_feed_47 p0 p1 p2  (fun zl1 zl2 zl3 zl4 zm => L_X9_feed_18 p0 p1 p2  K n zl1 zl2 zl3 zl4 zm) K l1 l2 l3 l4 l3 mem)) ∧ (¬ 8 ≤ l4 → (B_X9_feed_47 p0 p1 p2  (fun zl1 zl2 zl3 zl4 zm => L_X9_feed_18 p0 p1 p2  K n zl1 zl2 zl3 zl4 zm) K l1 l2 l3 l4 l2 mem)))) ∧ (¬ 4 ≤ l4 → (B_X9_feed_47 p0 p1 p2  (fun zl1 zl2 zl3 zl4 zm => L_X9_feed_18 p0 p1 p2  K n zl1 zl2 zl3 zl4 zm) K l1 l2 l3 l4 l1 mem))))
set_option maxRecDepth 100000 in
set_option maxHeartbeats 4000000 in
theorem l_X9_feed_18 (X : CX) (p0 : Int32) (p1 : Int32) (p2 : Int32)  (K : Int32 → Mm → Prop) : ∀ (n : Nat) (l1 : Int32) (l2 : Int32) (l3 : Int32) (l4 : Int32) (mem : Mm), L_X9_feed_18 p0 p1 p2   K n l1 l2 l3 l4 mem → GoC X 0 0 0 M_X9_feed 18 [some (.ref (cx_n X + 82)), some (.int l1), some (.int l2), some (.int l3), some (.int l4), none] [] 0 0 (cellAt X mem) (sz mem) (qm X (fun r m => ∃ v : Int32, r = some (.int v) ∧ K v m))
  := by
  intro n
  induction n with
  | zero => intro l1 l2 l3 l4 mem h; exact h.elim
  | succ n ih =>
    intro l1 l2 l3 l4 mem h
    unfold L_X9_feed_18 at h
    refine gc_iload dX9_feed_18 rfl ?_
    refine gc_bipush (v := 12) dX9_feed_20 (by decide) ?_
    refine gc_icmp_ge 84 dX9_feed_22 (by decide) (fun hc => ?_) (fun hc => ?_)
    · have h := h.1 hc
      refine gc_aload_n dX9_feed_84 rfl ?_
      refine gc_dup dX9_feed_85 rfl ?_
      refine go_getI dX9_feed_86 lg_X9_218 (sz_lt (by decide)) kd_82 rfl ?_
      refine gc_bipush (v := 12) dX9_feed_89 (by decide) ?_
      refine gc_iadd dX9_feed_91 ?_
      refine go_putI_ dX9_feed_92 lp_X9_218 (sz_lt (by decide)) kd_82 rfl (fun m_92 em_92 => ?_)
      have h := h m_92 em_92
      refine gc_aload_n dX9_feed_95 rfl ?_
      refine go_getI dX9_feed_96 lg_X9_218 (sz_lt (by decide)) kd_82 rfl ?_
      exact go_iret dX9_feed_99 rfl (Nat.le_refl _) (Nat.le_refl _) ⟨_, rfl, h⟩
    · have h := h.2 hc
      refine gc_iload dX9_feed_25 rfl ?_
      refine gc_iconst (v := 4) dX9_feed_27 (by decide) ?_
      refine gc_icmp_ge 35 dX9_feed_28 (by decide) (fun hc => ?_) (fun hc => ?_)
      · have h := h.1 hc
        refine gc_iload dX9_feed_35 rfl ?_
        refine gc_bipush (v := 8) dX9_feed_37 (by decide) ?_
        refine gc_icmp_ge 46 dX9_feed_39 (by decide) (fun hc => ?_) (fun hc => ?_)
        · have h := h.1 hc
          refine gc_iload_n dX9_feed_46 rfl ?_
          exact b_X9_feed_47 X p0 p1 p2   (fun zl1 zl2 zl3 zl4 zm => L_X9_feed_18 p0 p1 p2  K n zl1 zl2 zl3 zl4 zm) K  ih l1 l2 l3 l4 l3 mem  h
        · have h := h.2 hc
          refine gc_iload_n dX9_feed_42 rfl ?_
          refine gc_goto 47 dX9_feed_43 (by decide) ?_
          exact b_X9_feed_47 X p0 p1 p2   (fun zl1 zl2 zl3 zl4 zm => L_X9_feed_18 p0 p1 p2  K n zl1 zl2 zl3 zl4 zm) K  ih l1 l2 l3 l4 l2 mem  h
      · have h := h.2 hc
        refine gc_iload_n dX9_feed_31 rfl ?_
        refine gc_goto 47 dX9_feed_32 (by decide) ?_
        exact b_X9_feed_47 X p0 p1 p2   (fun zl1 zl2 zl3 zl4 zm => L_X9_feed_18 p0 p1 p2  K n zl1 zl2 zl3 zl4 zm) K  ih l1 l2 l3 l4 l1 mem  h
def W_X9_feed (p0 : Int32) (p1 : Int32) (p2 : Int32) (mem : Mm) (K : Int32 → Mm → Prop) : Prop := (((mem 82 9) + 12) ≤ 96 → (∃ nz : Nat, L_X9_feed_18 p0 p1 p2   K nz p0 p1 p2 0 mem)) ∧ (¬ ((mem 82 9) + 12) ≤ 96 → (K (-1000000003) mem))
set_option maxRecDepth 100000 in
set_option maxHeartbeats 4000000 in
theorem w_X9_feed (X : CX) (p0 : Int32) (p1 : Int32) (p2 : Int32) (mem : Mm) (K : Int32 → Mm → Prop) (h : W_X9_feed p0 p1 p2 mem K) : CallsI X 0 M_X9_feed [.ref (cx_n X + 82), .int p0, .int p1, .int p2] mem K := by
  unfold W_X9_feed at h
  refine CallsC.ofP 2 (by decide) rfl (Nat.le_of_ble_eq_true rfl) ?_
  refine gc_aload_n dX9_feed_0 rfl ?_
  refine go_getI dX9_feed_1 lg_X9_218 (sz_lt (by decide)) kd_82 rfl ?_
  refine gc_bipush (v := 12) dX9_feed_4 (by decide) ?_
  refine gc_iadd dX9_feed_6 ?_
  refine gc_bipush (v := 96) dX9_feed_7 (by decide) ?_
  refine gc_icmp_le 15 dX9_feed_9 (by decide) (fun hc => ?_) (fun hc => ?_)
  · have h := h.1 hc
    refine gc_iconst (v := 0) dX9_feed_15 (by decide) ?_
    refine gc_istore dX9_feed_16 (by decide) ?_
    obtain ⟨n9, h⟩ := h
    exact l_X9_feed_18 X p0 p1 p2    K   n9 p0 p1 p2 0 mem  h
  · have h := h.2 hc
    refine gc_ldc (v := (-1000000003)) dX9_feed_12 lk_X9_122 ?_
    exact go_iret dX9_feed_14 rfl (Nat.le_refl _) (Nat.le_refl _) ⟨_, rfl, h⟩
def W_X9_trim (p0 : Int32) (mem : Mm) (K : Int32 → Mm → Prop) : Prop := W_X9_in p0 0 (mem 82 9) mem (fun v_6 m_6 => (¬ (bZ v_6) = 0 → (∀ m_17 : Mm, m_17 = mu m_6 82 9 p0 → (K p0 m_17))) ∧ ((bZ v_6) = 0 → (K (-1000000001) m_6)))
set_option maxRecDepth 100000 in
set_option maxHeartbeats 4000000 in
theorem w_X9_trim (X : CX) (p0 : Int32) (mem : Mm) (K : Int32 → Mm → Prop) (h : W_X9_trim p0 mem K) : CallsI X 1 M_X9_trim [.ref (cx_n X + 82), .int p0] mem K := by
  unfold W_X9_trim at h
  refine CallsC.ofP 0 (by decide) rfl (Nat.le_of_ble_eq_true rfl) ?_
  refine gc_iload_n dX9_trim_0 rfl ?_
  refine gc_iconst (v := 0) dX9_trim_1 (by decide) ?_
  refine gc_aload_n dX9_trim_2 rfl ?_
  refine go_getI dX9_trim_3 lg_X9_218 (sz_lt (by decide)) kd_82 rfl ?_
  refine go_cSZ (y := M_X9_in) (As := [.int p0, .int 0, .int (mem 82 9)]) (rest := []) dX9_trim_6 lm_X9_81 ok_X9_in (by decide) (w_X9_in X p0 0 (mem 82 9) mem _ h) rfl (Nat.le_of_ble_eq_true rfl) (fun v_6 m_6 h => ?_)
  refine gc_if_ne 15 dX9_trim_9 (by decide) (fun hc => ?_) (fun hc => ?_)
  · have h := h.1 hc
    refine gc_aload_n dX9_trim_15 rfl ?_
    refine gc_iload_n dX9_trim_16 rfl ?_
    refine go_putI_ dX9_trim_17 lp_X9_218 (sz_lt (by decide)) kd_82 rfl (fun m_17 em_17 => ?_)
    have h := h m_17 em_17
    refine gc_iload_n dX9_trim_20 rfl ?_
    exact go_iret dX9_trim_21 rfl (Nat.le_refl _) (Nat.le_refl _) ⟨_, rfl, h⟩
  · have h := h.2 hc
    refine gc_ldc (v := (-1000000001)) dX9_trim_12 lk_X9_121 ?_
    exact go_iret dX9_trim_14 rfl (Nat.le_refl _) (Nat.le_refl _) ⟨_, rfl, h⟩
def W_X9_isLetter (p0 : Int32) (mem : Mm) (K : Bool → Mm → Prop) : Prop := ((mem 82 9) ≤ p0 → (K false mem)) ∧ (¬ (mem 82 9) ≤ p0 → (∃ i_13 : Nat, p0 = nI i_13 ∧ i_13 < 96 ∧ (((mem 89 i_13) < 97 → (K false mem)) ∧ (¬ (mem 89 i_13) < 97 → (∃ i_24 : Nat, p0 = nI i_24 ∧ i_24 < 96 ∧ ((122 < (mem 89 i_24) → (K false mem)) ∧ (¬ 122 < (mem 89 i_24) → (K true mem))))))))
set_option maxRecDepth 100000 in
set_option maxHeartbeats 4000000 in
theorem w_X9_isLetter (X : CX) (p0 : Int32) (mem : Mm) (K : Bool → Mm → Prop) (h : W_X9_isLetter p0 mem K) : CallsZ X 0 M_X9_isLetter [.ref (cx_n X + 82), .int p0] mem K := by
  unfold W_X9_isLetter at h
  refine CallsC.ofP 0 (by decide) rfl (Nat.le_of_ble_eq_true rfl) ?_
  refine gc_iload_n dX9_isLetter_0 rfl ?_
  refine gc_aload_n dX9_isLetter_1 rfl ?_
  refine go_getI dX9_isLetter_2 lg_X9_218 (sz_lt (by decide)) kd_82 rfl ?_
  refine gc_icmp_ge 34 dX9_isLetter_5 (by decide) (fun hc => ?_) (fun hc => ?_)
  · have h := h.1 hc
    refine gc_iconst (v := 0) dX9_isLetter_34 (by decide) ?_
    exact go_zret dX9_isLetter_35 rfl (by decide) (Nat.le_refl _) (Nat.le_refl _) ⟨false, rfl, h⟩
  · have h := h.2 hc
    refine gc_aload_n dX9_isLetter_8 rfl ?_
    refine go_getR dX9_isLetter_9 lg_X9_28 (sz_lt (by decide)) kd_82 rfl ?_
    refine gc_iload_n dX9_isLetter_12 rfl ?_
    obtain ⟨i_13, hx_13, hi_13, h⟩ := h
    refine go_iald i_13 dX9_isLetter_13 kd_89 hx_13 hi_13 ?_
    refine gc_bipush (v := 97) dX9_isLetter_14 (by decide) ?_
    refine gc_icmp_lt 34 dX9_isLetter_16 (by decide) (fun hc => ?_) (fun hc => ?_)
    · have h := h.1 hc
      refine gc_iconst (v := 0) dX9_isLetter_34 (by decide) ?_
      exact go_zret dX9_isLetter_35 rfl (by decide) (Nat.le_refl _) (Nat.le_refl _) ⟨false, rfl, h⟩
    · have h := h.2 hc
      refine gc_aload_n dX9_isLetter_19 rfl ?_
      refine go_getR dX9_isLetter_20 lg_X9_28 (sz_lt (by decide)) kd_82 rfl ?_
      refine gc_iload_n dX9_isLetter_23 rfl ?_
      obtain ⟨i_24, hx_24, hi_24, h⟩ := h
      refine go_iald i_24 dX9_isLetter_24 kd_89 hx_24 hi_24 ?_
      refine gc_bipush (v := 122) dX9_isLetter_25 (by decide) ?_
      refine gc_icmp_gt 34 dX9_isLetter_27 (by decide) (fun hc => ?_) (fun hc => ?_)
      · have h := h.1 hc
        refine gc_iconst (v := 0) dX9_isLetter_34 (by decide) ?_
        exact go_zret dX9_isLetter_35 rfl (by decide) (Nat.le_refl _) (Nat.le_refl _) ⟨false, rfl, h⟩
      · have h := h.2 hc
        refine gc_iconst (v := 1) dX9_isLetter_30 (by decide) ?_
        refine gc_goto 35 dX9_isLetter_31 (by decide) ?_
        exact go_zret dX9_isLetter_35 rfl (by decide) (Nat.le_refl _) (Nat.le_refl _) ⟨true, rfl, h⟩
def W_X9_isFigure (p0 : Int32) (mem : Mm) (K : Bool → Mm → Prop) : Prop := ((mem 82 9) ≤ p0 → (K false mem)) ∧ (¬ (mem 82 9) ≤ p0 → (∃ i_13 : Nat, p0 = nI i_13 ∧ i_13 < 96 ∧ (((mem 89 i_13) < 48 → (K false mem)) ∧ (¬ (mem 89 i_13) < 48 → (∃ i_24 : Nat, p0 = nI i_24 ∧ i_24 < 96 ∧ ((57 < (mem 89 i_24) → (K false mem)) ∧ (¬ 57 < (mem 89 i_24) → (K true mem))))))))
set_option maxRecDepth 100000 in
set_option maxHeartbeats 4000000 in
theorem w_X9_isFigure (X : CX) (p0 : Int32) (mem : Mm) (K : Bool → Mm → Prop) (h : W_X9_isFigure p0 mem K) : CallsZ X 0 M_X9_isFigure [.ref (cx_n X + 82), .int p0] mem K := by
  unfold W_X9_isFigure at h
  refine CallsC.ofP 0 (by decide) rfl (Nat.le_of_ble_eq_true rfl) ?_
  refine gc_iload_n dX9_isFigure_0 rfl ?_
  refine gc_aload_n dX9_isFigure_1 rfl ?_
  refine go_getI dX9_isFigure_2 lg_X9_218 (sz_lt (by decide)) kd_82 rfl ?_
  refine gc_icmp_ge 34 dX9_isFigure_5 (by decide) (fun hc => ?_) (fun hc => ?_)
  · have h := h.1 hc
    refine gc_iconst (v := 0) dX9_isFigure_34 (by decide) ?_
    exact go_zret dX9_isFigure_35 rfl (by decide) (Nat.le_refl _) (Nat.le_refl _) ⟨false, rfl, h⟩
  · have h := h.2 hc
    refine gc_aload_n dX9_isFigure_8 rfl ?_
    refine go_getR dX9_isFigure_9 lg_X9_28 (sz_lt (by decide)) kd_82 rfl ?_
    refine gc_iload_n dX9_isFigure_12 rfl ?_
    obtain ⟨i_13, hx_13, hi_13, h⟩ := h
    refine go_iald i_13 dX9_isFigure_13 kd_89 hx_13 hi_13 ?_
    refine gc_bipush (v := 48) dX9_isFigure_14 (by decide) ?_
    refine gc_icmp_lt 34 dX9_isFigure_16 (by decide) (fun hc => ?_) (fun hc => ?_)
    · have h := h.1 hc
      refine gc_iconst (v := 0) dX9_isFigure_34 (by decide) ?_
      exact go_zret dX9_isFigure_35 rfl (by decide) (Nat.le_refl _) (Nat.le_refl _) ⟨false, rfl, h⟩
    · have h := h.2 hc
      refine gc_aload_n dX9_isFigure_19 rfl ?_
      refine go_getR dX9_isFigure_20 lg_X9_28 (sz_lt (by decide)) kd_82 rfl ?_
      refine gc_iload_n dX9_isFigure_23 rfl ?_
      obtain ⟨i_24, hx_24, hi_24, h⟩ := h
      refine go_iald i_24 dX9_isFigure_24 kd_89 hx_24 hi_24 ?_
      refine gc_bipush (v := 57) dX9_isFigure_25 (by decide) ?_
      refine gc_icmp_gt 34 dX9_isFigure_27 (by decide) (fun hc => ?_) (fun hc => ?_)
      · have h := h.1 hc
        refine gc_iconst (v := 0) dX9_isFigure_34 (by decide) ?_
        exact go_zret dX9_isFigure_35 rfl (by decide) (Nat.le_refl _) (Nat.le_refl _) ⟨false, rfl, h⟩
      · have h := h.2 hc
        refine gc_iconst (v := 1) dX9_isFigure_30 (by decide) ?_
        refine gc_goto 35 dX9_isFigure_31 (by decide) ?_
        exact go_zret dX9_isFigure_35 rfl (by decide) (Nat.le_refl _) (Nat.le_refl _) ⟨true, rfl, h⟩
def L_X9_go_170  (K : Mm → Prop) : Nat → Int32 → Mm → Prop
  | 0, _, _ => False
  | n + 1, l1, mem => W_X9_isFigure (mem 82 10) mem (fun v_175 m_175 => ((bZ v_175) = 0 → ((¬ l1 = 0 → (∀ m_261 : Mm, m_261 = mu m_175 82 12 4 → (∀ m_269 : Mm, m_269 = mu m_261 82 14 (m_261 82 10) → (K m_269)))) ∧ (l1 = 0 → ((((m_175 82 10) - (m_175 82 11)) ≤ 4 → (∀ m_261 : Mm, m_261 = mu m_175 82 12 2 → (∀ m_269 : Mm, m_269 = mu m_261 82 14 (m_261 82 10) → (K m_269)))) ∧ (¬ ((m_175 82 10) - (m_175 82 11)) ≤ 4 → (∀ m_261 : Mm, m_261 = mu m_175 82 12 4 → (∀ m_269 : Mm, m_269 = mu m_261 82 14 (m_261 82 10) → (K m_269)))))))) ∧ (¬ (bZ v_175) = 0 → ((4 ≤ ((m_175 82 10) - (m_175 82 11)) → (∀ m_222 : Mm, m_222 = mu m_175 82 13 (m_175 82 13) → (∀ m_232 : Mm, m_232 = mu m_222 82 10 ((m_222 82 10) + 1) → (L_X9_go_170   K n l1 m_232)))) ∧ (¬ 4 ≤ ((m_175 82 10) - (m_175 82 11)) → (∃ i_210 : Nat, (m_175 82 10) = nI i_210 ∧ i_210 < 96 ∧ (∀ m_222 : Mm, m_222 = mu m_175 82 13 (((10 * (m_175 82 13)) + (m_175 89 i_210)) - 48) → (∀ m_232 : Mm, m_232 = mu m_222 82 10 ((m_222 82 10) + 1) → (L_X9_go_170   K n l1 m_232))))))))
set_option maxRecDepth 100000 in
set_option maxHeartbeats 4000000 in
theorem l_X9_go_170 (X : CX)   (K : Mm → Prop) : ∀ (n : Nat) (l1 : Int32) (mem : Mm), L_X9_go_170    K n l1 mem → GoC X 1 0 0 M_X9_go 170 [some (.ref (cx_n X + 82)), some (.int l1)] [] 0 0 (cellAt X mem) (sz mem) (qm X (fun r m => r = none ∧ K m))
  := by
  intro n
  induction n with
  | zero => intro l1 mem h; exact h.elim
  | succ n ih =>
    intro l1 mem h
    unfold L_X9_go_170 at h
    refine gc_aload_n dX9_go_170 rfl ?_
    refine gc_aload_n dX9_go_171 rfl ?_
    refine go_getI dX9_go_172 lg_X9_221 (sz_lt (by decide)) kd_82 rfl ?_
    refine go_cVZ (y := M_X9_isFigure) (As := [.int (mem 82 10)]) (rest := []) dX9_go_175 lm_X9_239 ok_X9_isFigure (by decide) (sz_lt (by decide)) kd_82 rfl rfl (w_X9_isFigure X (mem 82 10) mem _ h) rfl (Nat.le_of_ble_eq_true rfl) (fun v_175 m_175 h => ?_)
    refine gc_if_eq 238 dX9_go_178 (by decide) (fun hc => ?_) (fun hc => ?_)
    · have h := h.1 hc
      refine gc_aload_n dX9_go_238 rfl ?_
      refine gc_iload_n dX9_go_239 rfl ?_
      refine gc_if_ne 256 dX9_go_240 (by decide) (fun hc => ?_) (fun hc => ?_)
      · have h := h.1 hc
        refine gc_iconst (v := 4) dX9_go_256 (by decide) ?_
        refine gc_goto 261 dX9_go_257 (by decide) ?_
        refine go_putI_ dX9_go_261 lp_X9_230 (sz_lt (by decide)) kd_82 rfl (fun m_261 em_261 => ?_)
        have h := h m_261 em_261
        refine gc_aload_n dX9_go_264 rfl ?_
        refine gc_aload_n dX9_go_265 rfl ?_
        refine go_getI dX9_go_266 lg_X9_221 (sz_lt (by decide)) kd_82 rfl ?_
        refine go_putI_ dX9_go_269 lp_X9_227 (sz_lt (by decide)) kd_82 rfl (fun m_269 em_269 => ?_)
        have h := h m_269 em_269
        refine gc_goto 303 dX9_go_272 (by decide) ?_
        exact go_vret dX9_go_303 rfl (Nat.le_refl _) (Nat.le_refl _) ⟨rfl, h⟩
      · have h := h.2 hc
        refine gc_aload_n dX9_go_243 rfl ?_
        refine go_getI dX9_go_244 lg_X9_221 (sz_lt (by decide)) kd_82 rfl ?_
        refine gc_aload_n dX9_go_247 rfl ?_
        refine go_getI dX9_go_248 lg_X9_224 (sz_lt (by decide)) kd_82 rfl ?_
        refine gc_isub dX9_go_251 ?_
        refine gc_iconst (v := 4) dX9_go_252 (by decide) ?_
        refine gc_icmp_le 260 dX9_go_253 (by decide) (fun hc => ?_) (fun hc => ?_)
        · have h := h.1 hc
          refine gc_iconst (v := 2) dX9_go_260 (by decide) ?_
          refine go_putI_ dX9_go_261 lp_X9_230 (sz_lt (by decide)) kd_82 rfl (fun m_261 em_261 => ?_)
          have h := h m_261 em_261
          refine gc_aload_n dX9_go_264 rfl ?_
          refine gc_aload_n dX9_go_265 rfl ?_
          refine go_getI dX9_go_266 lg_X9_221 (sz_lt (by decide)) kd_82 rfl ?_
          refine go_putI_ dX9_go_269 lp_X9_227 (sz_lt (by decide)) kd_82 rfl (fun m_269 em_269 => ?_)
          have h := h m_269 em_269
          refine gc_goto 303 dX9_go_272 (by decide) ?_
          exact go_vret dX9_go_303 rfl (Nat.le_refl _) (Nat.le_refl _) ⟨rfl, h⟩
        · have h := h.2 hc
          refine gc_iconst (v := 4) dX9_go_256 (by decide) ?_
          refine gc_goto 261 dX9_go_257 (by decide) ?_
          refine go_putI_ dX9_go_261 lp_X9_230 (sz_lt (by decide)) kd_82 rfl (fun m_261 em_261 => ?_)
          have h := h m_261 em_261
          refine gc_aload_n dX9_go_264 rfl ?_
          refine gc_aload_n dX9_go_265 rfl ?_
          refine go_getI dX9_go_266 lg_X9_221 (sz_lt (by decide)) kd_82 rfl ?_
          refine go_putI_ dX9_go_269 lp_X9_227 (sz_lt (by decide)) kd_82 rfl (fun m_269 em_269 => ?_)
          have h := h m_269 em_269
          refine gc_goto 303 dX9_go_272 (by decide) ?_
          exact go_vret dX9_go_303 rfl (Nat.le_refl _) (Nat.le_refl _) ⟨rfl, h⟩
    · have h := h.2 hc
      refine gc_aload_n dX9_go_181 rfl ?_
      refine gc_aload_n dX9_go_182 rfl ?_
      refine go_getI dX9_go_183 lg_X9_221 (sz_lt (by decide)) kd_82 rfl ?_
      refine gc_aload_n dX9_go_186 rfl ?_
      refine go_getI dX9_go_187 lg_X9_224 (sz_lt (by decide)) kd_82 rfl ?_
      refine gc_isub dX9_go_190 ?_
      refine gc_iconst (v := 4) dX9_go_191 (by decide) ?_
      refine gc_icmp_ge 218 dX9_go_192 (by decide) (fun hc => ?_) (fun hc => ?_)
      · have h := h.1 hc
        refine gc_aload_n dX9_go_218 rfl ?_
        refine go_getI dX9_go_219 lg_X9_236 (sz_lt (by decide)) kd_82 rfl ?_
        refine go_putI_ dX9_go_222 lp_X9_236 (sz_lt (by decide)) kd_82 rfl (fun m_222 em_222 => ?_)
        have h := h m_222 em_222
        refine gc_aload_n dX9_go_225 rfl ?_
        refine gc_dup dX9_go_226 rfl ?_
        refine go_getI dX9_go_227 lg_X9_221 (sz_lt (by decide)) kd_82 rfl ?_
        refine gc_iconst (v := 1) dX9_go_230 (by decide) ?_
        refine gc_iadd dX9_go_231 ?_
        refine go_putI_ dX9_go_232 lp_X9_221 (sz_lt (by decide)) kd_82 rfl (fun m_232 em_232 => ?_)
        have h := h m_232 em_232
        refine gc_goto 170 dX9_go_235 (by decide) ?_
        exact ih l1 m_232  h
      · have h := h.2 hc
        refine gc_bipush (v := 10) dX9_go_195 (by decide) ?_
        refine gc_aload_n dX9_go_197 rfl ?_
        refine go_getI dX9_go_198 lg_X9_236 (sz_lt (by decide)) kd_82 rfl ?_
        refine gc_imul dX9_go_201 ?_
        refine gc_aload_n dX9_go_202 rfl ?_
        refine go_getR dX9_go_203 lg_X9_28 (sz_lt (by decide)) kd_82 rfl ?_
        refine gc_aload_n dX9_go_206 rfl ?_
        refine go_getI dX9_go_207 lg_X9_221 (sz_lt (by decide)) kd_82 rfl ?_
        obtain ⟨i_210, hx_210, hi_210, h⟩ := h
        refine go_iald i_210 dX9_go_210 kd_89 hx_210 hi_210 ?_
        refine gc_iadd dX9_go_211 ?_
        refine gc_bipush (v := 48) dX9_go_212 (by decide) ?_
        refine gc_isub dX9_go_214 ?_
        refine gc_goto 222 dX9_go_215 (by decide) ?_
        refine go_putI_ dX9_go_222 lp_X9_236 (sz_lt (by decide)) kd_82 rfl (fun m_222 em_222 => ?_)
        have h := h m_222 em_222
        refine gc_aload_n dX9_go_225 rfl ?_
        refine gc_dup dX9_go_226 rfl ?_
        refine go_getI dX9_go_227 lg_X9_221 (sz_lt (by decide)) kd_82 rfl ?_
        refine gc_iconst (v := 1) dX9_go_230 (by decide) ?_
        refine gc_iadd dX9_go_231 ?_
        refine go_putI_ dX9_go_232 lp_X9_221 (sz_lt (by decide)) kd_82 rfl (fun m_232 em_232 => ?_)
        have h := h m_232 em_232
        refine gc_goto 170 dX9_go_235 (by decide) ?_
        exact ih l1 m_232  h
def L_X9_go_93  (K : Mm → Prop) : Nat → Int32 → Mm → Prop
  | 0, _, _ => False
  | n + 1, l1, mem => W_X9_isLetter (mem 82 10) mem (fun v_98 m_98 => ((bZ v_98) = 0 → ((l1 = 0 → (∀ m_127 : Mm, m_127 = mu m_98 82 12 1 → (∃ i_139 : Nat, (m_127 82 11) = nI i_139 ∧ i_139 < 96 ∧ (∀ m_140 : Mm, m_140 = mu m_127 82 13 (m_127 89 i_139) → (∀ m_148 : Mm, m_148 = mu m_140 82 14 (m_140 82 10) → (K m_148)))))) ∧ (¬ l1 = 0 → (∀ m_127 : Mm, m_127 = mu m_98 82 12 4 → (∃ i_139 : Nat, (m_127 82 11) = nI i_139 ∧ i_139 < 96 ∧ (∀ m_140 : Mm, m_140 = mu m_127 82 13 (m_127 89 i_139) → (∀ m_148 : Mm, m_148 = mu m_140 82 14 (m_140 82 10) → (K m_148)))))))) ∧ (¬ (bZ v_98) = 0 → (∀ m_111 : Mm, m_111 = mu m_98 82 10 ((m_98 82 10) + 1) → (L_X9_go_93   K n l1 m_111))))
set_option maxRecDepth 100000 in
set_option maxHeartbeats 4000000 in
theorem l_X9_go_93 (X : CX)   (K : Mm → Prop) : ∀ (n : Nat) (l1 : Int32) (mem : Mm), L_X9_go_93    K n l1 mem → GoC X 1 0 0 M_X9_go 93 [some (.ref (cx_n X + 82)), some (.int l1)] [] 0 0 (cellAt X mem) (sz mem) (qm X (fun r m => r = none ∧ K m))
  := by
  intro n
  induction n with
  | zero => intro l1 mem h; exact h.elim
  | succ n ih =>
    intro l1 mem h
    unfold L_X9_go_93 at h
    refine gc_aload_n dX9_go_93 rfl ?_
    refine gc_aload_n dX9_go_94 rfl ?_
    refine go_getI dX9_go_95 lg_X9_221 (sz_lt (by decide)) kd_82 rfl ?_
    refine go_cVZ (y := M_X9_isLetter) (As := [.int (mem 82 10)]) (rest := []) dX9_go_98 lm_X9_233 ok_X9_isLetter (by decide) (sz_lt (by decide)) kd_82 rfl rfl (w_X9_isLetter X (mem 82 10) mem _ h) rfl (Nat.le_of_ble_eq_true rfl) (fun v_98 m_98 h => ?_)
    refine gc_if_eq 117 dX9_go_101 (by decide) (fun hc => ?_) (fun hc => ?_)
    · have h := h.1 hc
      refine gc_aload_n dX9_go_117 rfl ?_
      refine gc_iload_n dX9_go_118 rfl ?_
      refine gc_if_eq 126 dX9_go_119 (by decide) (fun hc => ?_) (fun hc => ?_)
      · have h := h.1 hc
        refine gc_iconst (v := 1) dX9_go_126 (by decide) ?_
        refine go_putI_ dX9_go_127 lp_X9_230 (sz_lt (by decide)) kd_82 rfl (fun m_127 em_127 => ?_)
        have h := h m_127 em_127
        refine gc_aload_n dX9_go_130 rfl ?_
        refine gc_aload_n dX9_go_131 rfl ?_
        refine go_getR dX9_go_132 lg_X9_28 (sz_lt (by decide)) kd_82 rfl ?_
        refine gc_aload_n dX9_go_135 rfl ?_
        refine go_getI dX9_go_136 lg_X9_224 (sz_lt (by decide)) kd_82 rfl ?_
        obtain ⟨i_139, hx_139, hi_139, h⟩ := h
        refine go_iald i_139 dX9_go_139 kd_89 hx_139 hi_139 ?_
        refine go_putI_ dX9_go_140 lp_X9_236 (sz_lt (by decide)) kd_82 rfl (fun m_140 em_140 => ?_)
        have h := h m_140 em_140
        refine gc_aload_n dX9_go_143 rfl ?_
        refine gc_aload_n dX9_go_144 rfl ?_
        refine go_getI dX9_go_145 lg_X9_221 (sz_lt (by decide)) kd_82 rfl ?_
        refine go_putI_ dX9_go_148 lp_X9_227 (sz_lt (by decide)) kd_82 rfl (fun m_148 em_148 => ?_)
        have h := h m_148 em_148
        refine gc_goto 303 dX9_go_151 (by decide) ?_
        exact go_vret dX9_go_303 rfl (Nat.le_refl _) (Nat.le_refl _) ⟨rfl, h⟩
      · have h := h.2 hc
        refine gc_iconst (v := 4) dX9_go_122 (by decide) ?_
        refine gc_goto 127 dX9_go_123 (by decide) ?_
        refine go_putI_ dX9_go_127 lp_X9_230 (sz_lt (by decide)) kd_82 rfl (fun m_127 em_127 => ?_)
        have h := h m_127 em_127
        refine gc_aload_n dX9_go_130 rfl ?_
        refine gc_aload_n dX9_go_131 rfl ?_
        refine go_getR dX9_go_132 lg_X9_28 (sz_lt (by decide)) kd_82 rfl ?_
        refine gc_aload_n dX9_go_135 rfl ?_
        refine go_getI dX9_go_136 lg_X9_224 (sz_lt (by decide)) kd_82 rfl ?_
        obtain ⟨i_139, hx_139, hi_139, h⟩ := h
        refine go_iald i_139 dX9_go_139 kd_89 hx_139 hi_139 ?_
        refine go_putI_ dX9_go_140 lp_X9_236 (sz_lt (by decide)) kd_82 rfl (fun m_140 em_140 => ?_)
        have h := h m_140 em_140
        refine gc_aload_n dX9_go_143 rfl ?_
        refine gc_aload_n dX9_go_144 rfl ?_
        refine go_getI dX9_go_145 lg_X9_221 (sz_lt (by decide)) kd_82 rfl ?_
        refine go_putI_ dX9_go_148 lp_X9_227 (sz_lt (by decide)) kd_82 rfl (fun m_148 em_148 => ?_)
        have h := h m_148 em_148
        refine gc_goto 303 dX9_go_151 (by decide) ?_
        exact go_vret dX9_go_303 rfl (Nat.le_refl _) (Nat.le_refl _) ⟨rfl, h⟩
    · have h := h.2 hc
      refine gc_aload_n dX9_go_104 rfl ?_
      refine gc_dup dX9_go_105 rfl ?_
      refine go_getI dX9_go_106 lg_X9_221 (sz_lt (by decide)) kd_82 rfl ?_
      refine gc_iconst (v := 1) dX9_go_109 (by decide) ?_
      refine gc_iadd dX9_go_110 ?_
      refine go_putI_ dX9_go_111 lp_X9_221 (sz_lt (by decide)) kd_82 rfl (fun m_111 em_111 => ?_)
      have h := h m_111 em_111
      refine gc_goto 93 dX9_go_114 (by decide) ?_
      exact ih l1 m_111  h
def B_X9_go_62  (K : Mm → Prop) (s0 : Int32) (mem : Mm) : Prop := (¬ (mem 82 11) = (mem 82 9) → (W_X9_isLetter (mem 82 11) mem (fun v_87 m_87 => ((bZ v_87) = 0 → (W_X9_isFigure (m_87 82 11) m_87 (fun v_159 m_159 => ((bZ v_159) = 0 → (∀ m_277 : Mm, m_277 = mu m_159 82 12 3 → (∃ i_289 : Nat, (m_277 82 11) = nI i_289 ∧ i_289 < 96 ∧ (∀ m_290 : Mm, m_290 = mu m_277 82 13 (m_277 89 i_289) → (∀ m_300 : Mm, m_300 = mu m_290 82 10 ((m_290 82 10) + 1) → (K m_300)))))) ∧ (¬ (bZ v_159) = 0 → (∀ m_167 : Mm, m_167 = mu m_159 82 13 0 → (∃ nz : Nat, L_X9_go_170    K nz s0 m_167)))))) ∧ (¬ (bZ v_87) = 0 → (∃ nz : Nat, L_X9_go_93    K nz s0 m_87))))) ∧ ((mem 82 11) = (mem 82 9) → (∀ m_76 : Mm, m_76 = mu mem 82 12 0 → (K m_76)))
set_option maxRecDepth 100000 in
set_option maxHeartbeats 4000000 in
theorem b_X9_go_62 (X : CX)   (K : Mm → Prop) (s0 : Int32) (mem : Mm)  (h : B_X9_go_62    K s0 mem) : GoC X 1 0 0 M_X9_go 62 [some (.ref (cx_n X + 82)), none] [.int s0] 0 0 (cellAt X mem) (sz mem) (qm X (fun r m => r = none ∧ K m)) := by
  unfold B_X9_go_62 at h
  refine gc_istore_n dX9_go_62 (by decide) ?_
  refine gc_aload_n dX9_go_63 rfl ?_
  refine go_getI dX9_go_64 lg_X9_224 (sz_lt (by decide)) kd_82 rfl ?_
  refine gc_aload_n dX9_go_67 rfl ?_
  refine go_getI dX9_go_68 lg_X9_218 (sz_lt (by decide)) kd_82 rfl ?_
  refine gc_icmp_ne 82 dX9_go_71 (by decide) (fun hc => ?_) (fun hc => ?_)
  · have h := h.1 hc
    refine gc_aload_n dX9_go_82 rfl ?_
    refine gc_aload_n dX9_go_83 rfl ?_
    refine go_getI dX9_go_84 lg_X9_224 (sz_lt (by decide)) kd_82 rfl ?_
    refine go_cVZ (y := M_X9_isLetter) (As := [.int (mem 82 11)]) (rest := []) dX9_go_87 lm_X9_233 ok_X9_isLetter (by decide) (sz_lt (by decide)) kd_82 rfl rfl (w_X9_isLetter X (mem 82 11) mem _ h) rfl (Nat.le_of_ble_eq_true rfl) (fun v_87 m_87 h => ?_)
    refine gc_if_eq 154 dX9_go_90 (by decide) (fun hc => ?_) (fun hc => ?_)
    · have h := h.1 hc
      refine gc_aload_n dX9_go_154 rfl ?_
      refine gc_aload_n dX9_go_155 rfl ?_
      refine go_getI dX9_go_156 lg_X9_224 (sz_lt (by decide)) kd_82 rfl ?_
      refine go_cVZ (y := M_X9_isFigure) (As := [.int (m_87 82 11)]) (rest := []) dX9_go_159 lm_X9_239 ok_X9_isFigure (by decide) (sz_lt (by decide)) kd_82 rfl rfl (w_X9_isFigure X (m_87 82 11) m_87 _ h) rfl (Nat.le_of_ble_eq_true rfl) (fun v_159 m_159 h => ?_)
      refine gc_if_eq 275 dX9_go_162 (by decide) (fun hc => ?_) (fun hc => ?_)
      · have h := h.1 hc
        refine gc_aload_n dX9_go_275 rfl ?_
        refine gc_iconst (v := 3) dX9_go_276 (by decide) ?_
        refine go_putI_ dX9_go_277 lp_X9_230 (sz_lt (by decide)) kd_82 rfl (fun m_277 em_277 => ?_)
        have h := h m_277 em_277
        refine gc_aload_n dX9_go_280 rfl ?_
        refine gc_aload_n dX9_go_281 rfl ?_
        refine go_getR dX9_go_282 lg_X9_28 (sz_lt (by decide)) kd_82 rfl ?_
        refine gc_aload_n dX9_go_285 rfl ?_
        refine go_getI dX9_go_286 lg_X9_224 (sz_lt (by decide)) kd_82 rfl ?_
        obtain ⟨i_289, hx_289, hi_289, h⟩ := h
        refine go_iald i_289 dX9_go_289 kd_89 hx_289 hi_289 ?_
        refine go_putI_ dX9_go_290 lp_X9_236 (sz_lt (by decide)) kd_82 rfl (fun m_290 em_290 => ?_)
        have h := h m_290 em_290
        refine gc_aload_n dX9_go_293 rfl ?_
        refine gc_dup dX9_go_294 rfl ?_
        refine go_getI dX9_go_295 lg_X9_221 (sz_lt (by decide)) kd_82 rfl ?_
        refine gc_iconst (v := 1) dX9_go_298 (by decide) ?_
        refine gc_iadd dX9_go_299 ?_
        refine go_putI_ dX9_go_300 lp_X9_221 (sz_lt (by decide)) kd_82 rfl (fun m_300 em_300 => ?_)
        have h := h m_300 em_300
        exact go_vret dX9_go_303 rfl (Nat.le_refl _) (Nat.le_refl _) ⟨rfl, h⟩
      · have h := h.2 hc
        refine gc_aload_n dX9_go_165 rfl ?_
        refine gc_iconst (v := 0) dX9_go_166 (by decide) ?_
        refine go_putI_ dX9_go_167 lp_X9_236 (sz_lt (by decide)) kd_82 rfl (fun m_167 em_167 => ?_)
        have h := h m_167 em_167
        obtain ⟨n9, h⟩ := h
        exact l_X9_go_170 X     K   n9 s0 m_167  h
    · have h := h.2 hc
      obtain ⟨n9, h⟩ := h
      exact l_X9_go_93 X     K   n9 s0 m_87  h
  · have h := h.2 hc
    refine gc_aload_n dX9_go_74 rfl ?_
    refine gc_iconst (v := 0) dX9_go_75 (by decide) ?_
    refine go_putI_ dX9_go_76 lp_X9_230 (sz_lt (by decide)) kd_82 rfl (fun m_76 em_76 => ?_)
    have h := h m_76 em_76
    refine gc_goto 303 dX9_go_79 (by decide) ?_
    exact go_vret dX9_go_303 rfl (Nat.le_refl _) (Nat.le_refl _) ⟨rfl, h⟩
def L_X9_go_0  (K : Mm → Prop) : Nat → Mm → Prop
  | 0, _ => False
  | n + 1, mem => ((mem 82 9) ≤ (mem 82 10) → (∀ m_43 : Mm, m_43 = mu mem 82 11 (mem 82 10) → ((¬ (m_43 82 11) = (m_43 82 14) → (B_X9_go_62    K 0 m_43)) ∧ ((m_43 82 11) = (m_43 82 14) → (B_X9_go_62    K 1 m_43))))) ∧ (¬ (mem 82 9) ≤ (mem 82 10) → (∃ i_19 : Nat, (mem 82 10) = nI i_19 ∧ i_19 < 96 ∧ ((¬ (mem 89 i_19) = 32 → (∀ m_43 : Mm, m_43 = mu mem 82 11 (mem 82 10) → ((¬ (m_43 82 11) = (m_43 82 14) → (B_X9_go_62    K 0 m_43)) ∧ ((m_43 82 11) = (m_43 82 14) → (B_X9_go_62    K 1 m_43))))) ∧ ((mem 89 i_19) = 32 → (∀ m_32 : Mm, m_32 = mu mem 82 10 ((mem 82 10) + 1) → (L_X9_go_0   K n  m_32))))))
set_option maxRecDepth 100000 in
set_option maxHeartbeats 4000000 in
theorem l_X9_go_0 (X : CX)   (K : Mm → Prop) : ∀ (n : Nat)  (mem : Mm), L_X9_go_0    K n  mem → GoC X 1 0 0 M_X9_go 0 [some (.ref (cx_n X + 82)), none] [] 0 0 (cellAt X mem) (sz mem) (qm X (fun r m => r = none ∧ K m))
  := by
  intro n
  induction n with
  | zero => intro mem h; exact h.elim
  | succ n ih =>
    intro mem h
    unfold L_X9_go_0 at h
    refine gc_aload_n dX9_go_0 rfl ?_
    refine go_getI dX9_go_1 lg_X9_221 (sz_lt (by decide)) kd_82 rfl ?_
    refine gc_aload_n dX9_go_4 rfl ?_
    refine go_getI dX9_go_5 lg_X9_218 (sz_lt (by decide)) kd_82 rfl ?_
    refine gc_icmp_ge 38 dX9_go_8 (by decide) (fun hc => ?_) (fun hc => ?_)
    · have h := h.1 hc
      refine gc_aload_n dX9_go_38 rfl ?_
      refine gc_aload_n dX9_go_39 rfl ?_
      refine go_getI dX9_go_40 lg_X9_221 (sz_lt (by decide)) kd_82 rfl ?_
      refine go_putI_ dX9_go_43 lp_X9_224 (sz_lt (by decide)) kd_82 rfl (fun m_43 em_43 => ?_)
      have h := h m_43 em_43
      refine gc_aload_n dX9_go_46 rfl ?_
      refine go_getI dX9_go_47 lg_X9_224 (sz_lt (by decide)) kd_82 rfl ?_
      refine gc_aload_n dX9_go_50 rfl ?_
      refine go_getI dX9_go_51 lg_X9_227 (sz_lt (by decide)) kd_82 rfl ?_
      refine gc_icmp_ne 61 dX9_go_54 (by decide) (fun hc => ?_) (fun hc => ?_)
      · have h := h.1 hc
        refine gc_iconst (v := 0) dX9_go_61 (by decide) ?_
        exact b_X9_go_62 X     K   0 m_43  h
      · have h := h.2 hc
        refine gc_iconst (v := 1) dX9_go_57 (by decide) ?_
        refine gc_goto 62 dX9_go_58 (by decide) ?_
        exact b_X9_go_62 X     K   1 m_43  h
    · have h := h.2 hc
      refine gc_aload_n dX9_go_11 rfl ?_
      refine go_getR dX9_go_12 lg_X9_28 (sz_lt (by decide)) kd_82 rfl ?_
      refine gc_aload_n dX9_go_15 rfl ?_
      refine go_getI dX9_go_16 lg_X9_221 (sz_lt (by decide)) kd_82 rfl ?_
      obtain ⟨i_19, hx_19, hi_19, h⟩ := h
      refine go_iald i_19 dX9_go_19 kd_89 hx_19 hi_19 ?_
      refine gc_bipush (v := 32) dX9_go_20 (by decide) ?_
      refine gc_icmp_ne 38 dX9_go_22 (by decide) (fun hc => ?_) (fun hc => ?_)
      · have h := h.1 hc
        refine gc_aload_n dX9_go_38 rfl ?_
        refine gc_aload_n dX9_go_39 rfl ?_
        refine go_getI dX9_go_40 lg_X9_221 (sz_lt (by decide)) kd_82 rfl ?_
        refine go_putI_ dX9_go_43 lp_X9_224 (sz_lt (by decide)) kd_82 rfl (fun m_43 em_43 => ?_)
        have h := h m_43 em_43
        refine gc_aload_n dX9_go_46 rfl ?_
        refine go_getI dX9_go_47 lg_X9_224 (sz_lt (by decide)) kd_82 rfl ?_
        refine gc_aload_n dX9_go_50 rfl ?_
        refine go_getI dX9_go_51 lg_X9_227 (sz_lt (by decide)) kd_82 rfl ?_
        refine gc_icmp_ne 61 dX9_go_54 (by decide) (fun hc => ?_) (fun hc => ?_)
        · have h := h.1 hc
          refine gc_iconst (v := 0) dX9_go_61 (by decide) ?_
          exact b_X9_go_62 X     K   0 m_43  h
        · have h := h.2 hc
          refine gc_iconst (v := 1) dX9_go_57 (by decide) ?_
          refine gc_goto 62 dX9_go_58 (by decide) ?_
          exact b_X9_go_62 X     K   1 m_43  h
      · have h := h.2 hc
        refine gc_aload_n dX9_go_25 rfl ?_
        refine gc_dup dX9_go_26 rfl ?_
        refine go_getI dX9_go_27 lg_X9_221 (sz_lt (by decide)) kd_82 rfl ?_
        refine gc_iconst (v := 1) dX9_go_30 (by decide) ?_
        refine gc_iadd dX9_go_31 ?_
        refine go_putI_ dX9_go_32 lp_X9_221 (sz_lt (by decide)) kd_82 rfl (fun m_32 em_32 => ?_)
        have h := h m_32 em_32
        refine gc_goto 0 dX9_go_35 (by decide) ?_
        exact ih  m_32  h
def W_X9_go  (mem : Mm) (K : Mm → Prop) : Prop := ∃ nz : Nat, L_X9_go_0    K nz  mem
set_option maxRecDepth 100000 in
set_option maxHeartbeats 4000000 in
theorem w_X9_go (X : CX)  (mem : Mm) (K : Mm → Prop) (h : W_X9_go  mem K) : CallsU X 1 M_X9_go [.ref (cx_n X + 82)] mem K := by
  unfold W_X9_go at h
  refine CallsC.ofP 1 (by decide) rfl (Nat.le_of_ble_eq_true rfl) ?_
  obtain ⟨n9, h⟩ := h
  exact l_X9_go_0 X     K   n9  mem  h
