def W_X9_isSlot (p0 : Int32) (mem : Mm) (K : Bool → Mm → Prop) : Prop := W_X9_in p0 0 4 mem (fun v_3 m_3 => K v_3 m_3)
set_option maxRecDepth 100000 in
set_option maxHeartbeats 4000000 in
theorem w_X9_isSlot (X : CX) (p0 : Int32) (mem : Mm) (K : Bool → Mm → Prop) (h : W_X9_isSlot p0 mem K) : CallsZ X 1 M_X9_isSlot [.int p0] mem K := by
  unfold W_X9_isSlot at h
  refine CallsC.ofP 0 (by decide) rfl (Nat.le_of_ble_eq_true rfl) ?_
  refine gc_iload_n dX9_isSlot_0 rfl ?_
  refine gc_iconst (v := 0) dX9_isSlot_1 (by decide) ?_
  refine gc_iconst (v := 4) dX9_isSlot_2 (by decide) ?_
  refine go_cSZ (y := M_X9_in) (As := [.int p0, .int 0, .int 4]) (rest := []) dX9_isSlot_3 lm_X9_81 ok_X9_in (by decide) (w_X9_in X p0 0 4 mem _ h) rfl (Nat.le_of_ble_eq_true rfl) (fun v_3 m_3 h => ?_)
  exact go_zret dX9_isSlot_6 rfl (bZ_01 _) (Nat.le_refl _) (Nat.le_refl _) ⟨_, rfl, h⟩
def L_X9_lay_134 (p0 : Int32) (p1 : Int32) (p2 : Int32) (K : Int32 → Mm → Prop) : Nat → Int32 → Int32 → Int32 → Int32 → Int32 → Mm → Prop
  | 0, _, _, _, _, _, _ => False
  | n + 1, l1, l2, l3, l4, l5, mem => (24 ≤ l5 → (K l4 mem)) ∧ (¬ 24 ≤ l5 → ((¬ l2 = 2 → (K l4 mem)) ∧ (l2 = 2 → (∃ i_168 : Nat, ((24 * l3) + l5) = nI i_168 ∧ i_168 < 96 ∧ (∃ i_169 : Nat, ((24 * l1) + l5) = nI i_169 ∧ i_169 < 120 ∧ (∀ m_169 : Mm, m_169 = mu mem 103 i_169 (mem 99 i_168) → (L_X9_lay_134 p0 p1 p2  K n l1 l2 l3 l4 (l5 + 1) m_169)))))))
set_option maxRecDepth 100000 in
set_option maxHeartbeats 4000000 in
theorem l_X9_lay_134 (X : CX) (p0 : Int32) (p1 : Int32) (p2 : Int32)  (K : Int32 → Mm → Prop) : ∀ (n : Nat) (l1 : Int32) (l2 : Int32) (l3 : Int32) (l4 : Int32) (l5 : Int32) (mem : Mm), L_X9_lay_134 p0 p1 p2   K n l1 l2 l3 l4 l5 mem → GoC X 2 0 0 M_X9_lay 134 [some (.ref (cx_n X + 82)), some (.int l1), some (.int l2), some (.int l3), some (.int l4), some (.int l5)] [] 0 0 (cellAt X mem) (sz mem) (qm X (fun r m => ∃ v : Int32, r = some (.int v) ∧ K v m))
  := by
  intro n
  induction n with
  | zero => intro l1 l2 l3 l4 l5 mem h; exact h.elim
  | succ n ih =>
    intro l1 l2 l3 l4 l5 mem h
    unfold L_X9_lay_134 at h
    refine gc_iload dX9_lay_134 rfl ?_
    refine gc_bipush (v := 24) dX9_lay_136 (by decide) ?_
    refine gc_icmp_ge 176 dX9_lay_138 (by decide) (fun hc => ?_) (fun hc => ?_)
    · have h := h.1 hc
      refine gc_iload dX9_lay_176 rfl ?_
      exact go_iret dX9_lay_178 rfl (Nat.le_refl _) (Nat.le_refl _) ⟨_, rfl, h⟩
    · have h := h.2 hc
      refine gc_iload_n dX9_lay_141 rfl ?_
      refine gc_iconst (v := 2) dX9_lay_142 (by decide) ?_
      refine gc_icmp_ne 176 dX9_lay_143 (by decide) (fun hc => ?_) (fun hc => ?_)
      · have h := h.1 hc
        refine gc_iload dX9_lay_176 rfl ?_
        exact go_iret dX9_lay_178 rfl (Nat.le_refl _) (Nat.le_refl _) ⟨_, rfl, h⟩
      · have h := h.2 hc
        refine gc_aload_n dX9_lay_146 rfl ?_
        refine go_getR dX9_lay_147 lg_X9_72 (sz_lt (by decide)) kd_82 rfl ?_
        refine gc_bipush (v := 24) dX9_lay_150 (by decide) ?_
        refine gc_iload_n dX9_lay_152 rfl ?_
        refine gc_imul dX9_lay_153 ?_
        refine gc_iload dX9_lay_154 rfl ?_
        refine gc_iadd dX9_lay_156 ?_
        refine gc_aload_n dX9_lay_157 rfl ?_
        refine go_getR dX9_lay_158 lg_X9_60 (sz_lt (by decide)) kd_82 rfl ?_
        refine gc_bipush (v := 24) dX9_lay_161 (by decide) ?_
        refine gc_iload_n dX9_lay_163 rfl ?_
        refine gc_imul dX9_lay_164 ?_
        refine gc_iload dX9_lay_165 rfl ?_
        refine gc_iadd dX9_lay_167 ?_
        obtain ⟨i_168, hx_168, hi_168, h⟩ := h
        refine go_iald i_168 dX9_lay_168 kd_99 hx_168 hi_168 ?_
        obtain ⟨i_169, hx_169, hi_169, h⟩ := h
        refine go_iast_ i_169 dX9_lay_169 kd_103 hx_169 hi_169 (by decide) (fun m_169 em_169 => ?_)
        have h := h m_169 em_169
        refine gc_iinc (v := l5 + 1) dX9_lay_170 rfl rfl (by decide) ?_
        refine gc_goto 134 dX9_lay_173 (by decide) ?_
        exact ih l1 l2 l3 l4 (l5 + 1) m_169  h
def B_X9_lay_110 (p0 : Int32) (p1 : Int32) (p2 : Int32) (K : Int32 → Mm → Prop) (l1 : Int32) (l2 : Int32) (l3 : Int32) (l4 : Int32) (s0 : Int32) (s1 : Int32) (mem : Mm) : Prop := ∃ i_110 : Nat, s1 = nI i_110 ∧ i_110 < 5 ∧ (∀ m_110 : Mm, m_110 = mu mem 101 i_110 s0 → ((¬ l2 = 1 → (∃ i_130 : Nat, l1 = nI i_130 ∧ i_130 < 5 ∧ (∀ m_130 : Mm, m_130 = mu m_110 102 i_130 0 → (∃ nz : Nat, L_X9_lay_134 p0 p1 p2   K nz l1 l2 l3 l4 0 m_130)))) ∧ (l2 = 1 → (W_X9_worthOf l3 m_110 (fun v_123 m_123 => ∃ i_130 : Nat, l1 = nI i_130 ∧ i_130 < 5 ∧ (∀ m_130 : Mm, m_130 = mu m_123 102 i_130 v_123 → (∃ nz : Nat, L_X9_lay_134 p0 p1 p2   K nz l1 l2 l3 l4 0 m_130)))))))
set_option maxRecDepth 100000 in
set_option maxHeartbeats 4000000 in
theorem b_X9_lay_110 (X : CX) (p0 : Int32) (p1 : Int32) (p2 : Int32)  (K : Int32 → Mm → Prop) (l1 : Int32) (l2 : Int32) (l3 : Int32) (l4 : Int32) (s0 : Int32) (s1 : Int32) (mem : Mm)  (h : B_X9_lay_110 p0 p1 p2   K l1 l2 l3 l4 s0 s1 mem) : GoC X 2 0 0 M_X9_lay 110 [some (.ref (cx_n X + 82)), some (.int l1), some (.int l2), some (.int l3), some (.int l4), none] [.int s0, .int s1, .ref (cx_n X + 101)] 0 0 (cellAt X mem) (sz mem) (qm X (fun r m => ∃ v : Int32, r = some (.int v) ∧ K v m)) := by
  unfold B_X9_lay_110 at h
  obtain ⟨i_110, hx_110, hi_110, h⟩ := h
  refine go_iast_ i_110 dX9_lay_110 kd_101 hx_110 hi_110 (by decide) (fun m_110 em_110 => ?_)
  have h := h m_110 em_110
  refine gc_aload_n dX9_lay_111 rfl ?_
  refine go_getR dX9_lay_112 lg_X9_69 (sz_lt (by decide)) kd_82 rfl ?_
  refine gc_iload_n dX9_lay_115 rfl ?_
  refine gc_iload_n dX9_lay_116 rfl ?_
  refine gc_iconst (v := 1) dX9_lay_117 (by decide) ?_
  refine gc_icmp_ne 129 dX9_lay_118 (by decide) (fun hc => ?_) (fun hc => ?_)
  · have h := h.1 hc
    refine gc_iconst (v := 0) dX9_lay_129 (by decide) ?_
    obtain ⟨i_130, hx_130, hi_130, h⟩ := h
    refine go_iast_ i_130 dX9_lay_130 kd_102 hx_130 hi_130 (by decide) (fun m_130 em_130 => ?_)
    have h := h m_130 em_130
    refine gc_iconst (v := 0) dX9_lay_131 (by decide) ?_
    refine gc_istore dX9_lay_132 (by decide) ?_
    obtain ⟨n9, h⟩ := h
    exact l_X9_lay_134 X p0 p1 p2    K   n9 l1 l2 l3 l4 0 m_130  h
  · have h := h.2 hc
    refine gc_aload_n dX9_lay_121 rfl ?_
    refine gc_iload_n dX9_lay_122 rfl ?_
    refine go_cVI (y := M_X9_worthOf) (As := [.int l3]) (rest := [.int l1, .ref (cx_n X + 102)]) dX9_lay_123 lm_X9_130 ok_X9_worthOf (by decide) (sz_lt (by decide)) kd_82 rfl rfl (w_X9_worthOf X l3 m_110 _ h) rfl (Nat.le_of_ble_eq_true rfl) (fun v_123 m_123 h => ?_)
    refine gc_goto 130 dX9_lay_126 (by decide) ?_
    obtain ⟨i_130, hx_130, hi_130, h⟩ := h
    refine go_iast_ i_130 dX9_lay_130 kd_102 hx_130 hi_130 (by decide) (fun m_130 em_130 => ?_)
    have h := h m_130 em_130
    refine gc_iconst (v := 0) dX9_lay_131 (by decide) ?_
    refine gc_istore dX9_lay_132 (by decide) ?_
    obtain ⟨n9, h⟩ := h
    exact l_X9_lay_134 X p0 p1 p2    K   n9 l1 l2 l3 l4 0 m_130  h
def B_X9_lay_61 (p0 : Int32) (p1 : Int32) (p2 : Int32) (K : Int32 → Mm → Prop) (l1 : Int32) (l2 : Int32) (l3 : Int32) (mem : Mm) : Prop := ∃ i_66 : Nat, l1 = nI i_66 ∧ i_66 < 5 ∧ (∃ i_75 : Nat, l1 = nI i_75 ∧ i_75 < 5 ∧ (∀ m_75 : Mm, m_75 = mu mem 100 i_75 l2 → ((¬ l2 = 1 → ((¬ l2 = 2 → (B_X9_lay_110 p0 p1 p2   K l1 l2 l3 (mem 100 i_66) l3 l1 m_75)) ∧ (l2 = 2 → (∃ i_105 : Nat, l3 = nI i_105 ∧ i_105 < 4 ∧ (B_X9_lay_110 p0 p1 p2   K l1 l2 l3 (mem 100 i_66) (m_75 98 i_105) l1 m_75))))) ∧ (l2 = 1 → (W_X9_of l3 0 m_75 (fun v_89 m_89 => B_X9_lay_110 p0 p1 p2   K l1 l2 l3 (mem 100 i_66) v_89 l1 m_89))))))
set_option maxRecDepth 100000 in
set_option maxHeartbeats 4000000 in
theorem b_X9_lay_61 (X : CX) (p0 : Int32) (p1 : Int32) (p2 : Int32)  (K : Int32 → Mm → Prop) (l1 : Int32) (l2 : Int32) (l3 : Int32) (mem : Mm)  (h : B_X9_lay_61 p0 p1 p2   K l1 l2 l3 mem) : GoC X 2 0 0 M_X9_lay 61 [some (.ref (cx_n X + 82)), some (.int l1), some (.int l2), some (.int l3), none, none] [] 0 0 (cellAt X mem) (sz mem) (qm X (fun r m => ∃ v : Int32, r = some (.int v) ∧ K v m)) := by
  unfold B_X9_lay_61 at h
  refine gc_aload_n dX9_lay_61 rfl ?_
  refine go_getR dX9_lay_62 lg_X9_63 (sz_lt (by decide)) kd_82 rfl ?_
  refine gc_iload_n dX9_lay_65 rfl ?_
  obtain ⟨i_66, hx_66, hi_66, h⟩ := h
  refine go_iald i_66 dX9_lay_66 kd_100 hx_66 hi_66 ?_
  refine gc_istore dX9_lay_67 (by decide) ?_
  refine gc_aload_n dX9_lay_69 rfl ?_
  refine go_getR dX9_lay_70 lg_X9_63 (sz_lt (by decide)) kd_82 rfl ?_
  refine gc_iload_n dX9_lay_73 rfl ?_
  refine gc_iload_n dX9_lay_74 rfl ?_
  obtain ⟨i_75, hx_75, hi_75, h⟩ := h
  refine go_iast_ i_75 dX9_lay_75 kd_100 hx_75 hi_75 (by decide) (fun m_75 em_75 => ?_)
  have h := h m_75 em_75
  refine gc_aload_n dX9_lay_76 rfl ?_
  refine go_getR dX9_lay_77 lg_X9_66 (sz_lt (by decide)) kd_82 rfl ?_
  refine gc_iload_n dX9_lay_80 rfl ?_
  refine gc_iload_n dX9_lay_81 rfl ?_
  refine gc_iconst (v := 1) dX9_lay_82 (by decide) ?_
  refine gc_icmp_ne 95 dX9_lay_83 (by decide) (fun hc => ?_) (fun hc => ?_)
  · have h := h.1 hc
    refine gc_iload_n dX9_lay_95 rfl ?_
    refine gc_iconst (v := 2) dX9_lay_96 (by decide) ?_
    refine gc_icmp_ne 109 dX9_lay_97 (by decide) (fun hc => ?_) (fun hc => ?_)
    · have h := h.1 hc
      refine gc_iload_n dX9_lay_109 rfl ?_
      exact b_X9_lay_110 X p0 p1 p2    K   l1 l2 l3 (mem 100 i_66) l3 l1 m_75  h
    · have h := h.2 hc
      refine gc_aload_n dX9_lay_100 rfl ?_
      refine go_getR dX9_lay_101 lg_X9_57 (sz_lt (by decide)) kd_82 rfl ?_
      refine gc_iload_n dX9_lay_104 rfl ?_
      obtain ⟨i_105, hx_105, hi_105, h⟩ := h
      refine go_iald i_105 dX9_lay_105 kd_98 hx_105 hi_105 ?_
      refine gc_goto 110 dX9_lay_106 (by decide) ?_
      exact b_X9_lay_110 X p0 p1 p2    K   l1 l2 l3 (mem 100 i_66) (m_75 98 i_105) l1 m_75  h
  · have h := h.2 hc
    refine gc_aload_n dX9_lay_86 rfl ?_
    refine gc_iload_n dX9_lay_87 rfl ?_
    refine gc_iconst (v := 0) dX9_lay_88 (by decide) ?_
    refine go_cVI (y := M_X9_of) (As := [.int l3, .int 0]) (rest := [.int l1, .ref (cx_n X + 101)]) dX9_lay_89 lm_X9_89 ok_X9_of (by decide) (sz_lt (by decide)) kd_82 rfl rfl (w_X9_of X l3 0 m_75 _ h) rfl (Nat.le_of_ble_eq_true rfl) (fun v_89 m_89 h => ?_)
    refine gc_goto 110 dX9_lay_92 (by decide) ?_
    exact b_X9_lay_110 X p0 p1 p2    K   l1 l2 l3 (mem 100 i_66) v_89 l1 m_89  h
def B_X9_lay_29 (p0 : Int32) (p1 : Int32) (p2 : Int32) (K : Int32 → Mm → Prop) (l1 : Int32) (l2 : Int32) (l3 : Int32) (mem : Mm) : Prop := (¬ l2 = 2 → ((¬ l2 = 2 → (B_X9_lay_61 p0 p1 p2   K l1 l2 l3 mem)) ∧ (l2 = 2 → (∃ i_54 : Nat, l3 = nI i_54 ∧ i_54 < 4 ∧ ((0 ≤ (mem 97 i_54) → (B_X9_lay_61 p0 p1 p2   K l1 l2 l3 mem)) ∧ (¬ 0 ≤ (mem 97 i_54) → (K (-1000000011) mem))))))) ∧ (l2 = 2 → (W_X9_isSheet l3 mem (fun v_35 m_35 => (¬ (bZ v_35) = 0 → ((¬ l2 = 2 → (B_X9_lay_61 p0 p1 p2   K l1 l2 l3 m_35)) ∧ (l2 = 2 → (∃ i_54 : Nat, l3 = nI i_54 ∧ i_54 < 4 ∧ ((0 ≤ (m_35 97 i_54) → (B_X9_lay_61 p0 p1 p2   K l1 l2 l3 m_35)) ∧ (¬ 0 ≤ (m_35 97 i_54) → (K (-1000000011) m_35))))))) ∧ ((bZ v_35) = 0 → (K (-1000000001) m_35)))))
set_option maxRecDepth 100000 in
set_option maxHeartbeats 4000000 in
theorem b_X9_lay_29 (X : CX) (p0 : Int32) (p1 : Int32) (p2 : Int32)  (K : Int32 → Mm → Prop) (l1 : Int32) (l2 : Int32) (l3 : Int32) (mem : Mm)  (h : B_X9_lay_29 p0 p1 p2   K l1 l2 l3 mem) : GoC X 2 0 0 M_X9_lay 29 [some (.ref (cx_n X + 82)), some (.int l1), some (.int l2), some (.int l3), none, none] [] 0 0 (cellAt X mem) (sz mem) (qm X (fun r m => ∃ v : Int32, r = some (.int v) ∧ K v m)) := by
  unfold B_X9_lay_29 at h
  refine gc_iload_n dX9_lay_29 rfl ?_
  refine gc_iconst (v := 2) dX9_lay_30 (by decide) ?_
  refine gc_icmp_ne 44 dX9_lay_31 (by decide) (fun hc => ?_) (fun hc => ?_)
  · have h := h.1 hc
    refine gc_iload_n dX9_lay_44 rfl ?_
    refine gc_iconst (v := 2) dX9_lay_45 (by decide) ?_
    refine gc_icmp_ne 61 dX9_lay_46 (by decide) (fun hc => ?_) (fun hc => ?_)
    · have h := h.1 hc
      exact b_X9_lay_61 X p0 p1 p2    K   l1 l2 l3 mem  h
    · have h := h.2 hc
      refine gc_aload_n dX9_lay_49 rfl ?_
      refine go_getR dX9_lay_50 lg_X9_54 (sz_lt (by decide)) kd_82 rfl ?_
      refine gc_iload_n dX9_lay_53 rfl ?_
      obtain ⟨i_54, hx_54, hi_54, h⟩ := h
      refine go_iald i_54 dX9_lay_54 kd_97 hx_54 hi_54 ?_
      refine gc_if_ge 61 dX9_lay_55 (by decide) (fun hc => ?_) (fun hc => ?_)
      · have h := h.1 hc
        exact b_X9_lay_61 X p0 p1 p2    K   l1 l2 l3 mem  h
      · have h := h.2 hc
        refine gc_ldc (v := (-1000000011)) dX9_lay_58 lk_X9_214 ?_
        exact go_iret dX9_lay_60 rfl (Nat.le_refl _) (Nat.le_refl _) ⟨_, rfl, h⟩
  · have h := h.2 hc
    refine gc_iload_n dX9_lay_34 rfl ?_
    refine go_cSZ (y := M_X9_isSheet) (As := [.int l3]) (rest := []) dX9_lay_35 lm_X9_211 ok_X9_isSheet (by decide) (w_X9_isSheet X l3 mem _ h) rfl (Nat.le_of_ble_eq_true rfl) (fun v_35 m_35 h => ?_)
    refine gc_if_ne 44 dX9_lay_38 (by decide) (fun hc => ?_) (fun hc => ?_)
    · have h := h.1 hc
      refine gc_iload_n dX9_lay_44 rfl ?_
      refine gc_iconst (v := 2) dX9_lay_45 (by decide) ?_
      refine gc_icmp_ne 61 dX9_lay_46 (by decide) (fun hc => ?_) (fun hc => ?_)
      · have h := h.1 hc
        exact b_X9_lay_61 X p0 p1 p2    K   l1 l2 l3 m_35  h
      · have h := h.2 hc
        refine gc_aload_n dX9_lay_49 rfl ?_
        refine go_getR dX9_lay_50 lg_X9_54 (sz_lt (by decide)) kd_82 rfl ?_
        refine gc_iload_n dX9_lay_53 rfl ?_
        obtain ⟨i_54, hx_54, hi_54, h⟩ := h
        refine go_iald i_54 dX9_lay_54 kd_97 hx_54 hi_54 ?_
        refine gc_if_ge 61 dX9_lay_55 (by decide) (fun hc => ?_) (fun hc => ?_)
        · have h := h.1 hc
          exact b_X9_lay_61 X p0 p1 p2    K   l1 l2 l3 m_35  h
        · have h := h.2 hc
          refine gc_ldc (v := (-1000000011)) dX9_lay_58 lk_X9_214 ?_
          exact go_iret dX9_lay_60 rfl (Nat.le_refl _) (Nat.le_refl _) ⟨_, rfl, h⟩
    · have h := h.2 hc
      refine gc_ldc (v := (-1000000001)) dX9_lay_41 lk_X9_121 ?_
      exact go_iret dX9_lay_43 rfl (Nat.le_refl _) (Nat.le_refl _) ⟨_, rfl, h⟩
def W_X9_lay (p0 : Int32) (p1 : Int32) (p2 : Int32) (mem : Mm) (K : Int32 → Mm → Prop) : Prop := W_X9_isSlot p0 mem (fun v_1 m_1 => ((bZ v_1) = 0 → (K (-1000000001) m_1)) ∧ (¬ (bZ v_1) = 0 → (W_X9_in p1 0 3 m_1 (fun v_10 m_10 => ((bZ v_10) = 0 → (K (-1000000001) m_10)) ∧ (¬ (bZ v_10) = 0 → ((¬ p1 = 1 → (B_X9_lay_29 p0 p1 p2   K p0 p1 p2 m_10)) ∧ (p1 = 1 → (W_X9_isMan p2 m_10 (fun v_23 m_23 => ((bZ v_23) = 0 → (K (-1000000001) m_23)) ∧ (¬ (bZ v_23) = 0 → (B_X9_lay_29 p0 p1 p2   K p0 p1 p2 m_23)))))))))))
set_option maxRecDepth 100000 in
set_option maxHeartbeats 4000000 in
theorem w_X9_lay (X : CX) (p0 : Int32) (p1 : Int32) (p2 : Int32) (mem : Mm) (K : Int32 → Mm → Prop) (h : W_X9_lay p0 p1 p2 mem K) : CallsI X 2 M_X9_lay [.ref (cx_n X + 82), .int p0, .int p1, .int p2] mem K := by
  unfold W_X9_lay at h
  refine CallsC.ofP 2 (by decide) rfl (Nat.le_of_ble_eq_true rfl) ?_
  refine gc_iload_n dX9_lay_0 rfl ?_
  refine go_cSZ (y := M_X9_isSlot) (As := [.int p0]) (rest := []) dX9_lay_1 lm_X9_289 ok_X9_isSlot (by decide) (w_X9_isSlot X p0 mem _ h) rfl (Nat.le_of_ble_eq_true rfl) (fun v_1 m_1 h => ?_)
  refine gc_if_eq 41 dX9_lay_4 (by decide) (fun hc => ?_) (fun hc => ?_)
  · have h := h.1 hc
    refine gc_ldc (v := (-1000000001)) dX9_lay_41 lk_X9_121 ?_
    exact go_iret dX9_lay_43 rfl (Nat.le_refl _) (Nat.le_refl _) ⟨_, rfl, h⟩
  · have h := h.2 hc
    refine gc_iload_n dX9_lay_7 rfl ?_
    refine gc_iconst (v := 0) dX9_lay_8 (by decide) ?_
    refine gc_iconst (v := 3) dX9_lay_9 (by decide) ?_
    refine go_cSZ (y := M_X9_in) (As := [.int p1, .int 0, .int 3]) (rest := []) dX9_lay_10 lm_X9_81 ok_X9_in (by decide) (w_X9_in X p1 0 3 m_1 _ h) rfl (Nat.le_of_ble_eq_true rfl) (fun v_10 m_10 h => ?_)
    refine gc_if_eq 41 dX9_lay_13 (by decide) (fun hc => ?_) (fun hc => ?_)
    · have h := h.1 hc
      refine gc_ldc (v := (-1000000001)) dX9_lay_41 lk_X9_121 ?_
      exact go_iret dX9_lay_43 rfl (Nat.le_refl _) (Nat.le_refl _) ⟨_, rfl, h⟩
    · have h := h.2 hc
      refine gc_iload_n dX9_lay_16 rfl ?_
      refine gc_iconst (v := 1) dX9_lay_17 (by decide) ?_
      refine gc_icmp_ne 29 dX9_lay_18 (by decide) (fun hc => ?_) (fun hc => ?_)
      · have h := h.1 hc
        exact b_X9_lay_29 X p0 p1 p2    K   p0 p1 p2 m_10  h
      · have h := h.2 hc
        refine gc_aload_n dX9_lay_21 rfl ?_
        refine gc_iload_n dX9_lay_22 rfl ?_
        refine go_cVZ (y := M_X9_isMan) (As := [.int p2]) (rest := []) dX9_lay_23 lm_X9_85 ok_X9_isMan (by decide) (sz_lt (by decide)) kd_82 rfl rfl (w_X9_isMan X p2 m_10 _ h) rfl (Nat.le_of_ble_eq_true rfl) (fun v_23 m_23 h => ?_)
        refine gc_if_eq 41 dX9_lay_26 (by decide) (fun hc => ?_) (fun hc => ?_)
        · have h := h.1 hc
          refine gc_ldc (v := (-1000000001)) dX9_lay_41 lk_X9_121 ?_
          exact go_iret dX9_lay_43 rfl (Nat.le_refl _) (Nat.le_refl _) ⟨_, rfl, h⟩
        · have h := h.2 hc
          exact b_X9_lay_29 X p0 p1 p2    K   p0 p1 p2 m_23  h
def W_X9_ask (p0 : Int32) (p1 : Int32) (mem : Mm) (K : Int32 → Mm → Prop) : Prop := W_X9_isSlot p0 mem (fun v_1 m_1 => ((bZ v_1) = 0 → (K (-1000000001) m_1)) ∧ (¬ (bZ v_1) = 0 → (W_X9_in p1 0 5 m_1 (fun v_10 m_10 => (¬ (bZ v_10) = 0 → (∃ i_24 : Nat, p0 = nI i_24 ∧ i_24 < 5 ∧ ((¬ (m_10 100 i_24) = 0 → (∃ i_36 : Nat, p0 = nI i_36 ∧ i_36 < 5 ∧ ((¬ (m_10 100 i_36) = 1 → (K (-1000000012) m_10)) ∧ ((m_10 100 i_36) = 1 → (∃ i_46 : Nat, p0 = nI i_46 ∧ i_46 < 5 ∧ (W_X9_isUnder (m_10 101 i_46) p1 m_10 (fun v_48 m_48 => ((bZ v_48) = 0 → (K (-1000000012) m_48)) ∧ (¬ (bZ v_48) = 0 → (∃ i_59 : Nat, p0 = nI i_59 ∧ i_59 < 5 ∧ (K (m_48 102 i_59) m_48)))))))))) ∧ ((m_10 100 i_24) = 0 → (K (-1000000011) m_10))))) ∧ ((bZ v_10) = 0 → (K (-1000000001) m_10))))))
set_option maxRecDepth 100000 in
set_option maxHeartbeats 4000000 in
theorem w_X9_ask (X : CX) (p0 : Int32) (p1 : Int32) (mem : Mm) (K : Int32 → Mm → Prop) (h : W_X9_ask p0 p1 mem K) : CallsI X 2 M_X9_ask [.ref (cx_n X + 82), .int p0, .int p1] mem K := by
  unfold W_X9_ask at h
  refine CallsC.ofP 0 (by decide) rfl (Nat.le_of_ble_eq_true rfl) ?_
  refine gc_iload_n dX9_ask_0 rfl ?_
  refine go_cSZ (y := M_X9_isSlot) (As := [.int p0]) (rest := []) dX9_ask_1 lm_X9_289 ok_X9_isSlot (by decide) (w_X9_isSlot X p0 mem _ h) rfl (Nat.le_of_ble_eq_true rfl) (fun v_1 m_1 h => ?_)
  refine gc_if_eq 16 dX9_ask_4 (by decide) (fun hc => ?_) (fun hc => ?_)
  · have h := h.1 hc
    refine gc_ldc (v := (-1000000001)) dX9_ask_16 lk_X9_121 ?_
    exact go_iret dX9_ask_18 rfl (Nat.le_refl _) (Nat.le_refl _) ⟨_, rfl, h⟩
  · have h := h.2 hc
    refine gc_iload_n dX9_ask_7 rfl ?_
    refine gc_iconst (v := 0) dX9_ask_8 (by decide) ?_
    refine gc_iconst (v := 5) dX9_ask_9 (by decide) ?_
    refine go_cSZ (y := M_X9_in) (As := [.int p1, .int 0, .int 5]) (rest := []) dX9_ask_10 lm_X9_81 ok_X9_in (by decide) (w_X9_in X p1 0 5 m_1 _ h) rfl (Nat.le_of_ble_eq_true rfl) (fun v_10 m_10 h => ?_)
    refine gc_if_ne 19 dX9_ask_13 (by decide) (fun hc => ?_) (fun hc => ?_)
    · have h := h.1 hc
      refine gc_aload_n dX9_ask_19 rfl ?_
      refine go_getR dX9_ask_20 lg_X9_63 (sz_lt (by decide)) kd_82 rfl ?_
      refine gc_iload_n dX9_ask_23 rfl ?_
      obtain ⟨i_24, hx_24, hi_24, h⟩ := h
      refine go_iald i_24 dX9_ask_24 kd_100 hx_24 hi_24 ?_
      refine gc_if_ne 31 dX9_ask_25 (by decide) (fun hc => ?_) (fun hc => ?_)
      · have h := h.1 hc
        refine gc_aload_n dX9_ask_31 rfl ?_
        refine go_getR dX9_ask_32 lg_X9_63 (sz_lt (by decide)) kd_82 rfl ?_
        refine gc_iload_n dX9_ask_35 rfl ?_
        obtain ⟨i_36, hx_36, hi_36, h⟩ := h
        refine go_iald i_36 dX9_ask_36 kd_100 hx_36 hi_36 ?_
        refine gc_iconst (v := 1) dX9_ask_37 (by decide) ?_
        refine gc_icmp_ne 63 dX9_ask_38 (by decide) (fun hc => ?_) (fun hc => ?_)
        · have h := h.1 hc
          refine gc_ldc (v := (-1000000012)) dX9_ask_63 lk_X9_140 ?_
          exact go_iret dX9_ask_65 rfl (Nat.le_refl _) (Nat.le_refl _) ⟨_, rfl, h⟩
        · have h := h.2 hc
          refine gc_aload_n dX9_ask_41 rfl ?_
          refine go_getR dX9_ask_42 lg_X9_66 (sz_lt (by decide)) kd_82 rfl ?_
          refine gc_iload_n dX9_ask_45 rfl ?_
          obtain ⟨i_46, hx_46, hi_46, h⟩ := h
          refine go_iald i_46 dX9_ask_46 kd_101 hx_46 hi_46 ?_
          refine gc_iload_n dX9_ask_47 rfl ?_
          refine go_cSZ (y := M_X9_isUnder) (As := [.int (m_10 101 i_46), .int p1]) (rest := []) dX9_ask_48 lm_X9_136 ok_X9_isUnder (by decide) (w_X9_isUnder X (m_10 101 i_46) p1 m_10 _ h) rfl (Nat.le_of_ble_eq_true rfl) (fun v_48 m_48 h => ?_)
          refine gc_if_eq 63 dX9_ask_51 (by decide) (fun hc => ?_) (fun hc => ?_)
          · have h := h.1 hc
            refine gc_ldc (v := (-1000000012)) dX9_ask_63 lk_X9_140 ?_
            exact go_iret dX9_ask_65 rfl (Nat.le_refl _) (Nat.le_refl _) ⟨_, rfl, h⟩
          · have h := h.2 hc
            refine gc_aload_n dX9_ask_54 rfl ?_
            refine go_getR dX9_ask_55 lg_X9_69 (sz_lt (by decide)) kd_82 rfl ?_
            refine gc_iload_n dX9_ask_58 rfl ?_
            obtain ⟨i_59, hx_59, hi_59, h⟩ := h
            refine go_iald i_59 dX9_ask_59 kd_102 hx_59 hi_59 ?_
            refine gc_goto 65 dX9_ask_60 (by decide) ?_
            exact go_iret dX9_ask_65 rfl (Nat.le_refl _) (Nat.le_refl _) ⟨_, rfl, h⟩
      · have h := h.2 hc
        refine gc_ldc (v := (-1000000011)) dX9_ask_28 lk_X9_214 ?_
        exact go_iret dX9_ask_30 rfl (Nat.le_refl _) (Nat.le_refl _) ⟨_, rfl, h⟩
    · have h := h.2 hc
      refine gc_ldc (v := (-1000000001)) dX9_ask_16 lk_X9_121 ?_
      exact go_iret dX9_ask_18 rfl (Nat.le_refl _) (Nat.le_refl _) ⟨_, rfl, h⟩
def W_X9_item (p0 : Int32) (p1 : Int32) (mem : Mm) (K : Int32 → Mm → Prop) : Prop := W_X9_isSlot p0 mem (fun v_1 m_1 => (¬ (bZ v_1) = 0 → (∃ i_15 : Nat, p0 = nI i_15 ∧ i_15 < 5 ∧ ((¬ (m_1 100 i_15) = 0 → (∃ i_27 : Nat, p0 = nI i_27 ∧ i_27 < 5 ∧ (((m_1 100 i_27) = 2 → (∃ i_42 : Nat, p0 = nI i_42 ∧ i_42 < 5 ∧ (W_X9_in p1 0 ((m_1 101 i_42) - 1) m_1 (fun v_45 m_45 => (¬ (bZ v_45) = 0 → (∃ i_65 : Nat, ((24 * p0) + p1) = nI i_65 ∧ i_65 < 120 ∧ ((¬ (m_45 103 i_65) = (-1000000005) → (K (m_45 103 i_65) m_45)) ∧ ((m_45 103 i_65) = (-1000000005) → (K (-1000000012) m_45))))) ∧ ((bZ v_45) = 0 → (K (-1000000013) m_45)))))) ∧ (¬ (m_1 100 i_27) = 2 → (K (-1000000012) m_1))))) ∧ ((m_1 100 i_15) = 0 → (K (-1000000011) m_1))))) ∧ ((bZ v_1) = 0 → (K (-1000000001) m_1)))
set_option maxRecDepth 100000 in
set_option maxHeartbeats 4000000 in
theorem w_X9_item (X : CX) (p0 : Int32) (p1 : Int32) (mem : Mm) (K : Int32 → Mm → Prop) (h : W_X9_item p0 p1 mem K) : CallsI X 2 M_X9_item [.ref (cx_n X + 82), .int p0, .int p1] mem K := by
  unfold W_X9_item at h
  refine CallsC.ofP 1 (by decide) rfl (Nat.le_of_ble_eq_true rfl) ?_
  refine gc_iload_n dX9_item_0 rfl ?_
  refine go_cSZ (y := M_X9_isSlot) (As := [.int p0]) (rest := []) dX9_item_1 lm_X9_289 ok_X9_isSlot (by decide) (w_X9_isSlot X p0 mem _ h) rfl (Nat.le_of_ble_eq_true rfl) (fun v_1 m_1 h => ?_)
  refine gc_if_ne 10 dX9_item_4 (by decide) (fun hc => ?_) (fun hc => ?_)
  · have h := h.1 hc
    refine gc_aload_n dX9_item_10 rfl ?_
    refine go_getR dX9_item_11 lg_X9_63 (sz_lt (by decide)) kd_82 rfl ?_
    refine gc_iload_n dX9_item_14 rfl ?_
    obtain ⟨i_15, hx_15, hi_15, h⟩ := h
    refine go_iald i_15 dX9_item_15 kd_100 hx_15 hi_15 ?_
    refine gc_if_ne 22 dX9_item_16 (by decide) (fun hc => ?_) (fun hc => ?_)
    · have h := h.1 hc
      refine gc_aload_n dX9_item_22 rfl ?_
      refine go_getR dX9_item_23 lg_X9_63 (sz_lt (by decide)) kd_82 rfl ?_
      refine gc_iload_n dX9_item_26 rfl ?_
      obtain ⟨i_27, hx_27, hi_27, h⟩ := h
      refine go_iald i_27 dX9_item_27 kd_100 hx_27 hi_27 ?_
      refine gc_iconst (v := 2) dX9_item_28 (by decide) ?_
      refine gc_icmp_eq 35 dX9_item_29 (by decide) (fun hc => ?_) (fun hc => ?_)
      · have h := h.1 hc
        refine gc_iload_n dX9_item_35 rfl ?_
        refine gc_iconst (v := 0) dX9_item_36 (by decide) ?_
        refine gc_aload_n dX9_item_37 rfl ?_
        refine go_getR dX9_item_38 lg_X9_66 (sz_lt (by decide)) kd_82 rfl ?_
        refine gc_iload_n dX9_item_41 rfl ?_
        obtain ⟨i_42, hx_42, hi_42, h⟩ := h
        refine go_iald i_42 dX9_item_42 kd_101 hx_42 hi_42 ?_
        refine gc_iconst (v := 1) dX9_item_43 (by decide) ?_
        refine gc_isub dX9_item_44 ?_
        refine go_cSZ (y := M_X9_in) (As := [.int p1, .int 0, .int ((m_1 101 i_42) - 1)]) (rest := []) dX9_item_45 lm_X9_81 ok_X9_in (by decide) (w_X9_in X p1 0 ((m_1 101 i_42) - 1) m_1 _ h) rfl (Nat.le_of_ble_eq_true rfl) (fun v_45 m_45 h => ?_)
        refine gc_if_ne 55 dX9_item_48 (by decide) (fun hc => ?_) (fun hc => ?_)
        · have h := h.1 hc
          refine gc_aload_n dX9_item_55 rfl ?_
          refine go_getR dX9_item_56 lg_X9_72 (sz_lt (by decide)) kd_82 rfl ?_
          refine gc_bipush (v := 24) dX9_item_59 (by decide) ?_
          refine gc_iload_n dX9_item_61 rfl ?_
          refine gc_imul dX9_item_62 ?_
          refine gc_iload_n dX9_item_63 rfl ?_
          refine gc_iadd dX9_item_64 ?_
          obtain ⟨i_65, hx_65, hi_65, h⟩ := h
          refine go_iald i_65 dX9_item_65 kd_103 hx_65 hi_65 ?_
          refine gc_istore_n dX9_item_66 (by decide) ?_
          refine gc_iload_n dX9_item_67 rfl ?_
          refine gc_ldc (v := (-1000000005)) dX9_item_68 lk_X9_180 ?_
          refine gc_icmp_ne 78 dX9_item_70 (by decide) (fun hc => ?_) (fun hc => ?_)
          · have h := h.1 hc
            refine gc_iload_n dX9_item_78 rfl ?_
            exact go_iret dX9_item_79 rfl (Nat.le_refl _) (Nat.le_refl _) ⟨_, rfl, h⟩
          · have h := h.2 hc
            refine gc_ldc (v := (-1000000012)) dX9_item_73 lk_X9_140 ?_
            refine gc_goto 79 dX9_item_75 (by decide) ?_
            exact go_iret dX9_item_79 rfl (Nat.le_refl _) (Nat.le_refl _) ⟨_, rfl, h⟩
        · have h := h.2 hc
          refine gc_ldcw (v := (-1000000013)) dX9_item_51 lk_X9_286 ?_
          exact go_iret dX9_item_54 rfl (Nat.le_refl _) (Nat.le_refl _) ⟨_, rfl, h⟩
      · have h := h.2 hc
        refine gc_ldc (v := (-1000000012)) dX9_item_32 lk_X9_140 ?_
        exact go_iret dX9_item_34 rfl (Nat.le_refl _) (Nat.le_refl _) ⟨_, rfl, h⟩
    · have h := h.2 hc
      refine gc_ldc (v := (-1000000011)) dX9_item_19 lk_X9_214 ?_
      exact go_iret dX9_item_21 rfl (Nat.le_refl _) (Nat.le_refl _) ⟨_, rfl, h⟩
  · have h := h.2 hc
    refine gc_ldc (v := (-1000000001)) dX9_item_7 lk_X9_121 ?_
    exact go_iret dX9_item_9 rfl (Nat.le_refl _) (Nat.le_refl _) ⟨_, rfl, h⟩
def W_X9_rest (p0 : Int32) (p1 : Int32) (mem : Mm) (K : Int32 → Mm → Prop) : Prop := W_X9_isSlot p0 mem (fun v_1 m_1 => (¬ (bZ v_1) = 0 → (∃ i_15 : Nat, p0 = nI i_15 ∧ i_15 < 5 ∧ ((¬ (m_1 100 i_15) = 0 → (∃ i_27 : Nat, p0 = nI i_27 ∧ i_27 < 5 ∧ (((m_1 100 i_27) = 3 → ((¬ p1 = 0 → ((¬ p1 = (-1) → (∃ i_58 : Nat, p0 = nI i_58 ∧ i_58 < 5 ∧ (¬ p1 = 0 ∧ (K ((m_1 101 i_58) - (m_1 101 i_58) / p1 * p1) m_1)))) ∧ (p1 = (-1) → (K 0 m_1)))) ∧ (p1 = 0 → (K (-1000000002) m_1)))) ∧ (¬ (m_1 100 i_27) = 3 → (K (-1000000012) m_1))))) ∧ ((m_1 100 i_15) = 0 → (K (-1000000011) m_1))))) ∧ ((bZ v_1) = 0 → (K (-1000000001) m_1)))
set_option maxRecDepth 100000 in
set_option maxHeartbeats 4000000 in
theorem w_X9_rest (X : CX) (p0 : Int32) (p1 : Int32) (mem : Mm) (K : Int32 → Mm → Prop) (h : W_X9_rest p0 p1 mem K) : CallsI X 2 M_X9_rest [.ref (cx_n X + 82), .int p0, .int p1] mem K := by
  unfold W_X9_rest at h
  refine CallsC.ofP 0 (by decide) rfl (Nat.le_of_ble_eq_true rfl) ?_
  refine gc_iload_n dX9_rest_0 rfl ?_
  refine go_cSZ (y := M_X9_isSlot) (As := [.int p0]) (rest := []) dX9_rest_1 lm_X9_289 ok_X9_isSlot (by decide) (w_X9_isSlot X p0 mem _ h) rfl (Nat.le_of_ble_eq_true rfl) (fun v_1 m_1 h => ?_)
  refine gc_if_ne 10 dX9_rest_4 (by decide) (fun hc => ?_) (fun hc => ?_)
  · have h := h.1 hc
    refine gc_aload_n dX9_rest_10 rfl ?_
    refine go_getR dX9_rest_11 lg_X9_63 (sz_lt (by decide)) kd_82 rfl ?_
    refine gc_iload_n dX9_rest_14 rfl ?_
    obtain ⟨i_15, hx_15, hi_15, h⟩ := h
    refine go_iald i_15 dX9_rest_15 kd_100 hx_15 hi_15 ?_
    refine gc_if_ne 22 dX9_rest_16 (by decide) (fun hc => ?_) (fun hc => ?_)
    · have h := h.1 hc
      refine gc_aload_n dX9_rest_22 rfl ?_
      refine go_getR dX9_rest_23 lg_X9_63 (sz_lt (by decide)) kd_82 rfl ?_
      refine gc_iload_n dX9_rest_26 rfl ?_
      obtain ⟨i_27, hx_27, hi_27, h⟩ := h
      refine go_iald i_27 dX9_rest_27 kd_100 hx_27 hi_27 ?_
      refine gc_iconst (v := 3) dX9_rest_28 (by decide) ?_
      refine gc_icmp_eq 35 dX9_rest_29 (by decide) (fun hc => ?_) (fun hc => ?_)
      · have h := h.1 hc
        refine gc_iload_n dX9_rest_35 rfl ?_
        refine gc_if_ne 44 dX9_rest_36 (by decide) (fun hc => ?_) (fun hc => ?_)
        · have h := h.1 hc
          refine gc_iload_n dX9_rest_44 rfl ?_
          refine gc_iconst (v := (-1)) dX9_rest_45 (by decide) ?_
          refine gc_icmp_ne 53 dX9_rest_46 (by decide) (fun hc => ?_) (fun hc => ?_)
          · have h := h.1 hc
            refine gc_aload_n dX9_rest_53 rfl ?_
            refine go_getR dX9_rest_54 lg_X9_66 (sz_lt (by decide)) kd_82 rfl ?_
            refine gc_iload_n dX9_rest_57 rfl ?_
            obtain ⟨i_58, hx_58, hi_58, h⟩ := h
            refine go_iald i_58 dX9_rest_58 kd_101 hx_58 hi_58 ?_
            refine gc_iload_n dX9_rest_59 rfl ?_
            obtain ⟨hne, h⟩ := h
            refine gc_irem dX9_rest_60 hne ?_
            exact go_iret dX9_rest_61 rfl (Nat.le_refl _) (Nat.le_refl _) ⟨_, rfl, h⟩
          · have h := h.2 hc
            refine gc_iconst (v := 0) dX9_rest_49 (by decide) ?_
            refine gc_goto 61 dX9_rest_50 (by decide) ?_
            exact go_iret dX9_rest_61 rfl (Nat.le_refl _) (Nat.le_refl _) ⟨_, rfl, h⟩
        · have h := h.2 hc
          refine gc_ldc (v := (-1000000002)) dX9_rest_39 lk_X9_162 ?_
          refine gc_goto 61 dX9_rest_41 (by decide) ?_
          exact go_iret dX9_rest_61 rfl (Nat.le_refl _) (Nat.le_refl _) ⟨_, rfl, h⟩
      · have h := h.2 hc
        refine gc_ldc (v := (-1000000012)) dX9_rest_32 lk_X9_140 ?_
        exact go_iret dX9_rest_34 rfl (Nat.le_refl _) (Nat.le_refl _) ⟨_, rfl, h⟩
    · have h := h.2 hc
      refine gc_ldc (v := (-1000000011)) dX9_rest_19 lk_X9_214 ?_
      exact go_iret dX9_rest_21 rfl (Nat.le_refl _) (Nat.le_refl _) ⟨_, rfl, h⟩
  · have h := h.2 hc
    refine gc_ldc (v := (-1000000001)) dX9_rest_7 lk_X9_121 ?_
    exact go_iret dX9_rest_9 rfl (Nat.le_refl _) (Nat.le_refl _) ⟨_, rfl, h⟩
def W_X9_tell (p0 : Int32) (mem : Mm) (K : Int32 → Mm → Prop) : Prop := (¬ (mem 82 35) = 60 → (∃ i_21 : Nat, (mem 82 35) = nI i_21 ∧ i_21 < 60 ∧ (∀ m_21 : Mm, m_21 = mu mem 105 i_21 p0 → (∀ m_29 : Mm, m_29 = mu m_21 82 35 ((m_21 82 35) + 1) → (K (m_29 82 35) m_29))))) ∧ ((mem 82 35) = 60 → (K (-1000000003) mem))
set_option maxRecDepth 100000 in
set_option maxHeartbeats 4000000 in
theorem w_X9_tell (X : CX) (p0 : Int32) (mem : Mm) (K : Int32 → Mm → Prop) (h : W_X9_tell p0 mem K) : CallsI X 0 M_X9_tell [.ref (cx_n X + 82), .int p0] mem K := by
  unfold W_X9_tell at h
  refine CallsC.ofP 0 (by decide) rfl (Nat.le_of_ble_eq_true rfl) ?_
  refine gc_aload_n dX9_tell_0 rfl ?_
  refine go_getI dX9_tell_1 lg_X9_292 (sz_lt (by decide)) kd_82 rfl ?_
  refine gc_bipush (v := 60) dX9_tell_4 (by decide) ?_
  refine gc_icmp_ne 12 dX9_tell_6 (by decide) (fun hc => ?_) (fun hc => ?_)
  · have h := h.1 hc
    refine gc_aload_n dX9_tell_12 rfl ?_
    refine go_getR dX9_tell_13 lg_X9_78 (sz_lt (by decide)) kd_82 rfl ?_
    refine gc_aload_n dX9_tell_16 rfl ?_
    refine go_getI dX9_tell_17 lg_X9_292 (sz_lt (by decide)) kd_82 rfl ?_
    refine gc_iload_n dX9_tell_20 rfl ?_
    obtain ⟨i_21, hx_21, hi_21, h⟩ := h
    refine go_iast_ i_21 dX9_tell_21 kd_105 hx_21 hi_21 (by decide) (fun m_21 em_21 => ?_)
    have h := h m_21 em_21
    refine gc_aload_n dX9_tell_22 rfl ?_
    refine gc_dup dX9_tell_23 rfl ?_
    refine go_getI dX9_tell_24 lg_X9_292 (sz_lt (by decide)) kd_82 rfl ?_
    refine gc_iconst (v := 1) dX9_tell_27 (by decide) ?_
    refine gc_iadd dX9_tell_28 ?_
    refine go_putI_ dX9_tell_29 lp_X9_292 (sz_lt (by decide)) kd_82 rfl (fun m_29 em_29 => ?_)
    have h := h m_29 em_29
    refine gc_aload_n dX9_tell_32 rfl ?_
    refine go_getI dX9_tell_33 lg_X9_292 (sz_lt (by decide)) kd_82 rfl ?_
    exact go_iret dX9_tell_36 rfl (Nat.le_refl _) (Nat.le_refl _) ⟨_, rfl, h⟩
  · have h := h.2 hc
    refine gc_ldc (v := (-1000000003)) dX9_tell_9 lk_X9_122 ?_
    exact go_iret dX9_tell_11 rfl (Nat.le_refl _) (Nat.le_refl _) ⟨_, rfl, h⟩
def B_X9_check_129 (p0 : Int32) (kb79 : Int32 → Int32 → Int32 → Int32 → Mm → Prop) (K : Int32 → Mm → Prop) (l2 : Int32) (l3 : Int32) (l5 : Int32) (s0 : Int32) (s1 : Int32) (mem : Mm) : Prop := (¬ (s1 + s0) = ((2 * l5) + 1) → (kb79 l2 l3 ((s1 + s0) + 0) (l5 + 1) mem)) ∧ ((s1 + s0) = ((2 * l5) + 1) → ((l2 ≤ (s1 + s0) → (kb79 l2 l3 ((s1 + s0) + 0) (l5 + 1) mem)) ∧ (¬ l2 ≤ (s1 + s0) → (∃ i_157 : Nat, (s1 + s0) = nI i_157 ∧ i_157 < 60 ∧ (W_X9_nerves  mem (fun v_159 m_159 => (¬ (mem 105 i_157) = v_159 → (kb79 l2 l3 ((s1 + s0) + 0) (l5 + 1) m_159)) ∧ ((mem 105 i_157) = v_159 → (kb79 l2 l3 ((s1 + s0) + 1) (l5 + 1) m_159))))))))
set_option maxRecDepth 100000 in
set_option maxHeartbeats 4000000 in
theorem b_X9_check_129 (X : CX) (p0 : Int32)  (kb79 : Int32 → Int32 → Int32 → Int32 → Mm → Prop) (K : Int32 → Mm → Prop) (hkb79 : ∀ (l2 : Int32) (l3 : Int32) (l4 : Int32) (l5 : Int32) (mem : Mm), kb79 l2 l3 l4 l5 mem → GoC X 19 0 0 M_X9_check 79 [some (.ref (cx_n X + 82)), none, some (.int l2), some (.int l3), some (.int l4), some (.int l5)] [] 0 0 (cellAt X mem) (sz mem) (qm X (fun r m => ∃ v : Int32, r = some (.int v) ∧ K v m))) (l2 : Int32) (l3 : Int32) (l5 : Int32) (s0 : Int32) (s1 : Int32) (mem : Mm)  (h : B_X9_check_129 p0  kb79 K l2 l3 l5 s0 s1 mem) : GoC X 19 0 0 M_X9_check 129 [some (.ref (cx_n X + 82)), none, some (.int l2), some (.int l3), none, some (.int l5)] [.int s0, .int s1] 0 0 (cellAt X mem) (sz mem) (qm X (fun r m => ∃ v : Int32, r = some (.int v) ∧ K v m)) := by
  unfold B_X9_check_129 at h
  refine gc_iadd dX9_check_129 ?_
  refine gc_istore dX9_check_130 (by decide) ?_
  refine gc_iload dX9_check_132 rfl ?_
  refine gc_iload dX9_check_134 rfl ?_
  refine gc_iconst (v := 2) dX9_check_136 (by decide) ?_
  refine gc_iload dX9_check_137 rfl ?_
  refine gc_imul dX9_check_139 ?_
  refine gc_iconst (v := 1) dX9_check_140 (by decide) ?_
  refine gc_iadd dX9_check_141 ?_
  refine gc_icmp_ne 169 dX9_check_142 (by decide) (fun hc => ?_) (fun hc => ?_)
  · have h := h.1 hc
    refine gc_iconst (v := 0) dX9_check_169 (by decide) ?_
    refine gc_iadd dX9_check_170 ?_
    refine gc_istore dX9_check_171 (by decide) ?_
    refine gc_iinc (v := l5 + 1) dX9_check_173 rfl rfl (by decide) ?_
    refine gc_goto 79 dX9_check_176 (by decide) ?_
    exact hkb79 l2 l3 ((s1 + s0) + 0) (l5 + 1) mem  h
  · have h := h.2 hc
    refine gc_iload dX9_check_145 rfl ?_
    refine gc_iload_n dX9_check_147 rfl ?_
    refine gc_icmp_ge 169 dX9_check_148 (by decide) (fun hc => ?_) (fun hc => ?_)
    · have h := h.1 hc
      refine gc_iconst (v := 0) dX9_check_169 (by decide) ?_
      refine gc_iadd dX9_check_170 ?_
      refine gc_istore dX9_check_171 (by decide) ?_
      refine gc_iinc (v := l5 + 1) dX9_check_173 rfl rfl (by decide) ?_
      refine gc_goto 79 dX9_check_176 (by decide) ?_
      exact hkb79 l2 l3 ((s1 + s0) + 0) (l5 + 1) mem  h
    · have h := h.2 hc
      refine gc_aload_n dX9_check_151 rfl ?_
      refine go_getR dX9_check_152 lg_X9_78 (sz_lt (by decide)) kd_82 rfl ?_
      refine gc_iload dX9_check_155 rfl ?_
      obtain ⟨i_157, hx_157, hi_157, h⟩ := h
      refine go_iald i_157 dX9_check_157 kd_105 hx_157 hi_157 ?_
      refine gc_aload_n dX9_check_158 rfl ?_
      refine go_cVI (y := M_X9_nerves) (As := []) (rest := [.int (mem 105 i_157), .int (s1 + s0)]) dX9_check_159 lm_X9_177 ok_X9_nerves (by decide) (sz_lt (by decide)) kd_82 rfl rfl (w_X9_nerves X  mem _ h) rfl (Nat.le_of_ble_eq_true rfl) (fun v_159 m_159 h => ?_)
      refine gc_icmp_ne 169 dX9_check_162 (by decide) (fun hc => ?_) (fun hc => ?_)
      · have h := h.1 hc
        refine gc_iconst (v := 0) dX9_check_169 (by decide) ?_
        refine gc_iadd dX9_check_170 ?_
        refine gc_istore dX9_check_171 (by decide) ?_
        refine gc_iinc (v := l5 + 1) dX9_check_173 rfl rfl (by decide) ?_
        refine gc_goto 79 dX9_check_176 (by decide) ?_
        exact hkb79 l2 l3 ((s1 + s0) + 0) (l5 + 1) m_159  h
      · have h := h.2 hc
        refine gc_iconst (v := 1) dX9_check_165 (by decide) ?_
        refine gc_goto 170 dX9_check_166 (by decide) ?_
        refine gc_iadd dX9_check_170 ?_
        refine gc_istore dX9_check_171 (by decide) ?_
        refine gc_iinc (v := l5 + 1) dX9_check_173 rfl rfl (by decide) ?_
        refine gc_goto 79 dX9_check_176 (by decide) ?_
        exact hkb79 l2 l3 ((s1 + s0) + 1) (l5 + 1) m_159  h
def B_X9_check_179 (p0 : Int32) (K : Int32 → Mm → Prop) (l2 : Int32) (l3 : Int32) (l4 : Int32) (mem : Mm) : Prop := W_X9_copyAll 85 1433 83 1433 mem (fun m_187 => (¬ l4 = l2 → (K (1 + l4) m_187)) ∧ (l4 = l2 → ((¬ l4 = l3 → (K (1 + l4) m_187)) ∧ (l4 = l3 → (K 0 m_187)))))
set_option maxRecDepth 100000 in
set_option maxHeartbeats 4000000 in
theorem b_X9_check_179 (X : CX) (p0 : Int32)  (K : Int32 → Mm → Prop) (l2 : Int32) (l3 : Int32) (l4 : Int32) (mem : Mm)  (h : B_X9_check_179 p0   K l2 l3 l4 mem) : GoC X 19 0 0 M_X9_check 179 [some (.ref (cx_n X + 82)), none, some (.int l2), some (.int l3), some (.int l4), none] [] 0 0 (cellAt X mem) (sz mem) (qm X (fun r m => ∃ v : Int32, r = some (.int v) ∧ K v m)) := by
  unfold B_X9_check_179 at h
  refine gc_aload_n dX9_check_179 rfl ?_
  refine go_getR dX9_check_180 lg_X9_16 (sz_lt (by decide)) kd_82 rfl ?_
  refine gc_aload_n dX9_check_183 rfl ?_
  refine go_getR dX9_check_184 lg_X9_9 (sz_lt (by decide)) kd_82 rfl ?_
  refine go_cSU (y := M_X9_copyAll) (As := [.ref (cx_n X + 85), .ref (cx_n X + 83)]) (rest := []) dX9_check_187 lm_X9_184 ok_X9_copyAll (by decide) (w_X9_copyAll X 85 1433 ⟨kd_85, by decide⟩ 83 1433 ⟨kd_83, by decide⟩ mem _ h) rfl (Nat.le_of_ble_eq_true rfl) (fun m_187 h => ?_)
  refine gc_iload dX9_check_190 rfl ?_
  refine gc_iload_n dX9_check_192 rfl ?_
  refine gc_icmp_ne 206 dX9_check_193 (by decide) (fun hc => ?_) (fun hc => ?_)
  · have h := h.1 hc
    refine gc_iconst (v := 1) dX9_check_206 (by decide) ?_
    refine gc_iload dX9_check_207 rfl ?_
    refine gc_iadd dX9_check_209 ?_
    exact go_iret dX9_check_210 rfl (Nat.le_refl _) (Nat.le_refl _) ⟨_, rfl, h⟩
  · have h := h.2 hc
    refine gc_iload dX9_check_196 rfl ?_
    refine gc_iload_n dX9_check_198 rfl ?_
    refine gc_icmp_ne 206 dX9_check_199 (by decide) (fun hc => ?_) (fun hc => ?_)
    · have h := h.1 hc
      refine gc_iconst (v := 1) dX9_check_206 (by decide) ?_
      refine gc_iload dX9_check_207 rfl ?_
      refine gc_iadd dX9_check_209 ?_
      exact go_iret dX9_check_210 rfl (Nat.le_refl _) (Nat.le_refl _) ⟨_, rfl, h⟩
    · have h := h.2 hc
      refine gc_iconst (v := 0) dX9_check_202 (by decide) ?_
      refine gc_goto 210 dX9_check_203 (by decide) ?_
      exact go_iret dX9_check_210 rfl (Nat.le_refl _) (Nat.le_refl _) ⟨_, rfl, h⟩
def L_X9_check_79 (p0 : Int32) (K : Int32 → Mm → Prop) : Nat → Int32 → Int32 → Int32 → Int32 → Mm → Prop
  | 0, _, _, _, _, _ => False
  | n + 1, l2, l3, l4, l5, mem => (l3 ≤ (2 * l5) → (B_X9_check_179 p0   K l2 l3 l4 mem)) ∧ (¬ l3 ≤ (2 * l5) → ((¬ l4 = (2 * l5) → (B_X9_check_179 p0   K l2 l3 l4 mem)) ∧ (l4 = (2 * l5) → (W_X9_aGo  mem (fun m_97 => (l2 ≤ l4 → (B_X9_check_129 p0  (fun zl2 zl3 zl4 zl5 zm => L_X9_check_79 p0  K n zl2 zl3 zl4 zl5 zm) K l2 l3 l5 0 l4 m_97)) ∧ (¬ l2 ≤ l4 → (∃ i_114 : Nat, l4 = nI i_114 ∧ i_114 < 60 ∧ ((¬ (m_97 105 i_114) = (m_97 83 3) → (B_X9_check_129 p0  (fun zl2 zl3 zl4 zl5 zm => L_X9_check_79 p0  K n zl2 zl3 zl4 zl5 zm) K l2 l3 l5 0 l4 m_97)) ∧ ((m_97 105 i_114) = (m_97 83 3) → (B_X9_check_129 p0  (fun zl2 zl3 zl4 zl5 zm => L_X9_check_79 p0  K n zl2 zl3 zl4 zl5 zm) K l2 l3 l5 1 l4 m_97))))))))))
set_option maxRecDepth 100000 in
set_option maxHeartbeats 4000000 in
theorem l_X9_check_79 (X : CX) (p0 : Int32)  (K : Int32 → Mm → Prop) : ∀ (n : Nat) (l2 : Int32) (l3 : Int32) (l4 : Int32) (l5 : Int32) (mem : Mm), L_X9_check_79 p0   K n l2 l3 l4 l5 mem → GoC X 19 0 0 M_X9_check 79 [some (.ref (cx_n X + 82)), none, some (.int l2), some (.int l3), some (.int l4), some (.int l5)] [] 0 0 (cellAt X mem) (sz mem) (qm X (fun r m => ∃ v : Int32, r = some (.int v) ∧ K v m))
  := by
  intro n
  induction n with
  | zero => intro l2 l3 l4 l5 mem h; exact h.elim
  | succ n ih =>
    intro l2 l3 l4 l5 mem h
    unfold L_X9_check_79 at h
    refine gc_iconst (v := 2) dX9_check_79 (by decide) ?_
    refine gc_iload dX9_check_80 rfl ?_
    refine gc_imul dX9_check_82 ?_
    refine gc_iload_n dX9_check_83 rfl ?_
    refine gc_icmp_ge 179 dX9_check_84 (by decide) (fun hc => ?_) (fun hc => ?_)
    · have h := h.1 hc
      refine gc_forget 5 ?_
      exact b_X9_check_179 X p0    K   l2 l3 l4 mem  h
    · have h := h.2 hc
      refine gc_iload dX9_check_87 rfl ?_
      refine gc_iconst (v := 2) dX9_check_89 (by decide) ?_
      refine gc_iload dX9_check_90 rfl ?_
      refine gc_imul dX9_check_92 ?_
      refine gc_icmp_ne 179 dX9_check_93 (by decide) (fun hc => ?_) (fun hc => ?_)
      · have h := h.1 hc
        refine gc_forget 5 ?_
        exact b_X9_check_179 X p0    K   l2 l3 l4 mem  h
      · have h := h.2 hc
        refine gc_aload_n dX9_check_96 rfl ?_
        refine go_cVU (y := M_X9_aGo) (As := []) (rest := []) dX9_check_97 lm_X9_170 ok_X9_aGo (by decide) (sz_lt (by decide)) kd_82 rfl rfl (w_X9_aGo X  mem _ h) rfl (Nat.le_of_ble_eq_true rfl) (fun m_97 h => ?_)
        refine gc_iload dX9_check_100 rfl ?_
        refine gc_iload dX9_check_102 rfl ?_
        refine gc_iload_n dX9_check_104 rfl ?_
        refine gc_icmp_ge 128 dX9_check_105 (by decide) (fun hc => ?_) (fun hc => ?_)
        · have h := h.1 hc
          refine gc_iconst (v := 0) dX9_check_128 (by decide) ?_
          refine gc_forget 4 ?_
          exact b_X9_check_129 X p0   (fun zl2 zl3 zl4 zl5 zm => L_X9_check_79 p0  K n zl2 zl3 zl4 zl5 zm) K  ih l2 l3 l5 0 l4 m_97  h
        · have h := h.2 hc
          refine gc_aload_n dX9_check_108 rfl ?_
          refine go_getR dX9_check_109 lg_X9_78 (sz_lt (by decide)) kd_82 rfl ?_
          refine gc_iload dX9_check_112 rfl ?_
          obtain ⟨i_114, hx_114, hi_114, h⟩ := h
          refine go_iald i_114 dX9_check_114 kd_105 hx_114 hi_114 ?_
          refine gc_aload_n dX9_check_115 rfl ?_
          refine go_getR dX9_check_116 lg_X9_9 (sz_lt (by decide)) kd_82 rfl ?_
          refine gc_iconst (v := 3) dX9_check_119 (by decide) ?_
          refine go_iald 3 dX9_check_120 kd_83 rfl (by decide) ?_
          refine gc_icmp_ne 128 dX9_check_121 (by decide) (fun hc => ?_) (fun hc => ?_)
          · have h := h.1 hc
            refine gc_iconst (v := 0) dX9_check_128 (by decide) ?_
            refine gc_forget 4 ?_
            exact b_X9_check_129 X p0   (fun zl2 zl3 zl4 zl5 zm => L_X9_check_79 p0  K n zl2 zl3 zl4 zl5 zm) K  ih l2 l3 l5 0 l4 m_97  h
          · have h := h.2 hc
            refine gc_iconst (v := 1) dX9_check_124 (by decide) ?_
            refine gc_goto 129 dX9_check_125 (by decide) ?_
            refine gc_forget 4 ?_
            exact b_X9_check_129 X p0   (fun zl2 zl3 zl4 zl5 zm => L_X9_check_79 p0  K n zl2 zl3 zl4 zl5 zm) K  ih l2 l3 l5 1 l4 m_97  h
def W_X9_check (p0 : Int32) (mem : Mm) (K : Int32 → Mm → Prop) : Prop := ∀ m_7 : Mm, m_7 = mu mem 82 35 0 → (W_X9_in p0 1 30 m_7 (fun v_14 m_14 => (¬ (bZ v_14) = 0 → ((¬ (m_14 82 3) = 0 → (W_X9_copyAll 83 1433 85 1433 m_14 (fun m_41 => W_X9_copyAll 84 1433 83 1433 m_41 (fun m_52 => W_X9_within (9999 - (m_52 83 2)) 0 p0 m_52 (fun v_68 m_68 => ∃ nz : Nat, L_X9_check_79 p0   K nz (mem 82 35) (2 * v_68) 0 0 m_68))))) ∧ ((m_14 82 3) = 0 → (K (-1000000002) m_14)))) ∧ ((bZ v_14) = 0 → (K (-1000000001) m_14))))
set_option maxRecDepth 100000 in
set_option maxHeartbeats 4000000 in
theorem w_X9_check (X : CX) (p0 : Int32) (mem : Mm) (K : Int32 → Mm → Prop) (h : W_X9_check p0 mem K) : CallsI X 19 M_X9_check [.ref (cx_n X + 82), .int p0] mem K := by
  unfold W_X9_check at h
  refine CallsC.ofP 4 (by decide) rfl (Nat.le_of_ble_eq_true rfl) ?_
  refine gc_aload_n dX9_check_0 rfl ?_
  refine go_getI dX9_check_1 lg_X9_292 (sz_lt (by decide)) kd_82 rfl ?_
  refine gc_istore_n dX9_check_4 (by decide) ?_
  refine gc_aload_n dX9_check_5 rfl ?_
  refine gc_iconst (v := 0) dX9_check_6 (by decide) ?_
  refine go_putI_ dX9_check_7 lp_X9_292 (sz_lt (by decide)) kd_82 rfl (fun m_7 em_7 => ?_)
  have h := h m_7 em_7
  refine gc_iload_n dX9_check_10 rfl ?_
  refine gc_iconst (v := 1) dX9_check_11 (by decide) ?_
  refine gc_bipush (v := 30) dX9_check_12 (by decide) ?_
  refine go_cSZ (y := M_X9_in) (As := [.int p0, .int 1, .int 30]) (rest := []) dX9_check_14 lm_X9_81 ok_X9_in (by decide) (w_X9_in X p0 1 30 m_7 _ h) rfl (Nat.le_of_ble_eq_true rfl) (fun v_14 m_14 h => ?_)
  refine gc_if_ne 23 dX9_check_17 (by decide) (fun hc => ?_) (fun hc => ?_)
  · have h := h.1 hc
    refine gc_aload_n dX9_check_23 rfl ?_
    refine go_getI dX9_check_24 lg_X9_295 (sz_lt (by decide)) kd_82 rfl ?_
    refine gc_if_ne 33 dX9_check_27 (by decide) (fun hc => ?_) (fun hc => ?_)
    · have h := h.1 hc
      refine gc_aload_n dX9_check_33 rfl ?_
      refine go_getR dX9_check_34 lg_X9_9 (sz_lt (by decide)) kd_82 rfl ?_
      refine gc_aload_n dX9_check_37 rfl ?_
      refine go_getR dX9_check_38 lg_X9_16 (sz_lt (by decide)) kd_82 rfl ?_
      refine go_cSU (y := M_X9_copyAll) (As := [.ref (cx_n X + 83), .ref (cx_n X + 85)]) (rest := []) dX9_check_41 lm_X9_184 ok_X9_copyAll (by decide) (w_X9_copyAll X 83 1433 ⟨kd_83, by decide⟩ 85 1433 ⟨kd_85, by decide⟩ m_14 _ h) rfl (Nat.le_of_ble_eq_true rfl) (fun m_41 h => ?_)
      refine gc_aload_n dX9_check_44 rfl ?_
      refine go_getR dX9_check_45 lg_X9_13 (sz_lt (by decide)) kd_82 rfl ?_
      refine gc_aload_n dX9_check_48 rfl ?_
      refine go_getR dX9_check_49 lg_X9_9 (sz_lt (by decide)) kd_82 rfl ?_
      refine go_cSU (y := M_X9_copyAll) (As := [.ref (cx_n X + 84), .ref (cx_n X + 83)]) (rest := []) dX9_check_52 lm_X9_184 ok_X9_copyAll (by decide) (w_X9_copyAll X 84 1433 ⟨kd_84, by decide⟩ 83 1433 ⟨kd_83, by decide⟩ m_41 _ h) rfl (Nat.le_of_ble_eq_true rfl) (fun m_52 h => ?_)
      refine gc_iconst (v := 2) dX9_check_55 (by decide) ?_
      refine gc_sipush (v := 9999) dX9_check_56 (by decide) ?_
      refine gc_aload_n dX9_check_59 rfl ?_
      refine go_getR dX9_check_60 lg_X9_9 (sz_lt (by decide)) kd_82 rfl ?_
      refine gc_iconst (v := 2) dX9_check_63 (by decide) ?_
      refine go_iald 2 dX9_check_64 kd_83 rfl (by decide) ?_
      refine gc_isub dX9_check_65 ?_
      refine gc_iconst (v := 0) dX9_check_66 (by decide) ?_
      refine gc_iload_n dX9_check_67 rfl ?_
      refine go_cSI (y := M_X9_within) (As := [.int (9999 - (m_52 83 2)), .int 0, .int p0]) (rest := [.int 2]) dX9_check_68 lm_X9_107 ok_X9_within (by decide) (w_X9_within X (9999 - (m_52 83 2)) 0 p0 m_52 _ h) rfl (Nat.le_of_ble_eq_true rfl) (fun v_68 m_68 h => ?_)
      refine gc_imul dX9_check_71 ?_
      refine gc_istore_n dX9_check_72 (by decide) ?_
      refine gc_iconst (v := 0) dX9_check_73 (by decide) ?_
      refine gc_istore dX9_check_74 (by decide) ?_
      refine gc_iconst (v := 0) dX9_check_76 (by decide) ?_
      refine gc_istore dX9_check_77 (by decide) ?_
      refine gc_forget 1 ?_
      obtain ⟨n9, h⟩ := h
      exact l_X9_check_79 X p0    K   n9 (mem 82 35) (2 * v_68) 0 0 m_68  h
    · have h := h.2 hc
      refine gc_ldc (v := (-1000000002)) dX9_check_30 lk_X9_162 ?_
      exact go_iret dX9_check_32 rfl (Nat.le_refl _) (Nat.le_refl _) ⟨_, rfl, h⟩
  · have h := h.2 hc
    refine gc_ldc (v := (-1000000001)) dX9_check_20 lk_X9_121 ?_
    exact go_iret dX9_check_22 rfl (Nat.le_refl _) (Nat.le_refl _) ⟨_, rfl, h⟩
def W_X9_keep  (mem : Mm) (K : Int32 → Mm → Prop) : Prop := W_X9_copyAll 83 1433 84 1433 mem (fun m_8 => ∀ m_13 : Mm, m_13 = mu m_8 82 3 1 → (K (m_13 83 1) m_13))
set_option maxRecDepth 100000 in
set_option maxHeartbeats 4000000 in
theorem w_X9_keep (X : CX)  (mem : Mm) (K : Int32 → Mm → Prop) (h : W_X9_keep  mem K) : CallsI X 1 M_X9_keep [.ref (cx_n X + 82)] mem K := by
  unfold W_X9_keep at h
  refine CallsC.ofP 0 (by decide) rfl (Nat.le_of_ble_eq_true rfl) ?_
  refine gc_aload_n dX9_keep_0 rfl ?_
  refine go_getR dX9_keep_1 lg_X9_9 (sz_lt (by decide)) kd_82 rfl ?_
  refine gc_aload_n dX9_keep_4 rfl ?_
  refine go_getR dX9_keep_5 lg_X9_13 (sz_lt (by decide)) kd_82 rfl ?_
  refine go_cSU (y := M_X9_copyAll) (As := [.ref (cx_n X + 83), .ref (cx_n X + 84)]) (rest := []) dX9_keep_8 lm_X9_184 ok_X9_copyAll (by decide) (w_X9_copyAll X 83 1433 ⟨kd_83, by decide⟩ 84 1433 ⟨kd_84, by decide⟩ mem _ h) rfl (Nat.le_of_ble_eq_true rfl) (fun m_8 h => ?_)
  refine gc_aload_n dX9_keep_11 rfl ?_
  refine gc_iconst (v := 1) dX9_keep_12 (by decide) ?_
  refine go_putZ_ dX9_keep_13 lp_X9_295 (sz_lt (by decide)) kd_82 rfl (by decide) (fun m_13 em_13 => ?_)
  have h := h m_13 em_13
  refine gc_aload_n dX9_keep_16 rfl ?_
  refine go_getR dX9_keep_17 lg_X9_9 (sz_lt (by decide)) kd_82 rfl ?_
  refine gc_iconst (v := 1) dX9_keep_20 (by decide) ?_
  refine go_iald 1 dX9_keep_21 kd_83 rfl (by decide) ?_
  exact go_iret dX9_keep_22 rfl (Nat.le_refl _) (Nat.le_refl _) ⟨_, rfl, h⟩
def W_X9_back  (mem : Mm) (K : Int32 → Mm → Prop) : Prop := (¬ (mem 82 3) = 0 → (W_X9_copyAll 84 1433 83 1433 mem (fun m_18 => K (m_18 83 1) m_18))) ∧ ((mem 82 3) = 0 → (K (-1000000002) mem))
set_option maxRecDepth 100000 in
set_option maxHeartbeats 4000000 in
theorem w_X9_back (X : CX)  (mem : Mm) (K : Int32 → Mm → Prop) (h : W_X9_back  mem K) : CallsI X 1 M_X9_back [.ref (cx_n X + 82)] mem K := by
  unfold W_X9_back at h
  refine CallsC.ofP 0 (by decide) rfl (Nat.le_of_ble_eq_true rfl) ?_
  refine gc_aload_n dX9_back_0 rfl ?_
  refine go_getI dX9_back_1 lg_X9_295 (sz_lt (by decide)) kd_82 rfl ?_
  refine gc_if_ne 10 dX9_back_4 (by decide) (fun hc => ?_) (fun hc => ?_)
  · have h := h.1 hc
    refine gc_aload_n dX9_back_10 rfl ?_
    refine go_getR dX9_back_11 lg_X9_13 (sz_lt (by decide)) kd_82 rfl ?_
    refine gc_aload_n dX9_back_14 rfl ?_
    refine go_getR dX9_back_15 lg_X9_9 (sz_lt (by decide)) kd_82 rfl ?_
    refine go_cSU (y := M_X9_copyAll) (As := [.ref (cx_n X + 84), .ref (cx_n X + 83)]) (rest := []) dX9_back_18 lm_X9_184 ok_X9_copyAll (by decide) (w_X9_copyAll X 84 1433 ⟨kd_84, by decide⟩ 83 1433 ⟨kd_83, by decide⟩ mem _ h) rfl (Nat.le_of_ble_eq_true rfl) (fun m_18 h => ?_)
    refine gc_aload_n dX9_back_21 rfl ?_
    refine go_getR dX9_back_22 lg_X9_9 (sz_lt (by decide)) kd_82 rfl ?_
    refine gc_iconst (v := 1) dX9_back_25 (by decide) ?_
    refine go_iald 1 dX9_back_26 kd_83 rfl (by decide) ?_
    exact go_iret dX9_back_27 rfl (Nat.le_refl _) (Nat.le_refl _) ⟨_, rfl, h⟩
  · have h := h.2 hc
    refine gc_ldc (v := (-1000000002)) dX9_back_7 lk_X9_162 ?_
    exact go_iret dX9_back_9 rfl (Nat.le_refl _) (Nat.le_refl _) ⟨_, rfl, h⟩
def W_X9_count (p0 : Int32) (mem : Mm) (K : Int32 → Mm → Prop) : Prop := (p0 = 0 → (K (mem 83 1) mem)) ∧ (¬ p0 = 0 → ((p0 = 1 → (K (mem 83 2) mem)) ∧ (¬ p0 = 1 → ((p0 = 2 → (W_X9_standing  mem (fun v_59 m_59 => W_X9_bits v_59 m_59 (fun v_62 m_62 => K v_62 m_62)))) ∧ (¬ p0 = 2 → ((p0 = 3 → (K (mem 83 6) mem)) ∧ (¬ p0 = 3 → ((p0 = 4 → (K (mem 82 35) mem)) ∧ (¬ p0 = 4 → ((p0 = 5 → (K (mem 82 9) mem)) ∧ (¬ p0 = 5 → ((p0 = 6 → (K (mem 83 0) mem)) ∧ (¬ p0 = 6 → (K (-1000000001) mem))))))))))))))
set_option maxRecDepth 100000 in
set_option maxHeartbeats 4000000 in
theorem w_X9_count (X : CX) (p0 : Int32) (mem : Mm) (K : Int32 → Mm → Prop) (h : W_X9_count p0 mem K) : CallsI X 2 M_X9_count [.ref (cx_n X + 82), .int p0] mem K := by
  unfold W_X9_count at h
  refine CallsC.ofP 0 (by decide) rfl (Nat.le_of_ble_eq_true rfl) ?_
  refine gc_iload_n dX9_count_0 rfl ?_
  by_cases hn0 : p0 = 0
  · have h := h.1 hn0
    refine gc_tabIn (off := 43) 44 dX9_count_1 (by rw [hn0]; decide) (by rw [hn0]; decide) (by rw [hn0]; rfl) (by decide) ?_
    refine gc_aload_n dX9_count_44 rfl ?_
    refine go_getR dX9_count_45 lg_X9_9 (sz_lt (by decide)) kd_82 rfl ?_
    refine gc_iconst (v := 1) dX9_count_48 (by decide) ?_
    refine go_iald 1 dX9_count_49 kd_83 rfl (by decide) ?_
    exact go_iret dX9_count_50 rfl (Nat.le_refl _) (Nat.le_refl _) ⟨_, rfl, h⟩
  · have h := h.2 hn0
    have hq0 := tab_ne hn0 (a := 0) (by decide)
    by_cases hn1 : p0 = 1
    · have h := h.1 hn1
      refine gc_tabIn (off := 50) 51 dX9_count_1 (by rw [hn1]; decide) (by rw [hn1]; decide) (by rw [hn1]; rfl) (by decide) ?_
      refine gc_aload_n dX9_count_51 rfl ?_
      refine go_getR dX9_count_52 lg_X9_9 (sz_lt (by decide)) kd_82 rfl ?_
      refine gc_iconst (v := 2) dX9_count_55 (by decide) ?_
      refine go_iald 2 dX9_count_56 kd_83 rfl (by decide) ?_
      exact go_iret dX9_count_57 rfl (Nat.le_refl _) (Nat.le_refl _) ⟨_, rfl, h⟩
    · have h := h.2 hn1
      have hq1 := tab_ne hn1 (a := 1) (by decide)
      by_cases hn2 : p0 = 2
      · have h := h.1 hn2
        refine gc_tabIn (off := 57) 58 dX9_count_1 (by rw [hn2]; decide) (by rw [hn2]; decide) (by rw [hn2]; rfl) (by decide) ?_
        refine gc_aload_n dX9_count_58 rfl ?_
        refine go_cVI (y := M_X9_standing) (As := []) (rest := []) dX9_count_59 lm_X9_97 ok_X9_standing (by decide) (sz_lt (by decide)) kd_82 rfl rfl (w_X9_standing X  mem _ h) rfl (Nat.le_of_ble_eq_true rfl) (fun v_59 m_59 h => ?_)
        refine go_cSI (y := M_X9_bits) (As := [.int v_59]) (rest := []) dX9_count_62 lm_X9_101 ok_X9_bits (by decide) (w_X9_bits X v_59 m_59 _ h) rfl (Nat.le_of_ble_eq_true rfl) (fun v_62 m_62 h => ?_)
        exact go_iret dX9_count_65 rfl (Nat.le_refl _) (Nat.le_refl _) ⟨_, rfl, h⟩
      · have h := h.2 hn2
        have hq2 := tab_ne hn2 (a := 2) (by decide)
        by_cases hn3 : p0 = 3
        · have h := h.1 hn3
          refine gc_tabIn (off := 65) 66 dX9_count_1 (by rw [hn3]; decide) (by rw [hn3]; decide) (by rw [hn3]; rfl) (by decide) ?_
          refine gc_aload_n dX9_count_66 rfl ?_
          refine go_getR dX9_count_67 lg_X9_9 (sz_lt (by decide)) kd_82 rfl ?_
          refine gc_bipush (v := 6) dX9_count_70 (by decide) ?_
          refine go_iald 6 dX9_count_72 kd_83 rfl (by decide) ?_
          exact go_iret dX9_count_73 rfl (Nat.le_refl _) (Nat.le_refl _) ⟨_, rfl, h⟩
        · have h := h.2 hn3
          have hq3 := tab_ne hn3 (a := 3) (by decide)
          by_cases hn4 : p0 = 4
          · have h := h.1 hn4
            refine gc_tabIn (off := 73) 74 dX9_count_1 (by rw [hn4]; decide) (by rw [hn4]; decide) (by rw [hn4]; rfl) (by decide) ?_
            refine gc_aload_n dX9_count_74 rfl ?_
            refine go_getI dX9_count_75 lg_X9_292 (sz_lt (by decide)) kd_82 rfl ?_
            exact go_iret dX9_count_78 rfl (Nat.le_refl _) (Nat.le_refl _) ⟨_, rfl, h⟩
          · have h := h.2 hn4
            have hq4 := tab_ne hn4 (a := 4) (by decide)
            by_cases hn5 : p0 = 5
            · have h := h.1 hn5
              refine gc_tabIn (off := 78) 79 dX9_count_1 (by rw [hn5]; decide) (by rw [hn5]; decide) (by rw [hn5]; rfl) (by decide) ?_
              refine gc_aload_n dX9_count_79 rfl ?_
              refine go_getI dX9_count_80 lg_X9_218 (sz_lt (by decide)) kd_82 rfl ?_
              exact go_iret dX9_count_83 rfl (Nat.le_refl _) (Nat.le_refl _) ⟨_, rfl, h⟩
            · have h := h.2 hn5
              have hq5 := tab_ne hn5 (a := 5) (by decide)
              by_cases hn6 : p0 = 6
              · have h := h.1 hn6
                refine gc_tabIn (off := 83) 84 dX9_count_1 (by rw [hn6]; decide) (by rw [hn6]; decide) (by rw [hn6]; rfl) (by decide) ?_
                refine gc_aload_n dX9_count_84 rfl ?_
                refine go_getR dX9_count_85 lg_X9_9 (sz_lt (by decide)) kd_82 rfl ?_
                refine gc_iconst (v := 0) dX9_count_88 (by decide) ?_
                refine go_iald 0 dX9_count_89 kd_83 rfl (by decide) ?_
                exact go_iret dX9_count_90 rfl (Nat.le_refl _) (Nat.le_refl _) ⟨_, rfl, h⟩
              · have h := h.2 hn6
                have hq6 := tab_ne hn6 (a := 6) (by decide)
                refine gc_tabOut 91 dX9_count_1 (by have q := tab_out (x := p0) (lo := 0) (hi := 6) (fun j h1 h2 => by rcases (show j = 0 ∨ j = 1 ∨ j = 2 ∨ j = 3 ∨ j = 4 ∨ j = 5 ∨ j = 6 by omega) with rfl | rfl | rfl | rfl | rfl | rfl | rfl <;> assumption); exact q) (by decide) ?_
                refine gc_ldc (v := (-1000000001)) dX9_count_91 lk_X9_121 ?_
                exact go_iret dX9_count_93 rfl (Nat.le_refl _) (Nat.le_refl _) ⟨_, rfl, h⟩
