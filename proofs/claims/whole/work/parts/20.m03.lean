def L_X9_mostFrom_14 (p0 : Int32) (p1 : Int32) (K : Int32 → Mm → Prop) : Nat → Int32 → Int32 → Int32 → Int32 → Mm → Prop
  | 0, _, _, _, _, _ => False
  | n + 1, l1, l2, l3, l4, mem => ((24 * (mem 83 1)) ≤ l4 → (∃ i_63 : Nat, l1 = nI i_63 ∧ i_63 < 512 ∧ (∀ m_63 : Mm, m_63 = mu mem 86 i_63 l3 → (∃ i_69 : Nat, l1 = nI i_69 ∧ i_69 < 512 ∧ (K (m_63 86 i_69) m_63))))) ∧ (¬ (24 * (mem 83 1)) ≤ l4 → (W_X9_fellBy l1 l4 l2 mem (fun v_33 m_33 => (v_33 ≤ l3 → (L_X9_mostFrom_14 p0 p1  K n l1 l2 l3 (l4 + 1) m_33)) ∧ (¬ v_33 ≤ l3 → (L_X9_mostFrom_14 p0 p1  K n l1 l2 v_33 (l4 + 1) m_33)))))
set_option maxRecDepth 100000 in
set_option maxHeartbeats 4000000 in
theorem l_X9_mostFrom_14 (X : CX) (p0 : Int32) (p1 : Int32)  (K : Int32 → Mm → Prop) : ∀ (n : Nat) (l1 : Int32) (l2 : Int32) (l3 : Int32) (l4 : Int32) (mem : Mm), L_X9_mostFrom_14 p0 p1   K n l1 l2 l3 l4 mem → GoC X 19 0 0 M_X9_mostFrom 14 [some (.ref (cx_n X + 82)), some (.int l1), some (.int l2), some (.int l3), some (.int l4), none] [] 0 0 (cellAt X mem) (sz mem) (qm X (fun r m => ∃ v : Int32, r = some (.int v) ∧ K v m))
  := by
  intro n
  induction n with
  | zero => intro l1 l2 l3 l4 mem h; exact h.elim
  | succ n ih =>
    intro l1 l2 l3 l4 mem h
    unfold L_X9_mostFrom_14 at h
    refine gc_iload dX9_mostFrom_14 rfl ?_
    refine gc_bipush (v := 24) dX9_mostFrom_16 (by decide) ?_
    refine gc_aload_n dX9_mostFrom_18 rfl ?_
    refine go_getR dX9_mostFrom_19 lg_X9_9 (sz_lt (by decide)) kd_82 rfl ?_
    refine gc_iconst (v := 1) dX9_mostFrom_22 (by decide) ?_
    refine go_iald 1 dX9_mostFrom_23 kd_83 rfl (by decide) ?_
    refine gc_imul dX9_mostFrom_24 ?_
    refine gc_icmp_ge 57 dX9_mostFrom_25 (by decide) (fun hc => ?_) (fun hc => ?_)
    · have h := h.1 hc
      refine gc_aload_n dX9_mostFrom_57 rfl ?_
      refine go_getR dX9_mostFrom_58 lg_X9_19 (sz_lt (by decide)) kd_82 rfl ?_
      refine gc_iload_n dX9_mostFrom_61 rfl ?_
      refine gc_iload_n dX9_mostFrom_62 rfl ?_
      obtain ⟨i_63, hx_63, hi_63, h⟩ := h
      refine go_iast_ i_63 dX9_mostFrom_63 kd_86 hx_63 hi_63 (by decide) (fun m_63 em_63 => ?_)
      have h := h m_63 em_63
      refine gc_aload_n dX9_mostFrom_64 rfl ?_
      refine go_getR dX9_mostFrom_65 lg_X9_19 (sz_lt (by decide)) kd_82 rfl ?_
      refine gc_iload_n dX9_mostFrom_68 rfl ?_
      obtain ⟨i_69, hx_69, hi_69, h⟩ := h
      refine go_iald i_69 dX9_mostFrom_69 kd_86 hx_69 hi_69 ?_
      exact go_iret dX9_mostFrom_70 rfl (Nat.le_refl _) (Nat.le_refl _) ⟨_, rfl, h⟩
    · have h := h.2 hc
      refine gc_aload_n dX9_mostFrom_28 rfl ?_
      refine gc_iload_n dX9_mostFrom_29 rfl ?_
      refine gc_iload dX9_mostFrom_30 rfl ?_
      refine gc_iload_n dX9_mostFrom_32 rfl ?_
      refine go_cVI (y := M_X9_fellBy) (As := [.int l1, .int l4, .int l2]) (rest := []) dX9_mostFrom_33 lm_X9_198 ok_X9_fellBy (by decide) (sz_lt (by decide)) kd_82 rfl rfl (w_X9_fellBy X l1 l4 l2 mem _ h) rfl (Nat.le_of_ble_eq_true rfl) (fun v_33 m_33 h => ?_)
      refine gc_istore dX9_mostFrom_36 (by decide) ?_
      refine gc_iload dX9_mostFrom_38 rfl ?_
      refine gc_iload_n dX9_mostFrom_40 rfl ?_
      refine gc_icmp_le 49 dX9_mostFrom_41 (by decide) (fun hc => ?_) (fun hc => ?_)
      · have h := h.1 hc
        refine gc_iload_n dX9_mostFrom_49 rfl ?_
        refine gc_istore_n dX9_mostFrom_50 (by decide) ?_
        refine gc_iinc (v := l4 + 1) dX9_mostFrom_51 rfl rfl (by decide) ?_
        refine gc_goto 14 dX9_mostFrom_54 (by decide) ?_
        refine gc_forget 5 ?_
        exact ih l1 l2 l3 (l4 + 1) m_33  h
      · have h := h.2 hc
        refine gc_iload dX9_mostFrom_44 rfl ?_
        refine gc_goto 50 dX9_mostFrom_46 (by decide) ?_
        refine gc_istore_n dX9_mostFrom_50 (by decide) ?_
        refine gc_iinc (v := l4 + 1) dX9_mostFrom_51 rfl rfl (by decide) ?_
        refine gc_goto 14 dX9_mostFrom_54 (by decide) ?_
        refine gc_forget 5 ?_
        exact ih l1 l2 v_33 (l4 + 1) m_33  h
def W_X9_mostFrom (p0 : Int32) (p1 : Int32) (mem : Mm) (K : Int32 → Mm → Prop) : Prop := ∃ i_5 : Nat, p0 = nI i_5 ∧ i_5 < 512 ∧ ((0 ≤ (mem 86 i_5) → (∃ i_69 : Nat, p0 = nI i_69 ∧ i_69 < 512 ∧ (K (mem 86 i_69) mem))) ∧ (¬ 0 ≤ (mem 86 i_5) → (∃ nz : Nat, L_X9_mostFrom_14 p0 p1   K nz p0 p1 0 0 mem)))
set_option maxRecDepth 100000 in
set_option maxHeartbeats 4000000 in
theorem w_X9_mostFrom (X : CX) (p0 : Int32) (p1 : Int32) (mem : Mm) (K : Int32 → Mm → Prop) (h : W_X9_mostFrom p0 p1 mem K) : CallsI X 19 M_X9_mostFrom [.ref (cx_n X + 82), .int p0, .int p1] mem K := by
  unfold W_X9_mostFrom at h
  refine CallsC.ofP 3 (by decide) rfl (Nat.le_of_ble_eq_true rfl) ?_
  refine gc_aload_n dX9_mostFrom_0 rfl ?_
  refine go_getR dX9_mostFrom_1 lg_X9_19 (sz_lt (by decide)) kd_82 rfl ?_
  refine gc_iload_n dX9_mostFrom_4 rfl ?_
  obtain ⟨i_5, hx_5, hi_5, h⟩ := h
  refine go_iald i_5 dX9_mostFrom_5 kd_86 hx_5 hi_5 ?_
  refine gc_if_ge 64 dX9_mostFrom_6 (by decide) (fun hc => ?_) (fun hc => ?_)
  · have h := h.1 hc
    refine gc_aload_n dX9_mostFrom_64 rfl ?_
    refine go_getR dX9_mostFrom_65 lg_X9_19 (sz_lt (by decide)) kd_82 rfl ?_
    refine gc_iload_n dX9_mostFrom_68 rfl ?_
    obtain ⟨i_69, hx_69, hi_69, h⟩ := h
    refine go_iald i_69 dX9_mostFrom_69 kd_86 hx_69 hi_69 ?_
    exact go_iret dX9_mostFrom_70 rfl (Nat.le_refl _) (Nat.le_refl _) ⟨_, rfl, h⟩
  · have h := h.2 hc
    refine gc_iconst (v := 0) dX9_mostFrom_9 (by decide) ?_
    refine gc_istore_n dX9_mostFrom_10 (by decide) ?_
    refine gc_iconst (v := 0) dX9_mostFrom_11 (by decide) ?_
    refine gc_istore dX9_mostFrom_12 (by decide) ?_
    obtain ⟨n9, h⟩ := h
    exact l_X9_mostFrom_14 X p0 p1    K   n9 p0 p1 0 0 mem  h
def L_X9_pair_49 (p0 : Int32) (K : Int32 → Mm → Prop) : Nat → Int32 → Int32 → Int32 → Int32 → Mm → Prop
  | 0, _, _, _, _, _ => False
  | n + 1, l1, l2, l3, l4, mem => ((24 * (mem 83 1)) ≤ l4 → (W_X9_putsBack  mem (fun m_111 => K l3 m_111))) ∧ (¬ (24 * (mem 83 1)) ≤ l4 → (W_X9_fellBy l2 l4 l1 mem (fun v_68 m_68 => W_X9_mostFrom (m_68 82 4) l1 m_68 (fun v_85 m_85 => ((v_68 + v_85) ≤ l3 → (L_X9_pair_49 p0  K n l1 l2 l3 (l4 + 1) m_85)) ∧ (¬ (v_68 + v_85) ≤ l3 → (L_X9_pair_49 p0  K n l1 l2 (v_68 + v_85) (l4 + 1) m_85))))))
set_option maxRecDepth 100000 in
set_option maxHeartbeats 4000000 in
theorem l_X9_pair_49 (X : CX) (p0 : Int32)  (K : Int32 → Mm → Prop) : ∀ (n : Nat) (l1 : Int32) (l2 : Int32) (l3 : Int32) (l4 : Int32) (mem : Mm), L_X9_pair_49 p0   K n l1 l2 l3 l4 mem → GoC X 20 0 0 M_X9_pair 49 [some (.ref (cx_n X + 82)), some (.int l1), some (.int l2), some (.int l3), some (.int l4), none, none] [] 0 0 (cellAt X mem) (sz mem) (qm X (fun r m => ∃ v : Int32, r = some (.int v) ∧ K v m))
  := by
  intro n
  induction n with
  | zero => intro l1 l2 l3 l4 mem h; exact h.elim
  | succ n ih =>
    intro l1 l2 l3 l4 mem h
    unfold L_X9_pair_49 at h
    refine gc_iload dX9_pair_49 rfl ?_
    refine gc_bipush (v := 24) dX9_pair_51 (by decide) ?_
    refine gc_aload_n dX9_pair_53 rfl ?_
    refine go_getR dX9_pair_54 lg_X9_9 (sz_lt (by decide)) kd_82 rfl ?_
    refine gc_iconst (v := 1) dX9_pair_57 (by decide) ?_
    refine go_iald 1 dX9_pair_58 kd_83 rfl (by decide) ?_
    refine gc_imul dX9_pair_59 ?_
    refine gc_icmp_ge 110 dX9_pair_60 (by decide) (fun hc => ?_) (fun hc => ?_)
    · have h := h.1 hc
      refine gc_aload_n dX9_pair_110 rfl ?_
      refine go_cVU (y := M_X9_putsBack) (As := []) (rest := []) dX9_pair_111 lm_X9_201 ok_X9_putsBack (by decide) (sz_lt (by decide)) kd_82 rfl rfl (w_X9_putsBack X  mem _ h) rfl (Nat.le_of_ble_eq_true rfl) (fun m_111 h => ?_)
      refine gc_iload_n dX9_pair_114 rfl ?_
      exact go_iret dX9_pair_115 rfl (Nat.le_refl _) (Nat.le_refl _) ⟨_, rfl, h⟩
    · have h := h.2 hc
      refine gc_aload_n dX9_pair_63 rfl ?_
      refine gc_iload_n dX9_pair_64 rfl ?_
      refine gc_iload dX9_pair_65 rfl ?_
      refine gc_iload_n dX9_pair_67 rfl ?_
      refine go_cVI (y := M_X9_fellBy) (As := [.int l2, .int l4, .int l1]) (rest := []) dX9_pair_68 lm_X9_198 ok_X9_fellBy (by decide) (sz_lt (by decide)) kd_82 rfl rfl (w_X9_fellBy X l2 l4 l1 mem _ h) rfl (Nat.le_of_ble_eq_true rfl) (fun v_68 m_68 h => ?_)
      refine gc_istore dX9_pair_71 (by decide) ?_
      refine gc_aload_n dX9_pair_73 rfl ?_
      refine go_getI dX9_pair_74 lg_X9_188 (sz_lt (by decide)) kd_82 rfl ?_
      refine gc_istore dX9_pair_77 (by decide) ?_
      refine gc_iload dX9_pair_79 rfl ?_
      refine gc_aload_n dX9_pair_81 rfl ?_
      refine gc_iload dX9_pair_82 rfl ?_
      refine gc_iload_n dX9_pair_84 rfl ?_
      refine go_cVI (y := M_X9_mostFrom) (As := [.int (m_68 82 4), .int l1]) (rest := [.int v_68]) dX9_pair_85 lm_X9_204 ok_X9_mostFrom (by decide) (sz_lt (by decide)) kd_82 rfl rfl (w_X9_mostFrom X (m_68 82 4) l1 m_68 _ h) rfl (Nat.le_of_ble_eq_true rfl) (fun v_85 m_85 h => ?_)
      refine gc_iadd dX9_pair_88 ?_
      refine gc_istore dX9_pair_89 (by decide) ?_
      refine gc_iload dX9_pair_91 rfl ?_
      refine gc_iload_n dX9_pair_93 rfl ?_
      refine gc_icmp_le 102 dX9_pair_94 (by decide) (fun hc => ?_) (fun hc => ?_)
      · have h := h.1 hc
        refine gc_iload_n dX9_pair_102 rfl ?_
        refine gc_istore_n dX9_pair_103 (by decide) ?_
        refine gc_iinc (v := l4 + 1) dX9_pair_104 rfl rfl (by decide) ?_
        refine gc_goto 49 dX9_pair_107 (by decide) ?_
        refine gc_forget 5 ?_
        refine gc_forget 6 ?_
        exact ih l1 l2 l3 (l4 + 1) m_85  h
      · have h := h.2 hc
        refine gc_iload dX9_pair_97 rfl ?_
        refine gc_goto 103 dX9_pair_99 (by decide) ?_
        refine gc_istore_n dX9_pair_103 (by decide) ?_
        refine gc_iinc (v := l4 + 1) dX9_pair_104 rfl rfl (by decide) ?_
        refine gc_goto 49 dX9_pair_107 (by decide) ?_
        refine gc_forget 5 ?_
        refine gc_forget 6 ?_
        exact ih l1 l2 (v_68 + v_85) (l4 + 1) m_85  h
def L_X9_pair_24 (p0 : Int32) (K : Int32 → Mm → Prop) : Nat → Int32 → Int32 → Int32 → Mm → Prop
  | 0, _, _, _, _ => False
  | n + 1, l1, l2, l3, mem => (512 ≤ l3 → (∃ nz : Nat, L_X9_pair_49 p0   K nz l1 l2 0 0 mem)) ∧ (¬ 512 ≤ l3 → (∃ i_37 : Nat, l3 = nI i_37 ∧ i_37 < 512 ∧ (∀ m_37 : Mm, m_37 = mu mem 86 i_37 (-1) → (L_X9_pair_24 p0  K n l1 l2 (l3 + 1) m_37))))
set_option maxRecDepth 100000 in
set_option maxHeartbeats 4000000 in
theorem l_X9_pair_24 (X : CX) (p0 : Int32)  (K : Int32 → Mm → Prop) : ∀ (n : Nat) (l1 : Int32) (l2 : Int32) (l3 : Int32) (mem : Mm), L_X9_pair_24 p0   K n l1 l2 l3 mem → GoC X 20 0 0 M_X9_pair 24 [some (.ref (cx_n X + 82)), some (.int l1), some (.int l2), some (.int l3), none, none, none] [] 0 0 (cellAt X mem) (sz mem) (qm X (fun r m => ∃ v : Int32, r = some (.int v) ∧ K v m))
  := by
  intro n
  induction n with
  | zero => intro l1 l2 l3 mem h; exact h.elim
  | succ n ih =>
    intro l1 l2 l3 mem h
    unfold L_X9_pair_24 at h
    refine gc_iload_n dX9_pair_24 rfl ?_
    refine gc_sipush (v := 512) dX9_pair_25 (by decide) ?_
    refine gc_icmp_ge 44 dX9_pair_28 (by decide) (fun hc => ?_) (fun hc => ?_)
    · have h := h.1 hc
      refine gc_iconst (v := 0) dX9_pair_44 (by decide) ?_
      refine gc_istore_n dX9_pair_45 (by decide) ?_
      refine gc_iconst (v := 0) dX9_pair_46 (by decide) ?_
      refine gc_istore dX9_pair_47 (by decide) ?_
      obtain ⟨n9, h⟩ := h
      exact l_X9_pair_49 X p0    K   n9 l1 l2 0 0 mem  h
    · have h := h.2 hc
      refine gc_aload_n dX9_pair_31 rfl ?_
      refine go_getR dX9_pair_32 lg_X9_19 (sz_lt (by decide)) kd_82 rfl ?_
      refine gc_iload_n dX9_pair_35 rfl ?_
      refine gc_iconst (v := (-1)) dX9_pair_36 (by decide) ?_
      obtain ⟨i_37, hx_37, hi_37, h⟩ := h
      refine go_iast_ i_37 dX9_pair_37 kd_86 hx_37 hi_37 (by decide) (fun m_37 em_37 => ?_)
      have h := h m_37 em_37
      refine gc_iinc (v := l3 + 1) dX9_pair_38 rfl rfl (by decide) ?_
      refine gc_goto 24 dX9_pair_41 (by decide) ?_
      exact ih l1 l2 (l3 + 1) m_37  h
def W_X9_pair (p0 : Int32) (mem : Mm) (K : Int32 → Mm → Prop) : Prop := W_X9_in p0 0 99 mem (fun v_4 m_4 => (¬ (bZ v_4) = 0 → (W_X9_standing  m_4 (fun v_14 m_14 => W_X9_thinks  m_14 (fun m_19 => ∃ nz : Nat, L_X9_pair_24 p0   K nz p0 v_14 0 m_19)))) ∧ ((bZ v_4) = 0 → (K (-1000000001) m_4)))
set_option maxRecDepth 100000 in
set_option maxHeartbeats 4000000 in
theorem w_X9_pair (X : CX) (p0 : Int32) (mem : Mm) (K : Int32 → Mm → Prop) (h : W_X9_pair p0 mem K) : CallsI X 20 M_X9_pair [.ref (cx_n X + 82), .int p0] mem K := by
  unfold W_X9_pair at h
  refine CallsC.ofP 5 (by decide) rfl (Nat.le_of_ble_eq_true rfl) ?_
  refine gc_iload_n dX9_pair_0 rfl ?_
  refine gc_iconst (v := 0) dX9_pair_1 (by decide) ?_
  refine gc_bipush (v := 99) dX9_pair_2 (by decide) ?_
  refine go_cSZ (y := M_X9_in) (As := [.int p0, .int 0, .int 99]) (rest := []) dX9_pair_4 lm_X9_81 ok_X9_in (by decide) (w_X9_in X p0 0 99 mem _ h) rfl (Nat.le_of_ble_eq_true rfl) (fun v_4 m_4 h => ?_)
  refine gc_if_ne 13 dX9_pair_7 (by decide) (fun hc => ?_) (fun hc => ?_)
  · have h := h.1 hc
    refine gc_aload_n dX9_pair_13 rfl ?_
    refine go_cVI (y := M_X9_standing) (As := []) (rest := []) dX9_pair_14 lm_X9_97 ok_X9_standing (by decide) (sz_lt (by decide)) kd_82 rfl rfl (w_X9_standing X  m_4 _ h) rfl (Nat.le_of_ble_eq_true rfl) (fun v_14 m_14 h => ?_)
    refine gc_istore_n dX9_pair_17 (by decide) ?_
    refine gc_aload_n dX9_pair_18 rfl ?_
    refine go_cVU (y := M_X9_thinks) (As := []) (rest := []) dX9_pair_19 lm_X9_195 ok_X9_thinks (by decide) (sz_lt (by decide)) kd_82 rfl rfl (w_X9_thinks X  m_14 _ h) rfl (Nat.le_of_ble_eq_true rfl) (fun m_19 h => ?_)
    refine gc_iconst (v := 0) dX9_pair_22 (by decide) ?_
    refine gc_istore_n dX9_pair_23 (by decide) ?_
    obtain ⟨n9, h⟩ := h
    exact l_X9_pair_24 X p0    K   n9 p0 v_14 0 m_19  h
  · have h := h.2 hc
    refine gc_ldc (v := (-1000000001)) dX9_pair_10 lk_X9_121 ?_
    exact go_iret dX9_pair_12 rfl (Nat.le_refl _) (Nat.le_refl _) ⟨_, rfl, h⟩
def L_X9_goesFrom_2 (p0 : Int32) (p1 : Int32) (K : Mm → Prop) : Nat → Int32 → Int32 → Int32 → Mm → Prop
  | 0, _, _, _, _ => False
  | n + 1, l1, l2, l3, mem => ((24 * (mem 83 1)) ≤ l3 → (K mem)) ∧ (¬ (24 * (mem 83 1)) ≤ l3 → (W_X9_fellBy l1 l3 l2 mem (fun v_19 m_19 => ∃ i_40 : Nat, (m_19 82 4) = nI i_40 ∧ i_40 < 512 ∧ ((0 ≤ (m_19 87 i_40) → (∃ i_63 : Nat, (m_19 82 4) = nI i_63 ∧ i_63 < 512 ∧ (∃ i_64 : Nat, (m_19 82 4) = nI i_64 ∧ i_64 < 512 ∧ (∀ m_64 : Mm, m_64 = mu m_19 87 i_64 (m_19 87 i_63) → (L_X9_goesFrom_2 p0 p1  K n l1 l2 (l3 + 1) m_64))))) ∧ (¬ 0 ≤ (m_19 87 i_40) → (∃ i_49 : Nat, l1 = nI i_49 ∧ i_49 < 512 ∧ (∃ i_64 : Nat, (m_19 82 4) = nI i_64 ∧ i_64 < 512 ∧ (∀ m_64 : Mm, m_64 = mu m_19 87 i_64 ((m_19 87 i_49) + 1) → (L_X9_goesFrom_2 p0 p1  K n l1 l2 (l3 + 1) m_64)))))))))
set_option maxRecDepth 100000 in
set_option maxHeartbeats 4000000 in
theorem l_X9_goesFrom_2 (X : CX) (p0 : Int32) (p1 : Int32)  (K : Mm → Prop) : ∀ (n : Nat) (l1 : Int32) (l2 : Int32) (l3 : Int32) (mem : Mm), L_X9_goesFrom_2 p0 p1   K n l1 l2 l3 mem → GoC X 19 0 0 M_X9_goesFrom 2 [some (.ref (cx_n X + 82)), some (.int l1), some (.int l2), some (.int l3), none] [] 0 0 (cellAt X mem) (sz mem) (qm X (fun r m => r = none ∧ K m))
  := by
  intro n
  induction n with
  | zero => intro l1 l2 l3 mem h; exact h.elim
  | succ n ih =>
    intro l1 l2 l3 mem h
    unfold L_X9_goesFrom_2 at h
    refine gc_iload_n dX9_goesFrom_2 rfl ?_
    refine gc_bipush (v := 24) dX9_goesFrom_3 (by decide) ?_
    refine gc_aload_n dX9_goesFrom_5 rfl ?_
    refine go_getR dX9_goesFrom_6 lg_X9_9 (sz_lt (by decide)) kd_82 rfl ?_
    refine gc_iconst (v := 1) dX9_goesFrom_9 (by decide) ?_
    refine go_iald 1 dX9_goesFrom_10 kd_83 rfl (by decide) ?_
    refine gc_imul dX9_goesFrom_11 ?_
    refine gc_icmp_ge 71 dX9_goesFrom_12 (by decide) (fun hc => ?_) (fun hc => ?_)
    · have h := h.1 hc
      exact go_vret dX9_goesFrom_71 rfl (Nat.le_refl _) (Nat.le_refl _) ⟨rfl, h⟩
    · have h := h.2 hc
      refine gc_aload_n dX9_goesFrom_15 rfl ?_
      refine gc_iload_n dX9_goesFrom_16 rfl ?_
      refine gc_iload_n dX9_goesFrom_17 rfl ?_
      refine gc_iload_n dX9_goesFrom_18 rfl ?_
      refine go_cVI (y := M_X9_fellBy) (As := [.int l1, .int l3, .int l2]) (rest := []) dX9_goesFrom_19 lm_X9_198 ok_X9_fellBy (by decide) (sz_lt (by decide)) kd_82 rfl rfl (w_X9_fellBy X l1 l3 l2 mem _ h) rfl (Nat.le_of_ble_eq_true rfl) (fun v_19 m_19 h => ?_)
      refine gc_istore dX9_goesFrom_22 (by decide) ?_
      refine gc_aload_n dX9_goesFrom_24 rfl ?_
      refine go_getR dX9_goesFrom_25 lg_X9_22 (sz_lt (by decide)) kd_82 rfl ?_
      refine gc_aload_n dX9_goesFrom_28 rfl ?_
      refine go_getI dX9_goesFrom_29 lg_X9_188 (sz_lt (by decide)) kd_82 rfl ?_
      refine gc_aload_n dX9_goesFrom_32 rfl ?_
      refine go_getR dX9_goesFrom_33 lg_X9_22 (sz_lt (by decide)) kd_82 rfl ?_
      refine gc_aload_n dX9_goesFrom_36 rfl ?_
      refine go_getI dX9_goesFrom_37 lg_X9_188 (sz_lt (by decide)) kd_82 rfl ?_
      obtain ⟨i_40, hx_40, hi_40, h⟩ := h
      refine go_iald i_40 dX9_goesFrom_40 kd_87 hx_40 hi_40 ?_
      refine gc_if_ge 55 dX9_goesFrom_41 (by decide) (fun hc => ?_) (fun hc => ?_)
      · have h := h.1 hc
        refine gc_aload_n dX9_goesFrom_55 rfl ?_
        refine go_getR dX9_goesFrom_56 lg_X9_22 (sz_lt (by decide)) kd_82 rfl ?_
        refine gc_aload_n dX9_goesFrom_59 rfl ?_
        refine go_getI dX9_goesFrom_60 lg_X9_188 (sz_lt (by decide)) kd_82 rfl ?_
        obtain ⟨i_63, hx_63, hi_63, h⟩ := h
        refine go_iald i_63 dX9_goesFrom_63 kd_87 hx_63 hi_63 ?_
        obtain ⟨i_64, hx_64, hi_64, h⟩ := h
        refine go_iast_ i_64 dX9_goesFrom_64 kd_87 hx_64 hi_64 (by decide) (fun m_64 em_64 => ?_)
        have h := h m_64 em_64
        refine gc_iinc (v := l3 + 1) dX9_goesFrom_65 rfl rfl (by decide) ?_
        refine gc_goto 2 dX9_goesFrom_68 (by decide) ?_
        refine gc_forget 4 ?_
        exact ih l1 l2 (l3 + 1) m_64  h
      · have h := h.2 hc
        refine gc_aload_n dX9_goesFrom_44 rfl ?_
        refine go_getR dX9_goesFrom_45 lg_X9_22 (sz_lt (by decide)) kd_82 rfl ?_
        refine gc_iload_n dX9_goesFrom_48 rfl ?_
        obtain ⟨i_49, hx_49, hi_49, h⟩ := h
        refine go_iald i_49 dX9_goesFrom_49 kd_87 hx_49 hi_49 ?_
        refine gc_iconst (v := 1) dX9_goesFrom_50 (by decide) ?_
        refine gc_iadd dX9_goesFrom_51 ?_
        refine gc_goto 64 dX9_goesFrom_52 (by decide) ?_
        obtain ⟨i_64, hx_64, hi_64, h⟩ := h
        refine go_iast_ i_64 dX9_goesFrom_64 kd_87 hx_64 hi_64 (by decide) (fun m_64 em_64 => ?_)
        have h := h m_64 em_64
        refine gc_iinc (v := l3 + 1) dX9_goesFrom_65 rfl rfl (by decide) ?_
        refine gc_goto 2 dX9_goesFrom_68 (by decide) ?_
        refine gc_forget 4 ?_
        exact ih l1 l2 (l3 + 1) m_64  h
def W_X9_goesFrom (p0 : Int32) (p1 : Int32) (mem : Mm) (K : Mm → Prop) : Prop := ∃ nz : Nat, L_X9_goesFrom_2 p0 p1   K nz p0 p1 0 mem
set_option maxRecDepth 100000 in
set_option maxHeartbeats 4000000 in
theorem w_X9_goesFrom (X : CX) (p0 : Int32) (p1 : Int32) (mem : Mm) (K : Mm → Prop) (h : W_X9_goesFrom p0 p1 mem K) : CallsU X 19 M_X9_goesFrom [.ref (cx_n X + 82), .int p0, .int p1] mem K := by
  unfold W_X9_goesFrom at h
  refine CallsC.ofP 2 (by decide) rfl (Nat.le_of_ble_eq_true rfl) ?_
  refine gc_iconst (v := 0) dX9_goesFrom_0 (by decide) ?_
  refine gc_istore_n dX9_goesFrom_1 (by decide) ?_
  obtain ⟨n9, h⟩ := h
  exact l_X9_goesFrom_2 X p0 p1    K   n9 p0 p1 0 mem  h
def B_X9_clear_106 (p0 : Int32) (K : Int32 → Mm → Prop)  (mem : Mm) : Prop := W_X9_putsBack  mem (fun m_107 => (0 ≤ (m_107 87 0) → (K (m_107 87 0) m_107)) ∧ (¬ 0 ≤ (m_107 87 0) → (K (-1000000005) m_107)))
set_option maxRecDepth 100000 in
set_option maxHeartbeats 4000000 in
theorem b_X9_clear_106 (X : CX) (p0 : Int32)  (K : Int32 → Mm → Prop)  (mem : Mm)  (h : B_X9_clear_106 p0   K  mem) : GoC X 20 0 0 M_X9_clear 106 [some (.ref (cx_n X + 82)), none, none, none, none] [] 0 0 (cellAt X mem) (sz mem) (qm X (fun r m => ∃ v : Int32, r = some (.int v) ∧ K v m)) := by
  unfold B_X9_clear_106 at h
  refine gc_aload_n dX9_clear_106 rfl ?_
  refine go_cVU (y := M_X9_putsBack) (As := []) (rest := []) dX9_clear_107 lm_X9_201 ok_X9_putsBack (by decide) (sz_lt (by decide)) kd_82 rfl rfl (w_X9_putsBack X  mem _ h) rfl (Nat.le_of_ble_eq_true rfl) (fun m_107 h => ?_)
  refine gc_aload_n dX9_clear_110 rfl ?_
  refine go_getR dX9_clear_111 lg_X9_22 (sz_lt (by decide)) kd_82 rfl ?_
  refine gc_iconst (v := 0) dX9_clear_114 (by decide) ?_
  refine go_iald 0 dX9_clear_115 kd_87 rfl (by decide) ?_
  refine gc_if_ge 124 dX9_clear_116 (by decide) (fun hc => ?_) (fun hc => ?_)
  · have h := h.1 hc
    refine gc_aload_n dX9_clear_124 rfl ?_
    refine go_getR dX9_clear_125 lg_X9_22 (sz_lt (by decide)) kd_82 rfl ?_
    refine gc_iconst (v := 0) dX9_clear_128 (by decide) ?_
    refine go_iald 0 dX9_clear_129 kd_87 rfl (by decide) ?_
    exact go_iret dX9_clear_130 rfl (Nat.le_refl _) (Nat.le_refl _) ⟨_, rfl, h⟩
  · have h := h.2 hc
    refine gc_ldc (v := (-1000000005)) dX9_clear_119 lk_X9_180 ?_
    refine gc_goto 130 dX9_clear_121 (by decide) ?_
    exact go_iret dX9_clear_130 rfl (Nat.le_refl _) (Nat.le_refl _) ⟨_, rfl, h⟩
def L_X9_clear_71 (p0 : Int32) (kb53 : Int32 → Int32 → Int32 → Mm → Prop) (K : Int32 → Mm → Prop) : Nat → Int32 → Int32 → Int32 → Int32 → Mm → Prop
  | 0, _, _, _, _, _ => False
  | n + 1, l1, l2, l3, l4, mem => (l4 ≤ 0 → (kb53 l1 l2 (l3 + 1) mem)) ∧ (¬ l4 ≤ 0 → (∃ i_82 : Nat, l4 = nI i_82 ∧ i_82 < 512 ∧ ((¬ (mem 87 i_82) = l3 → (L_X9_clear_71 p0 kb53 K n l1 l2 l3 (l4 + (-1)) mem)) ∧ ((mem 87 i_82) = l3 → (W_X9_goesFrom l4 l1 mem (fun m_91 => L_X9_clear_71 p0 kb53 K n l1 l2 l3 (l4 + (-1)) m_91))))))
set_option maxRecDepth 100000 in
set_option maxHeartbeats 4000000 in
theorem l_X9_clear_71 (X : CX) (p0 : Int32)  (kb53 : Int32 → Int32 → Int32 → Mm → Prop) (K : Int32 → Mm → Prop) (hkb53 : ∀ (l1 : Int32) (l2 : Int32) (l3 : Int32) (mem : Mm), kb53 l1 l2 l3 mem → GoC X 20 0 0 M_X9_clear 53 [some (.ref (cx_n X + 82)), some (.int l1), some (.int l2), some (.int l3), none] [] 0 0 (cellAt X mem) (sz mem) (qm X (fun r m => ∃ v : Int32, r = some (.int v) ∧ K v m))) : ∀ (n : Nat) (l1 : Int32) (l2 : Int32) (l3 : Int32) (l4 : Int32) (mem : Mm), L_X9_clear_71 p0  kb53 K n l1 l2 l3 l4 mem → GoC X 20 0 0 M_X9_clear 71 [some (.ref (cx_n X + 82)), some (.int l1), some (.int l2), some (.int l3), some (.int l4)] [] 0 0 (cellAt X mem) (sz mem) (qm X (fun r m => ∃ v : Int32, r = some (.int v) ∧ K v m))
  := by
  intro n
  induction n with
  | zero => intro l1 l2 l3 l4 mem h; exact h.elim
  | succ n ih =>
    intro l1 l2 l3 l4 mem h
    unfold L_X9_clear_71 at h
    refine gc_iload dX9_clear_71 rfl ?_
    refine gc_if_le 100 dX9_clear_73 (by decide) (fun hc => ?_) (fun hc => ?_)
    · have h := h.1 hc
      refine gc_iinc (v := l3 + 1) dX9_clear_100 rfl rfl (by decide) ?_
      refine gc_goto 53 dX9_clear_103 (by decide) ?_
      refine gc_forget 4 ?_
      exact hkb53 l1 l2 (l3 + 1) mem  h
    · have h := h.2 hc
      refine gc_aload_n dX9_clear_76 rfl ?_
      refine go_getR dX9_clear_77 lg_X9_22 (sz_lt (by decide)) kd_82 rfl ?_
      refine gc_iload dX9_clear_80 rfl ?_
      obtain ⟨i_82, hx_82, hi_82, h⟩ := h
      refine go_iald i_82 dX9_clear_82 kd_87 hx_82 hi_82 ?_
      refine gc_iload_n dX9_clear_83 rfl ?_
      refine gc_icmp_ne 94 dX9_clear_84 (by decide) (fun hc => ?_) (fun hc => ?_)
      · have h := h.1 hc
        refine gc_iinc (v := l4 + (-1)) dX9_clear_94 rfl rfl (by decide) ?_
        refine gc_goto 71 dX9_clear_97 (by decide) ?_
        exact ih l1 l2 l3 (l4 + (-1)) mem  h
      · have h := h.2 hc
        refine gc_aload_n dX9_clear_87 rfl ?_
        refine gc_iload dX9_clear_88 rfl ?_
        refine gc_iload_n dX9_clear_90 rfl ?_
        refine go_cVU (y := M_X9_goesFrom) (As := [.int l4, .int l1]) (rest := []) dX9_clear_91 lm_X9_207 ok_X9_goesFrom (by decide) (sz_lt (by decide)) kd_82 rfl rfl (w_X9_goesFrom X l4 l1 mem _ h) rfl (Nat.le_of_ble_eq_true rfl) (fun m_91 h => ?_)
        refine gc_iinc (v := l4 + (-1)) dX9_clear_94 rfl rfl (by decide) ?_
        refine gc_goto 71 dX9_clear_97 (by decide) ?_
        exact ih l1 l2 l3 (l4 + (-1)) m_91  h
def L_X9_clear_53 (p0 : Int32) (K : Int32 → Mm → Prop) : Nat → Int32 → Int32 → Int32 → Mm → Prop
  | 0, _, _, _, _ => False
  | n + 1, l1, l2, l3, mem => (9 ≤ l3 → (B_X9_clear_106 p0   K  mem)) ∧ (¬ 9 ≤ l3 → ((0 ≤ (mem 87 0) → (B_X9_clear_106 p0   K  mem)) ∧ (¬ 0 ≤ (mem 87 0) → (∃ nz : Nat, L_X9_clear_71 p0  (fun zl1 zl2 zl3 zm => L_X9_clear_53 p0  K n zl1 zl2 zl3 zm) K nz l1 l2 l3 l2 mem))))
set_option maxRecDepth 100000 in
set_option maxHeartbeats 4000000 in
theorem l_X9_clear_53 (X : CX) (p0 : Int32)  (K : Int32 → Mm → Prop) : ∀ (n : Nat) (l1 : Int32) (l2 : Int32) (l3 : Int32) (mem : Mm), L_X9_clear_53 p0   K n l1 l2 l3 mem → GoC X 20 0 0 M_X9_clear 53 [some (.ref (cx_n X + 82)), some (.int l1), some (.int l2), some (.int l3), none] [] 0 0 (cellAt X mem) (sz mem) (qm X (fun r m => ∃ v : Int32, r = some (.int v) ∧ K v m))
  := by
  intro n
  induction n with
  | zero => intro l1 l2 l3 mem h; exact h.elim
  | succ n ih =>
    intro l1 l2 l3 mem h
    unfold L_X9_clear_53 at h
    refine gc_iload_n dX9_clear_53 rfl ?_
    refine gc_bipush (v := 9) dX9_clear_54 (by decide) ?_
    refine gc_icmp_ge 106 dX9_clear_56 (by decide) (fun hc => ?_) (fun hc => ?_)
    · have h := h.1 hc
      refine gc_forget 1 ?_
      refine gc_forget 2 ?_
      refine gc_forget 3 ?_
      exact b_X9_clear_106 X p0    K    mem  h
    · have h := h.2 hc
      refine gc_aload_n dX9_clear_59 rfl ?_
      refine go_getR dX9_clear_60 lg_X9_22 (sz_lt (by decide)) kd_82 rfl ?_
      refine gc_iconst (v := 0) dX9_clear_63 (by decide) ?_
      refine go_iald 0 dX9_clear_64 kd_87 rfl (by decide) ?_
      refine gc_if_ge 106 dX9_clear_65 (by decide) (fun hc => ?_) (fun hc => ?_)
      · have h := h.1 hc
        refine gc_forget 1 ?_
        refine gc_forget 2 ?_
        refine gc_forget 3 ?_
        exact b_X9_clear_106 X p0    K    mem  h
      · have h := h.2 hc
        refine gc_iload_n dX9_clear_68 rfl ?_
        refine gc_istore dX9_clear_69 (by decide) ?_
        obtain ⟨n9, h⟩ := h
        exact l_X9_clear_71 X p0   (fun zl1 zl2 zl3 zm => L_X9_clear_53 p0  K n zl1 zl2 zl3 zm) K  ih n9 l1 l2 l3 l2 mem  h
def L_X9_clear_24 (p0 : Int32) (K : Int32 → Mm → Prop) : Nat → Int32 → Int32 → Int32 → Mm → Prop
  | 0, _, _, _, _ => False
  | n + 1, l1, l2, l3, mem => (512 ≤ l3 → (∃ i_50 : Nat, l2 = nI i_50 ∧ i_50 < 512 ∧ (∀ m_50 : Mm, m_50 = mu mem 87 i_50 0 → (∃ nz : Nat, L_X9_clear_53 p0   K nz l1 l2 0 m_50)))) ∧ (¬ 512 ≤ l3 → (∃ i_37 : Nat, l3 = nI i_37 ∧ i_37 < 512 ∧ (∀ m_37 : Mm, m_37 = mu mem 87 i_37 (-1) → (L_X9_clear_24 p0  K n l1 l2 (l3 + 1) m_37))))
set_option maxRecDepth 100000 in
set_option maxHeartbeats 4000000 in
theorem l_X9_clear_24 (X : CX) (p0 : Int32)  (K : Int32 → Mm → Prop) : ∀ (n : Nat) (l1 : Int32) (l2 : Int32) (l3 : Int32) (mem : Mm), L_X9_clear_24 p0   K n l1 l2 l3 mem → GoC X 20 0 0 M_X9_clear 24 [some (.ref (cx_n X + 82)), some (.int l1), some (.int l2), some (.int l3), none] [] 0 0 (cellAt X mem) (sz mem) (qm X (fun r m => ∃ v : Int32, r = some (.int v) ∧ K v m))
  := by
  intro n
  induction n with
  | zero => intro l1 l2 l3 mem h; exact h.elim
  | succ n ih =>
    intro l1 l2 l3 mem h
    unfold L_X9_clear_24 at h
    refine gc_iload_n dX9_clear_24 rfl ?_
    refine gc_sipush (v := 512) dX9_clear_25 (by decide) ?_
    refine gc_icmp_ge 44 dX9_clear_28 (by decide) (fun hc => ?_) (fun hc => ?_)
    · have h := h.1 hc
      refine gc_aload_n dX9_clear_44 rfl ?_
      refine go_getR dX9_clear_45 lg_X9_22 (sz_lt (by decide)) kd_82 rfl ?_
      refine gc_iload_n dX9_clear_48 rfl ?_
      refine gc_iconst (v := 0) dX9_clear_49 (by decide) ?_
      obtain ⟨i_50, hx_50, hi_50, h⟩ := h
      refine go_iast_ i_50 dX9_clear_50 kd_87 hx_50 hi_50 (by decide) (fun m_50 em_50 => ?_)
      have h := h m_50 em_50
      refine gc_iconst (v := 0) dX9_clear_51 (by decide) ?_
      refine gc_istore_n dX9_clear_52 (by decide) ?_
      obtain ⟨n9, h⟩ := h
      exact l_X9_clear_53 X p0    K   n9 l1 l2 0 m_50  h
    · have h := h.2 hc
      refine gc_aload_n dX9_clear_31 rfl ?_
      refine go_getR dX9_clear_32 lg_X9_22 (sz_lt (by decide)) kd_82 rfl ?_
      refine gc_iload_n dX9_clear_35 rfl ?_
      refine gc_iconst (v := (-1)) dX9_clear_36 (by decide) ?_
      obtain ⟨i_37, hx_37, hi_37, h⟩ := h
      refine go_iast_ i_37 dX9_clear_37 kd_87 hx_37 hi_37 (by decide) (fun m_37 em_37 => ?_)
      have h := h m_37 em_37
      refine gc_iinc (v := l3 + 1) dX9_clear_38 rfl rfl (by decide) ?_
      refine gc_goto 24 dX9_clear_41 (by decide) ?_
      exact ih l1 l2 (l3 + 1) m_37  h
def W_X9_clear (p0 : Int32) (mem : Mm) (K : Int32 → Mm → Prop) : Prop := W_X9_in p0 0 99 mem (fun v_4 m_4 => (¬ (bZ v_4) = 0 → (W_X9_standing  m_4 (fun v_14 m_14 => W_X9_thinks  m_14 (fun m_19 => ∃ nz : Nat, L_X9_clear_24 p0   K nz p0 v_14 0 m_19)))) ∧ ((bZ v_4) = 0 → (K (-1000000001) m_4)))
set_option maxRecDepth 100000 in
set_option maxHeartbeats 4000000 in
theorem w_X9_clear (X : CX) (p0 : Int32) (mem : Mm) (K : Int32 → Mm → Prop) (h : W_X9_clear p0 mem K) : CallsI X 20 M_X9_clear [.ref (cx_n X + 82), .int p0] mem K := by
  unfold W_X9_clear at h
  refine CallsC.ofP 3 (by decide) rfl (Nat.le_of_ble_eq_true rfl) ?_
  refine gc_iload_n dX9_clear_0 rfl ?_
  refine gc_iconst (v := 0) dX9_clear_1 (by decide) ?_
  refine gc_bipush (v := 99) dX9_clear_2 (by decide) ?_
  refine go_cSZ (y := M_X9_in) (As := [.int p0, .int 0, .int 99]) (rest := []) dX9_clear_4 lm_X9_81 ok_X9_in (by decide) (w_X9_in X p0 0 99 mem _ h) rfl (Nat.le_of_ble_eq_true rfl) (fun v_4 m_4 h => ?_)
  refine gc_if_ne 13 dX9_clear_7 (by decide) (fun hc => ?_) (fun hc => ?_)
  · have h := h.1 hc
    refine gc_aload_n dX9_clear_13 rfl ?_
    refine go_cVI (y := M_X9_standing) (As := []) (rest := []) dX9_clear_14 lm_X9_97 ok_X9_standing (by decide) (sz_lt (by decide)) kd_82 rfl rfl (w_X9_standing X  m_4 _ h) rfl (Nat.le_of_ble_eq_true rfl) (fun v_14 m_14 h => ?_)
    refine gc_istore_n dX9_clear_17 (by decide) ?_
    refine gc_aload_n dX9_clear_18 rfl ?_
    refine go_cVU (y := M_X9_thinks) (As := []) (rest := []) dX9_clear_19 lm_X9_195 ok_X9_thinks (by decide) (sz_lt (by decide)) kd_82 rfl rfl (w_X9_thinks X  m_14 _ h) rfl (Nat.le_of_ble_eq_true rfl) (fun m_19 h => ?_)
    refine gc_iconst (v := 0) dX9_clear_22 (by decide) ?_
    refine gc_istore_n dX9_clear_23 (by decide) ?_
    obtain ⟨n9, h⟩ := h
    exact l_X9_clear_24 X p0    K   n9 p0 v_14 0 m_19  h
  · have h := h.2 hc
    refine gc_ldc (v := (-1000000001)) dX9_clear_10 lk_X9_121 ?_
    exact go_iret dX9_clear_12 rfl (Nat.le_refl _) (Nat.le_refl _) ⟨_, rfl, h⟩
def W_X9_force (p0 : Int32) (p1 : Int32) (mem : Mm) (K : Int32 → Mm → Prop) : Prop := W_X9_isMan p0 mem (fun v_2 m_2 => ((bZ v_2) = 0 → (K (-1000000001) m_2)) ∧ (¬ (bZ v_2) = 0 → (W_X9_isTopic p1 m_2 (fun v_9 m_9 => (¬ (bZ v_9) = 0 → (W_X9_doesStand p0 m_9 (fun v_20 m_20 => (¬ (bZ v_20) = 0 → (W_X9_bearsOf p0 p1 m_20 (fun v_32 m_32 => (99 ≤ v_32 → (K (-1000000005) m_32)) ∧ (¬ 99 ≤ v_32 → (K (v_32 + 1) m_32))))) ∧ ((bZ v_20) = 0 → (K (-1000000002) m_20))))) ∧ ((bZ v_9) = 0 → (K (-1000000001) m_9))))))
set_option maxRecDepth 100000 in
set_option maxHeartbeats 4000000 in
theorem w_X9_force (X : CX) (p0 : Int32) (p1 : Int32) (mem : Mm) (K : Int32 → Mm → Prop) (h : W_X9_force p0 p1 mem K) : CallsI X 4 M_X9_force [.ref (cx_n X + 82), .int p0, .int p1] mem K := by
  unfold W_X9_force at h
  refine CallsC.ofP 1 (by decide) rfl (Nat.le_of_ble_eq_true rfl) ?_
  refine gc_aload_n dX9_force_0 rfl ?_
  refine gc_iload_n dX9_force_1 rfl ?_
  refine go_cVZ (y := M_X9_isMan) (As := [.int p0]) (rest := []) dX9_force_2 lm_X9_85 ok_X9_isMan (by decide) (sz_lt (by decide)) kd_82 rfl rfl (w_X9_isMan X p0 mem _ h) rfl (Nat.le_of_ble_eq_true rfl) (fun v_2 m_2 h => ?_)
  refine gc_if_eq 15 dX9_force_5 (by decide) (fun hc => ?_) (fun hc => ?_)
  · have h := h.1 hc
    refine gc_ldc (v := (-1000000001)) dX9_force_15 lk_X9_121 ?_
    exact go_iret dX9_force_17 rfl (Nat.le_refl _) (Nat.le_refl _) ⟨_, rfl, h⟩
  · have h := h.2 hc
    refine gc_iload_n dX9_force_8 rfl ?_
    refine go_cSZ (y := M_X9_isTopic) (As := [.int p1]) (rest := []) dX9_force_9 lm_X9_118 ok_X9_isTopic (by decide) (w_X9_isTopic X p1 m_2 _ h) rfl (Nat.le_of_ble_eq_true rfl) (fun v_9 m_9 h => ?_)
    refine gc_if_ne 18 dX9_force_12 (by decide) (fun hc => ?_) (fun hc => ?_)
    · have h := h.1 hc
      refine gc_aload_n dX9_force_18 rfl ?_
      refine gc_iload_n dX9_force_19 rfl ?_
      refine go_cVZ (y := M_X9_doesStand) (As := [.int p0]) (rest := []) dX9_force_20 lm_X9_150 ok_X9_doesStand (by decide) (sz_lt (by decide)) kd_82 rfl rfl (w_X9_doesStand X p0 m_9 _ h) rfl (Nat.le_of_ble_eq_true rfl) (fun v_20 m_20 h => ?_)
      refine gc_if_ne 29 dX9_force_23 (by decide) (fun hc => ?_) (fun hc => ?_)
      · have h := h.1 hc
        refine gc_aload_n dX9_force_29 rfl ?_
        refine gc_iload_n dX9_force_30 rfl ?_
        refine gc_iload_n dX9_force_31 rfl ?_
        refine go_cVI (y := M_X9_bearsOf) (As := [.int p0, .int p1]) (rest := []) dX9_force_32 lm_X9_133 ok_X9_bearsOf (by decide) (sz_lt (by decide)) kd_82 rfl rfl (w_X9_bearsOf X p0 p1 m_20 _ h) rfl (Nat.le_of_ble_eq_true rfl) (fun v_32 m_32 h => ?_)
        refine gc_istore_n dX9_force_35 (by decide) ?_
        refine gc_iload_n dX9_force_36 rfl ?_
        refine gc_bipush (v := 99) dX9_force_37 (by decide) ?_
        refine gc_icmp_ge 48 dX9_force_39 (by decide) (fun hc => ?_) (fun hc => ?_)
        · have h := h.1 hc
          refine gc_ldc (v := (-1000000005)) dX9_force_48 lk_X9_180 ?_
          exact go_iret dX9_force_50 rfl (Nat.le_refl _) (Nat.le_refl _) ⟨_, rfl, h⟩
        · have h := h.2 hc
          refine gc_iload_n dX9_force_42 rfl ?_
          refine gc_iconst (v := 1) dX9_force_43 (by decide) ?_
          refine gc_iadd dX9_force_44 ?_
          refine gc_goto 50 dX9_force_45 (by decide) ?_
          exact go_iret dX9_force_50 rfl (Nat.le_refl _) (Nat.le_refl _) ⟨_, rfl, h⟩
      · have h := h.2 hc
        refine gc_ldc (v := (-1000000002)) dX9_force_26 lk_X9_162 ?_
        exact go_iret dX9_force_28 rfl (Nat.le_refl _) (Nat.le_refl _) ⟨_, rfl, h⟩
    · have h := h.2 hc
      refine gc_ldc (v := (-1000000001)) dX9_force_15 lk_X9_121 ?_
      exact go_iret dX9_force_17 rfl (Nat.le_refl _) (Nat.le_refl _) ⟨_, rfl, h⟩
def W_X9_behind (p0 : Int32) (p1 : Int32) (mem : Mm) (K : Int32 → Mm → Prop) : Prop := W_X9_in p0 0 100 mem (fun v_4 m_4 => ((bZ v_4) = 0 → (K (-1000000001) m_4)) ∧ (¬ (bZ v_4) = 0 → (W_X9_in p1 0 (2 + (m_4 83 1)) m_4 (fun v_20 m_20 => (¬ (bZ v_20) = 0 → (W_X9_thinks  m_20 (fun m_30 => W_X9_goesOn p0 m_30 (fun m_35 => (2 ≤ p1 → ((¬ p1 = 2 → (W_X9_of (p1 - 3) 4 m_35 (fun v_74 m_74 => W_X9_putsBack  m_74 (fun m_79 => K v_74 m_79)))) ∧ (p1 = 2 → (W_X9_standing  m_35 (fun v_60 m_60 => W_X9_bits v_60 m_60 (fun v_63 m_63 => W_X9_putsBack  m_63 (fun m_79 => K v_63 m_79))))))) ∧ (¬ 2 ≤ p1 → (∃ i_50 : Nat, (3 + p1) = nI i_50 ∧ i_50 < 1433 ∧ (W_X9_putsBack  m_35 (fun m_79 => K (m_35 83 i_50) m_79)))))))) ∧ ((bZ v_20) = 0 → (K (-1000000001) m_20))))))
set_option maxRecDepth 100000 in
set_option maxHeartbeats 4000000 in
theorem w_X9_behind (X : CX) (p0 : Int32) (p1 : Int32) (mem : Mm) (K : Int32 → Mm → Prop) (h : W_X9_behind p0 p1 mem K) : CallsI X 20 M_X9_behind [.ref (cx_n X + 82), .int p0, .int p1] mem K := by
  unfold W_X9_behind at h
  refine CallsC.ofP 1 (by decide) rfl (Nat.le_of_ble_eq_true rfl) ?_
  refine gc_iload_n dX9_behind_0 rfl ?_
  refine gc_iconst (v := 0) dX9_behind_1 (by decide) ?_
  refine gc_bipush (v := 100) dX9_behind_2 (by decide) ?_
  refine go_cSZ (y := M_X9_in) (As := [.int p0, .int 0, .int 100]) (rest := []) dX9_behind_4 lm_X9_81 ok_X9_in (by decide) (w_X9_in X p0 0 100 mem _ h) rfl (Nat.le_of_ble_eq_true rfl) (fun v_4 m_4 h => ?_)
  refine gc_if_eq 26 dX9_behind_7 (by decide) (fun hc => ?_) (fun hc => ?_)
  · have h := h.1 hc
    refine gc_ldc (v := (-1000000001)) dX9_behind_26 lk_X9_121 ?_
    exact go_iret dX9_behind_28 rfl (Nat.le_refl _) (Nat.le_refl _) ⟨_, rfl, h⟩
  · have h := h.2 hc
    refine gc_iload_n dX9_behind_10 rfl ?_
    refine gc_iconst (v := 0) dX9_behind_11 (by decide) ?_
    refine gc_iconst (v := 2) dX9_behind_12 (by decide) ?_
    refine gc_aload_n dX9_behind_13 rfl ?_
    refine go_getR dX9_behind_14 lg_X9_9 (sz_lt (by decide)) kd_82 rfl ?_
    refine gc_iconst (v := 1) dX9_behind_17 (by decide) ?_
    refine go_iald 1 dX9_behind_18 kd_83 rfl (by decide) ?_
    refine gc_iadd dX9_behind_19 ?_
    refine go_cSZ (y := M_X9_in) (As := [.int p1, .int 0, .int (2 + (m_4 83 1))]) (rest := []) dX9_behind_20 lm_X9_81 ok_X9_in (by decide) (w_X9_in X p1 0 (2 + (m_4 83 1)) m_4 _ h) rfl (Nat.le_of_ble_eq_true rfl) (fun v_20 m_20 h => ?_)
    refine gc_if_ne 29 dX9_behind_23 (by decide) (fun hc => ?_) (fun hc => ?_)
    · have h := h.1 hc
      refine gc_aload_n dX9_behind_29 rfl ?_
      refine go_cVU (y := M_X9_thinks) (As := []) (rest := []) dX9_behind_30 lm_X9_195 ok_X9_thinks (by decide) (sz_lt (by decide)) kd_82 rfl rfl (w_X9_thinks X  m_20 _ h) rfl (Nat.le_of_ble_eq_true rfl) (fun m_30 h => ?_)
      refine gc_aload_n dX9_behind_33 rfl ?_
      refine gc_iload_n dX9_behind_34 rfl ?_
      refine go_cVU (y := M_X9_goesOn) (As := [.int p0]) (rest := []) dX9_behind_35 lm_X9_173 ok_X9_goesOn (by decide) (sz_lt (by decide)) kd_82 rfl rfl (w_X9_goesOn X p0 m_30 _ h) rfl (Nat.le_of_ble_eq_true rfl) (fun m_35 h => ?_)
      refine gc_iload_n dX9_behind_38 rfl ?_
      refine gc_iconst (v := 2) dX9_behind_39 (by decide) ?_
      refine gc_icmp_ge 54 dX9_behind_40 (by decide) (fun hc => ?_) (fun hc => ?_)
      · have h := h.1 hc
        refine gc_iload_n dX9_behind_54 rfl ?_
        refine gc_iconst (v := 2) dX9_behind_55 (by decide) ?_
        refine gc_icmp_ne 69 dX9_behind_56 (by decide) (fun hc => ?_) (fun hc => ?_)
        · have h := h.1 hc
          refine gc_aload_n dX9_behind_69 rfl ?_
          refine gc_iload_n dX9_behind_70 rfl ?_
          refine gc_iconst (v := 3) dX9_behind_71 (by decide) ?_
          refine gc_isub dX9_behind_72 ?_
          refine gc_iconst (v := 4) dX9_behind_73 (by decide) ?_
          refine go_cVI (y := M_X9_of) (As := [.int (p1 - 3), .int 4]) (rest := []) dX9_behind_74 lm_X9_89 ok_X9_of (by decide) (sz_lt (by decide)) kd_82 rfl rfl (w_X9_of X (p1 - 3) 4 m_35 _ h) rfl (Nat.le_of_ble_eq_true rfl) (fun v_74 m_74 h => ?_)
          refine gc_istore_n dX9_behind_77 (by decide) ?_
          refine gc_aload_n dX9_behind_78 rfl ?_
          refine go_cVU (y := M_X9_putsBack) (As := []) (rest := []) dX9_behind_79 lm_X9_201 ok_X9_putsBack (by decide) (sz_lt (by decide)) kd_82 rfl rfl (w_X9_putsBack X  m_74 _ h) rfl (Nat.le_of_ble_eq_true rfl) (fun m_79 h => ?_)
          refine gc_iload_n dX9_behind_82 rfl ?_
          exact go_iret dX9_behind_83 rfl (Nat.le_refl _) (Nat.le_refl _) ⟨_, rfl, h⟩
        · have h := h.2 hc
          refine gc_aload_n dX9_behind_59 rfl ?_
          refine go_cVI (y := M_X9_standing) (As := []) (rest := []) dX9_behind_60 lm_X9_97 ok_X9_standing (by decide) (sz_lt (by decide)) kd_82 rfl rfl (w_X9_standing X  m_35 _ h) rfl (Nat.le_of_ble_eq_true rfl) (fun v_60 m_60 h => ?_)
          refine go_cSI (y := M_X9_bits) (As := [.int v_60]) (rest := []) dX9_behind_63 lm_X9_101 ok_X9_bits (by decide) (w_X9_bits X v_60 m_60 _ h) rfl (Nat.le_of_ble_eq_true rfl) (fun v_63 m_63 h => ?_)
          refine gc_goto 77 dX9_behind_66 (by decide) ?_
          refine gc_istore_n dX9_behind_77 (by decide) ?_
          refine gc_aload_n dX9_behind_78 rfl ?_
          refine go_cVU (y := M_X9_putsBack) (As := []) (rest := []) dX9_behind_79 lm_X9_201 ok_X9_putsBack (by decide) (sz_lt (by decide)) kd_82 rfl rfl (w_X9_putsBack X  m_63 _ h) rfl (Nat.le_of_ble_eq_true rfl) (fun m_79 h => ?_)
          refine gc_iload_n dX9_behind_82 rfl ?_
          exact go_iret dX9_behind_83 rfl (Nat.le_refl _) (Nat.le_refl _) ⟨_, rfl, h⟩
      · have h := h.2 hc
        refine gc_aload_n dX9_behind_43 rfl ?_
        refine go_getR dX9_behind_44 lg_X9_9 (sz_lt (by decide)) kd_82 rfl ?_
        refine gc_iconst (v := 3) dX9_behind_47 (by decide) ?_
        refine gc_iload_n dX9_behind_48 rfl ?_
        refine gc_iadd dX9_behind_49 ?_
        obtain ⟨i_50, hx_50, hi_50, h⟩ := h
        refine go_iald i_50 dX9_behind_50 kd_83 hx_50 hi_50 ?_
        refine gc_goto 77 dX9_behind_51 (by decide) ?_
        refine gc_istore_n dX9_behind_77 (by decide) ?_
        refine gc_aload_n dX9_behind_78 rfl ?_
        refine go_cVU (y := M_X9_putsBack) (As := []) (rest := []) dX9_behind_79 lm_X9_201 ok_X9_putsBack (by decide) (sz_lt (by decide)) kd_82 rfl rfl (w_X9_putsBack X  m_35 _ h) rfl (Nat.le_of_ble_eq_true rfl) (fun m_79 h => ?_)
        refine gc_iload_n dX9_behind_82 rfl ?_
        exact go_iret dX9_behind_83 rfl (Nat.le_refl _) (Nat.le_refl _) ⟨_, rfl, h⟩
    · have h := h.2 hc
      refine gc_ldc (v := (-1000000001)) dX9_behind_26 lk_X9_121 ?_
      exact go_iret dX9_behind_28 rfl (Nat.le_refl _) (Nat.le_refl _) ⟨_, rfl, h⟩
def L_X9_falls_24 (p0 : Int32) (K : Int32 → Mm → Prop) : Nat → Int32 → Int32 → Int32 → Mm → Prop
  | 0, _, _, _, _ => False
  | n + 1, l1, l2, l3, mem => (200 < l3 → (W_X9_putsBack  mem (fun m_52 => (l3 ≤ 200 → (K l3 m_52)) ∧ (¬ l3 ≤ 200 → (K (-1000000005) m_52))))) ∧ (¬ 200 < l3 → (W_X9_of l1 4 mem (fun v_34 m_34 => (¬ v_34 = l2 → (W_X9_putsBack  m_34 (fun m_52 => (l3 ≤ 200 → (K l3 m_52)) ∧ (¬ l3 ≤ 200 → (K (-1000000005) m_52))))) ∧ (v_34 = l2 → (W_X9_aGo  m_34 (fun m_42 => L_X9_falls_24 p0  K n l1 l2 (l3 + 1) m_42))))))
set_option maxRecDepth 100000 in
set_option maxHeartbeats 4000000 in
theorem l_X9_falls_24 (X : CX) (p0 : Int32)  (K : Int32 → Mm → Prop) : ∀ (n : Nat) (l1 : Int32) (l2 : Int32) (l3 : Int32) (mem : Mm), L_X9_falls_24 p0   K n l1 l2 l3 mem → GoC X 19 0 0 M_X9_falls 24 [some (.ref (cx_n X + 82)), some (.int l1), some (.int l2), some (.int l3)] [] 0 0 (cellAt X mem) (sz mem) (qm X (fun r m => ∃ v : Int32, r = some (.int v) ∧ K v m))
  := by
  intro n
  induction n with
  | zero => intro l1 l2 l3 mem h; exact h.elim
  | succ n ih =>
    intro l1 l2 l3 mem h
    unfold L_X9_falls_24 at h
    refine gc_iload_n dX9_falls_24 rfl ?_
    refine gc_sipush (v := 200) dX9_falls_25 (by decide) ?_
    refine gc_icmp_gt 51 dX9_falls_28 (by decide) (fun hc => ?_) (fun hc => ?_)
    · have h := h.1 hc
      refine gc_aload_n dX9_falls_51 rfl ?_
      refine go_cVU (y := M_X9_putsBack) (As := []) (rest := []) dX9_falls_52 lm_X9_201 ok_X9_putsBack (by decide) (sz_lt (by decide)) kd_82 rfl rfl (w_X9_putsBack X  mem _ h) rfl (Nat.le_of_ble_eq_true rfl) (fun m_52 h => ?_)
      refine gc_iload_n dX9_falls_55 rfl ?_
      refine gc_sipush (v := 200) dX9_falls_56 (by decide) ?_
      refine gc_icmp_le 67 dX9_falls_59 (by decide) (fun hc => ?_) (fun hc => ?_)
      · have h := h.1 hc
        refine gc_iload_n dX9_falls_67 rfl ?_
        exact go_iret dX9_falls_68 rfl (Nat.le_refl _) (Nat.le_refl _) ⟨_, rfl, h⟩
      · have h := h.2 hc
        refine gc_ldc (v := (-1000000005)) dX9_falls_62 lk_X9_180 ?_
        refine gc_goto 68 dX9_falls_64 (by decide) ?_
        exact go_iret dX9_falls_68 rfl (Nat.le_refl _) (Nat.le_refl _) ⟨_, rfl, h⟩
    · have h := h.2 hc
      refine gc_aload_n dX9_falls_31 rfl ?_
      refine gc_iload_n dX9_falls_32 rfl ?_
      refine gc_iconst (v := 4) dX9_falls_33 (by decide) ?_
      refine go_cVI (y := M_X9_of) (As := [.int l1, .int 4]) (rest := []) dX9_falls_34 lm_X9_89 ok_X9_of (by decide) (sz_lt (by decide)) kd_82 rfl rfl (w_X9_of X l1 4 mem _ h) rfl (Nat.le_of_ble_eq_true rfl) (fun v_34 m_34 h => ?_)
      refine gc_iload_n dX9_falls_37 rfl ?_
      refine gc_icmp_ne 51 dX9_falls_38 (by decide) (fun hc => ?_) (fun hc => ?_)
      · have h := h.1 hc
        refine gc_aload_n dX9_falls_51 rfl ?_
        refine go_cVU (y := M_X9_putsBack) (As := []) (rest := []) dX9_falls_52 lm_X9_201 ok_X9_putsBack (by decide) (sz_lt (by decide)) kd_82 rfl rfl (w_X9_putsBack X  m_34 _ h) rfl (Nat.le_of_ble_eq_true rfl) (fun m_52 h => ?_)
        refine gc_iload_n dX9_falls_55 rfl ?_
        refine gc_sipush (v := 200) dX9_falls_56 (by decide) ?_
        refine gc_icmp_le 67 dX9_falls_59 (by decide) (fun hc => ?_) (fun hc => ?_)
        · have h := h.1 hc
          refine gc_iload_n dX9_falls_67 rfl ?_
          exact go_iret dX9_falls_68 rfl (Nat.le_refl _) (Nat.le_refl _) ⟨_, rfl, h⟩
        · have h := h.2 hc
          refine gc_ldc (v := (-1000000005)) dX9_falls_62 lk_X9_180 ?_
          refine gc_goto 68 dX9_falls_64 (by decide) ?_
          exact go_iret dX9_falls_68 rfl (Nat.le_refl _) (Nat.le_refl _) ⟨_, rfl, h⟩
      · have h := h.2 hc
        refine gc_aload_n dX9_falls_41 rfl ?_
        refine go_cVU (y := M_X9_aGo) (As := []) (rest := []) dX9_falls_42 lm_X9_170 ok_X9_aGo (by decide) (sz_lt (by decide)) kd_82 rfl rfl (w_X9_aGo X  m_34 _ h) rfl (Nat.le_of_ble_eq_true rfl) (fun m_42 h => ?_)
        refine gc_iinc (v := l3 + 1) dX9_falls_45 rfl rfl (by decide) ?_
        refine gc_goto 24 dX9_falls_48 (by decide) ?_
        exact ih l1 l2 (l3 + 1) m_42  h
def W_X9_falls (p0 : Int32) (mem : Mm) (K : Int32 → Mm → Prop) : Prop := W_X9_isMan p0 mem (fun v_2 m_2 => (¬ (bZ v_2) = 0 → (W_X9_thinks  m_2 (fun m_12 => W_X9_of p0 4 m_12 (fun v_18 m_18 => ∃ nz : Nat, L_X9_falls_24 p0   K nz p0 v_18 0 m_18)))) ∧ ((bZ v_2) = 0 → (K (-1000000001) m_2)))
set_option maxRecDepth 100000 in
set_option maxHeartbeats 4000000 in
theorem w_X9_falls (X : CX) (p0 : Int32) (mem : Mm) (K : Int32 → Mm → Prop) (h : W_X9_falls p0 mem K) : CallsI X 19 M_X9_falls [.ref (cx_n X + 82), .int p0] mem K := by
  unfold W_X9_falls at h
  refine CallsC.ofP 2 (by decide) rfl (Nat.le_of_ble_eq_true rfl) ?_
  refine gc_aload_n dX9_falls_0 rfl ?_
  refine gc_iload_n dX9_falls_1 rfl ?_
  refine go_cVZ (y := M_X9_isMan) (As := [.int p0]) (rest := []) dX9_falls_2 lm_X9_85 ok_X9_isMan (by decide) (sz_lt (by decide)) kd_82 rfl rfl (w_X9_isMan X p0 mem _ h) rfl (Nat.le_of_ble_eq_true rfl) (fun v_2 m_2 h => ?_)
  refine gc_if_ne 11 dX9_falls_5 (by decide) (fun hc => ?_) (fun hc => ?_)
  · have h := h.1 hc
    refine gc_aload_n dX9_falls_11 rfl ?_
    refine go_cVU (y := M_X9_thinks) (As := []) (rest := []) dX9_falls_12 lm_X9_195 ok_X9_thinks (by decide) (sz_lt (by decide)) kd_82 rfl rfl (w_X9_thinks X  m_2 _ h) rfl (Nat.le_of_ble_eq_true rfl) (fun m_12 h => ?_)
    refine gc_aload_n dX9_falls_15 rfl ?_
    refine gc_iload_n dX9_falls_16 rfl ?_
    refine gc_iconst (v := 4) dX9_falls_17 (by decide) ?_
    refine go_cVI (y := M_X9_of) (As := [.int p0, .int 4]) (rest := []) dX9_falls_18 lm_X9_89 ok_X9_of (by decide) (sz_lt (by decide)) kd_82 rfl rfl (w_X9_of X p0 4 m_12 _ h) rfl (Nat.le_of_ble_eq_true rfl) (fun v_18 m_18 h => ?_)
    refine gc_istore_n dX9_falls_21 (by decide) ?_
    refine gc_iconst (v := 0) dX9_falls_22 (by decide) ?_
    refine gc_istore_n dX9_falls_23 (by decide) ?_
    obtain ⟨n9, h⟩ := h
    exact l_X9_falls_24 X p0    K   n9 p0 v_18 0 m_18  h
  · have h := h.2 hc
    refine gc_ldc (v := (-1000000001)) dX9_falls_8 lk_X9_121 ?_
    exact go_iret dX9_falls_10 rfl (Nat.le_refl _) (Nat.le_refl _) ⟨_, rfl, h⟩
def B_X9_becomes_97 (p0 : Int32) (p1 : Int32) (p2 : Int32) (kb43 : Int32 → Int32 → Int32 → Int32 → Int32 → Int32 → Mm → Prop) (K : Int32 → Mm → Prop) (l1 : Int32) (l2 : Int32) (l3 : Int32) (l5 : Int32) (l6 : Int32) (l7 : Int32) (s0 : Int32) (mem : Mm) : Prop := (l7 = 0 → (W_X9_putsBack  mem (fun m_118 => kb43 l1 l2 l3 s0 l5 (l6 + 1) m_118))) ∧ (¬ l7 = 0 → (W_X9_of l1 4 mem (fun v_107 m_107 => W_X9_putsBack  m_107 (fun m_118 => kb43 l1 l2 l3 s0 v_107 (l6 + 1) m_118))))
set_option maxRecDepth 100000 in
set_option maxHeartbeats 4000000 in
theorem b_X9_becomes_97 (X : CX) (p0 : Int32) (p1 : Int32) (p2 : Int32)  (kb43 : Int32 → Int32 → Int32 → Int32 → Int32 → Int32 → Mm → Prop) (K : Int32 → Mm → Prop) (hkb43 : ∀ (l1 : Int32) (l2 : Int32) (l3 : Int32) (l4 : Int32) (l5 : Int32) (l6 : Int32) (mem : Mm), kb43 l1 l2 l3 l4 l5 l6 mem → GoC X 20 0 0 M_X9_becomes 43 [some (.ref (cx_n X + 82)), some (.int l1), some (.int l2), some (.int l3), some (.int l4), some (.int l5), some (.int l6), none] [] 0 0 (cellAt X mem) (sz mem) (qm X (fun r m => ∃ v : Int32, r = some (.int v) ∧ K v m))) (l1 : Int32) (l2 : Int32) (l3 : Int32) (l5 : Int32) (l6 : Int32) (l7 : Int32) (s0 : Int32) (mem : Mm)  (h : B_X9_becomes_97 p0 p1 p2  kb43 K l1 l2 l3 l5 l6 l7 s0 mem) : GoC X 20 0 0 M_X9_becomes 97 [some (.ref (cx_n X + 82)), some (.int l1), some (.int l2), some (.int l3), none, some (.int l5), some (.int l6), some (.int l7)] [.int s0] 0 0 (cellAt X mem) (sz mem) (qm X (fun r m => ∃ v : Int32, r = some (.int v) ∧ K v m)) := by
  unfold B_X9_becomes_97 at h
  refine gc_istore dX9_becomes_97 (by decide) ?_
  refine gc_iload dX9_becomes_99 rfl ?_
  refine gc_if_eq 113 dX9_becomes_101 (by decide) (fun hc => ?_) (fun hc => ?_)
  · have h := h.1 hc
    refine gc_iload dX9_becomes_113 rfl ?_
    refine gc_istore dX9_becomes_115 (by decide) ?_
    refine gc_aload_n dX9_becomes_117 rfl ?_
    refine go_cVU (y := M_X9_putsBack) (As := []) (rest := []) dX9_becomes_118 lm_X9_201 ok_X9_putsBack (by decide) (sz_lt (by decide)) kd_82 rfl rfl (w_X9_putsBack X  mem _ h) rfl (Nat.le_of_ble_eq_true rfl) (fun m_118 h => ?_)
    refine gc_iinc (v := l6 + 1) dX9_becomes_121 rfl rfl (by decide) ?_
    refine gc_goto 43 dX9_becomes_124 (by decide) ?_
    refine gc_forget 7 ?_
    exact hkb43 l1 l2 l3 s0 l5 (l6 + 1) m_118  h
  · have h := h.2 hc
    refine gc_aload_n dX9_becomes_104 rfl ?_
    refine gc_iload_n dX9_becomes_105 rfl ?_
    refine gc_iconst (v := 4) dX9_becomes_106 (by decide) ?_
    refine go_cVI (y := M_X9_of) (As := [.int l1, .int 4]) (rest := []) dX9_becomes_107 lm_X9_89 ok_X9_of (by decide) (sz_lt (by decide)) kd_82 rfl rfl (w_X9_of X l1 4 mem _ h) rfl (Nat.le_of_ble_eq_true rfl) (fun v_107 m_107 h => ?_)
    refine gc_goto 115 dX9_becomes_110 (by decide) ?_
    refine gc_istore dX9_becomes_115 (by decide) ?_
    refine gc_aload_n dX9_becomes_117 rfl ?_
    refine go_cVU (y := M_X9_putsBack) (As := []) (rest := []) dX9_becomes_118 lm_X9_201 ok_X9_putsBack (by decide) (sz_lt (by decide)) kd_82 rfl rfl (w_X9_putsBack X  m_107 _ h) rfl (Nat.le_of_ble_eq_true rfl) (fun m_118 h => ?_)
    refine gc_iinc (v := l6 + 1) dX9_becomes_121 rfl rfl (by decide) ?_
    refine gc_goto 43 dX9_becomes_124 (by decide) ?_
    refine gc_forget 7 ?_
    exact hkb43 l1 l2 l3 s0 v_107 (l6 + 1) m_118  h
def L_X9_becomes_43 (p0 : Int32) (p1 : Int32) (p2 : Int32) (K : Int32 → Mm → Prop) : Nat → Int32 → Int32 → Int32 → Int32 → Int32 → Int32 → Mm → Prop
  | 0, _, _, _, _, _, _, _ => False
  | n + 1, l1, l2, l3, l4, l5, l6, mem => (5 < l6 → ((¬ l3 = 0 → (K l5 mem)) ∧ (l3 = 0 → (K l4 mem)))) ∧ (¬ 5 < l6 → (W_X9_put l1 0 l6 mem (fun m_54 => W_X9_goesOn l2 m_54 (fun m_59 => (l4 < 0 → (B_X9_becomes_97 p0 p1 p2  (fun zl1 zl2 zl3 zl4 zl5 zl6 zm => L_X9_becomes_43 p0 p1 p2  K n zl1 zl2 zl3 zl4 zl5 zl6 zm) K l1 l2 l3 l5 l6 1 l6 m_59)) ∧ (¬ l4 < 0 → (W_X9_of l1 4 m_59 (fun v_70 m_70 => (l5 ≤ v_70 → (B_X9_becomes_97 p0 p1 p2  (fun zl1 zl2 zl3 zl4 zl5 zl6 zm => L_X9_becomes_43 p0 p1 p2  K n zl1 zl2 zl3 zl4 zl5 zl6 zm) K l1 l2 l3 l5 l6 0 l4 m_70)) ∧ (¬ l5 ≤ v_70 → (B_X9_becomes_97 p0 p1 p2  (fun zl1 zl2 zl3 zl4 zl5 zl6 zm => L_X9_becomes_43 p0 p1 p2  K n zl1 zl2 zl3 zl4 zl5 zl6 zm) K l1 l2 l3 l5 l6 1 l6 m_70)))))))))
set_option maxRecDepth 100000 in
set_option maxHeartbeats 4000000 in
theorem l_X9_becomes_43 (X : CX) (p0 : Int32) (p1 : Int32) (p2 : Int32)  (K : Int32 → Mm → Prop) : ∀ (n : Nat) (l1 : Int32) (l2 : Int32) (l3 : Int32) (l4 : Int32) (l5 : Int32) (l6 : Int32) (mem : Mm), L_X9_becomes_43 p0 p1 p2   K n l1 l2 l3 l4 l5 l6 mem → GoC X 20 0 0 M_X9_becomes 43 [some (.ref (cx_n X + 82)), some (.int l1), some (.int l2), some (.int l3), some (.int l4), some (.int l5), some (.int l6), none] [] 0 0 (cellAt X mem) (sz mem) (qm X (fun r m => ∃ v : Int32, r = some (.int v) ∧ K v m))
  := by
  intro n
  induction n with
  | zero => intro l1 l2 l3 l4 l5 l6 mem h; exact h.elim
  | succ n ih =>
    intro l1 l2 l3 l4 l5 l6 mem h
    unfold L_X9_becomes_43 at h
    refine gc_iload dX9_becomes_43 rfl ?_
    refine gc_iconst (v := 5) dX9_becomes_45 (by decide) ?_
    refine gc_icmp_gt 127 dX9_becomes_46 (by decide) (fun hc => ?_) (fun hc => ?_)
    · have h := h.1 hc
      refine gc_iload_n dX9_becomes_127 rfl ?_
      refine gc_if_ne 136 dX9_becomes_128 (by decide) (fun hc => ?_) (fun hc => ?_)
      · have h := h.1 hc
        refine gc_iload dX9_becomes_136 rfl ?_
        exact go_iret dX9_becomes_138 rfl (Nat.le_refl _) (Nat.le_refl _) ⟨_, rfl, h⟩
      · have h := h.2 hc
        refine gc_iload dX9_becomes_131 rfl ?_
        refine gc_goto 138 dX9_becomes_133 (by decide) ?_
        exact go_iret dX9_becomes_138 rfl (Nat.le_refl _) (Nat.le_refl _) ⟨_, rfl, h⟩
    · have h := h.2 hc
      refine gc_aload_n dX9_becomes_49 rfl ?_
      refine gc_iload_n dX9_becomes_50 rfl ?_
      refine gc_iconst (v := 0) dX9_becomes_51 (by decide) ?_
      refine gc_iload dX9_becomes_52 rfl ?_
      refine go_cVU (y := M_X9_put) (As := [.int l1, .int 0, .int l6]) (rest := []) dX9_becomes_54 lm_X9_114 ok_X9_put (by decide) (sz_lt (by decide)) kd_82 rfl rfl (w_X9_put X l1 0 l6 mem _ h) rfl (Nat.le_of_ble_eq_true rfl) (fun m_54 h => ?_)
      refine gc_aload_n dX9_becomes_57 rfl ?_
      refine gc_iload_n dX9_becomes_58 rfl ?_
      refine go_cVU (y := M_X9_goesOn) (As := [.int l2]) (rest := []) dX9_becomes_59 lm_X9_173 ok_X9_goesOn (by decide) (sz_lt (by decide)) kd_82 rfl rfl (w_X9_goesOn X l2 m_54 _ h) rfl (Nat.le_of_ble_eq_true rfl) (fun m_59 h => ?_)
      refine gc_iload dX9_becomes_62 rfl ?_
      refine gc_if_lt 78 dX9_becomes_64 (by decide) (fun hc => ?_) (fun hc => ?_)
      · have h := h.1 hc
        refine gc_iconst (v := 1) dX9_becomes_78 (by decide) ?_
        refine gc_goto 83 dX9_becomes_79 (by decide) ?_
        refine gc_istore dX9_becomes_83 (by decide) ?_
        refine gc_iload dX9_becomes_85 rfl ?_
        refine gc_if_eq 95 dX9_becomes_87 (by decide) (fun hc => absurd hc (by decide)) (fun hc => ?_)
        refine gc_iload dX9_becomes_90 rfl ?_
        refine gc_goto 97 dX9_becomes_92 (by decide) ?_
        refine gc_forget 4 ?_
        exact b_X9_becomes_97 X p0 p1 p2   (fun zl1 zl2 zl3 zl4 zl5 zl6 zm => L_X9_becomes_43 p0 p1 p2  K n zl1 zl2 zl3 zl4 zl5 zl6 zm) K  ih l1 l2 l3 l5 l6 1 l6 m_59  h
      · have h := h.2 hc
        refine gc_aload_n dX9_becomes_67 rfl ?_
        refine gc_iload_n dX9_becomes_68 rfl ?_
        refine gc_iconst (v := 4) dX9_becomes_69 (by decide) ?_
        refine go_cVI (y := M_X9_of) (As := [.int l1, .int 4]) (rest := []) dX9_becomes_70 lm_X9_89 ok_X9_of (by decide) (sz_lt (by decide)) kd_82 rfl rfl (w_X9_of X l1 4 m_59 _ h) rfl (Nat.le_of_ble_eq_true rfl) (fun v_70 m_70 h => ?_)
        refine gc_iload dX9_becomes_73 rfl ?_
        refine gc_icmp_ge 82 dX9_becomes_75 (by decide) (fun hc => ?_) (fun hc => ?_)
        · have h := h.1 hc
          refine gc_iconst (v := 0) dX9_becomes_82 (by decide) ?_
          refine gc_istore dX9_becomes_83 (by decide) ?_
          refine gc_iload dX9_becomes_85 rfl ?_
          refine gc_if_eq 95 dX9_becomes_87 (by decide) (fun hc => ?_) (fun hc => absurd hc (by decide))
          refine gc_iload dX9_becomes_95 rfl ?_
          refine gc_forget 4 ?_
          exact b_X9_becomes_97 X p0 p1 p2   (fun zl1 zl2 zl3 zl4 zl5 zl6 zm => L_X9_becomes_43 p0 p1 p2  K n zl1 zl2 zl3 zl4 zl5 zl6 zm) K  ih l1 l2 l3 l5 l6 0 l4 m_70  h
        · have h := h.2 hc
          refine gc_iconst (v := 1) dX9_becomes_78 (by decide) ?_
          refine gc_goto 83 dX9_becomes_79 (by decide) ?_
          refine gc_istore dX9_becomes_83 (by decide) ?_
          refine gc_iload dX9_becomes_85 rfl ?_
          refine gc_if_eq 95 dX9_becomes_87 (by decide) (fun hc => absurd hc (by decide)) (fun hc => ?_)
          refine gc_iload dX9_becomes_90 rfl ?_
          refine gc_goto 97 dX9_becomes_92 (by decide) ?_
          refine gc_forget 4 ?_
          exact b_X9_becomes_97 X p0 p1 p2   (fun zl1 zl2 zl3 zl4 zl5 zl6 zm => L_X9_becomes_43 p0 p1 p2  K n zl1 zl2 zl3 zl4 zl5 zl6 zm) K  ih l1 l2 l3 l5 l6 1 l6 m_70  h
def W_X9_becomes (p0 : Int32) (p1 : Int32) (p2 : Int32) (mem : Mm) (K : Int32 → Mm → Prop) : Prop := W_X9_isMan p0 mem (fun v_2 m_2 => ((bZ v_2) = 0 → (K (-1000000001) m_2)) ∧ (¬ (bZ v_2) = 0 → (W_X9_in p1 1 60 m_2 (fun v_12 m_12 => ((bZ v_12) = 0 → (K (-1000000001) m_12)) ∧ (¬ (bZ v_12) = 0 → (W_X9_in p2 0 1 m_12 (fun v_21 m_21 => (¬ (bZ v_21) = 0 → (W_X9_thinks  m_21 (fun m_31 => ∃ nz : Nat, L_X9_becomes_43 p0 p1 p2   K nz p0 p1 p2 (-1) 0 0 m_31))) ∧ ((bZ v_21) = 0 → (K (-1000000001) m_21)))))))))
set_option maxRecDepth 100000 in
set_option maxHeartbeats 4000000 in
theorem w_X9_becomes (X : CX) (p0 : Int32) (p1 : Int32) (p2 : Int32) (mem : Mm) (K : Int32 → Mm → Prop) (h : W_X9_becomes p0 p1 p2 mem K) : CallsI X 20 M_X9_becomes [.ref (cx_n X + 82), .int p0, .int p1, .int p2] mem K := by
  unfold W_X9_becomes at h
  refine CallsC.ofP 4 (by decide) rfl (Nat.le_of_ble_eq_true rfl) ?_
  refine gc_aload_n dX9_becomes_0 rfl ?_
  refine gc_iload_n dX9_becomes_1 rfl ?_
  refine go_cVZ (y := M_X9_isMan) (As := [.int p0]) (rest := []) dX9_becomes_2 lm_X9_85 ok_X9_isMan (by decide) (sz_lt (by decide)) kd_82 rfl rfl (w_X9_isMan X p0 mem _ h) rfl (Nat.le_of_ble_eq_true rfl) (fun v_2 m_2 h => ?_)
  refine gc_if_eq 27 dX9_becomes_5 (by decide) (fun hc => ?_) (fun hc => ?_)
  · have h := h.1 hc
    refine gc_ldc (v := (-1000000001)) dX9_becomes_27 lk_X9_121 ?_
    exact go_iret dX9_becomes_29 rfl (Nat.le_refl _) (Nat.le_refl _) ⟨_, rfl, h⟩
  · have h := h.2 hc
    refine gc_iload_n dX9_becomes_8 rfl ?_
    refine gc_iconst (v := 1) dX9_becomes_9 (by decide) ?_
    refine gc_bipush (v := 60) dX9_becomes_10 (by decide) ?_
    refine go_cSZ (y := M_X9_in) (As := [.int p1, .int 1, .int 60]) (rest := []) dX9_becomes_12 lm_X9_81 ok_X9_in (by decide) (w_X9_in X p1 1 60 m_2 _ h) rfl (Nat.le_of_ble_eq_true rfl) (fun v_12 m_12 h => ?_)
    refine gc_if_eq 27 dX9_becomes_15 (by decide) (fun hc => ?_) (fun hc => ?_)
    · have h := h.1 hc
      refine gc_ldc (v := (-1000000001)) dX9_becomes_27 lk_X9_121 ?_
      exact go_iret dX9_becomes_29 rfl (Nat.le_refl _) (Nat.le_refl _) ⟨_, rfl, h⟩
    · have h := h.2 hc
      refine gc_iload_n dX9_becomes_18 rfl ?_
      refine gc_iconst (v := 0) dX9_becomes_19 (by decide) ?_
      refine gc_iconst (v := 1) dX9_becomes_20 (by decide) ?_
      refine go_cSZ (y := M_X9_in) (As := [.int p2, .int 0, .int 1]) (rest := []) dX9_becomes_21 lm_X9_81 ok_X9_in (by decide) (w_X9_in X p2 0 1 m_12 _ h) rfl (Nat.le_of_ble_eq_true rfl) (fun v_21 m_21 h => ?_)
      refine gc_if_ne 30 dX9_becomes_24 (by decide) (fun hc => ?_) (fun hc => ?_)
      · have h := h.1 hc
        refine gc_aload_n dX9_becomes_30 rfl ?_
        refine go_cVU (y := M_X9_thinks) (As := []) (rest := []) dX9_becomes_31 lm_X9_195 ok_X9_thinks (by decide) (sz_lt (by decide)) kd_82 rfl rfl (w_X9_thinks X  m_21 _ h) rfl (Nat.le_of_ble_eq_true rfl) (fun m_31 h => ?_)
        refine gc_iconst (v := (-1)) dX9_becomes_34 (by decide) ?_
        refine gc_istore dX9_becomes_35 (by decide) ?_
        refine gc_iconst (v := 0) dX9_becomes_37 (by decide) ?_
        refine gc_istore dX9_becomes_38 (by decide) ?_
        refine gc_iconst (v := 0) dX9_becomes_40 (by decide) ?_
        refine gc_istore dX9_becomes_41 (by decide) ?_
        obtain ⟨n9, h⟩ := h
        exact l_X9_becomes_43 X p0 p1 p2    K   n9 p0 p1 p2 (-1) 0 0 m_31  h
      · have h := h.2 hc
        refine gc_ldc (v := (-1000000001)) dX9_becomes_27 lk_X9_121 ?_
        exact go_iret dX9_becomes_29 rfl (Nat.le_refl _) (Nat.le_refl _) ⟨_, rfl, h⟩
def W_X9_isSheet (p0 : Int32) (mem : Mm) (K : Bool → Mm → Prop) : Prop := W_X9_in p0 0 3 mem (fun v_3 m_3 => K v_3 m_3)
set_option maxRecDepth 100000 in
set_option maxHeartbeats 4000000 in
theorem w_X9_isSheet (X : CX) (p0 : Int32) (mem : Mm) (K : Bool → Mm → Prop) (h : W_X9_isSheet p0 mem K) : CallsZ X 1 M_X9_isSheet [.int p0] mem K := by
  unfold W_X9_isSheet at h
  refine CallsC.ofP 0 (by decide) rfl (Nat.le_of_ble_eq_true rfl) ?_
  refine gc_iload_n dX9_isSheet_0 rfl ?_
  refine gc_iconst (v := 0) dX9_isSheet_1 (by decide) ?_
  refine gc_iconst (v := 3) dX9_isSheet_2 (by decide) ?_
  refine go_cSZ (y := M_X9_in) (As := [.int p0, .int 0, .int 3]) (rest := []) dX9_isSheet_3 lm_X9_81 ok_X9_in (by decide) (w_X9_in X p0 0 3 mem _ h) rfl (Nat.le_of_ble_eq_true rfl) (fun v_3 m_3 h => ?_)
  exact go_zret dX9_isSheet_6 rfl (bZ_01 _) (Nat.le_refl _) (Nat.le_refl _) ⟨_, rfl, h⟩
