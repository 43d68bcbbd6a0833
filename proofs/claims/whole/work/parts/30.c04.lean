def L_X2_mostByTwo_52  (K : Int32 → Mm → Prop) : Nat → Int32 → Int32 → Mm → Prop
  | 0, _, _, _ => False
  | n + 1, l2, l3, mem => ((mem 40 4) ≤ l3 → (W_J6_bitCount_0f7a4 (mem 40 5) mem (fun v_84 m_84 => K (v_84 - l2) m_84))) ∧ (¬ (mem 40 4) ≤ l3 → (∃ i_66 : Nat, l3 = nI i_66 ∧ i_66 < 512 ∧ (W_J6_bitCount_0f7a4 (mem (40 + 1 + 3) i_66) mem (fun v_67 m_67 => L_X2_mostByTwo_52   K n (if v_67 < l2 then v_67 else l2) (l3 + 1) m_67))))
set_option maxRecDepth 100000 in
set_option maxHeartbeats 4000000 in
theorem l_X2_mostByTwo_52 (X : CX)   (K : Int32 → Mm → Prop) : ∀ (n : Nat) (l2 : Int32) (l3 : Int32) (mem : Mm), L_X2_mostByTwo_52    K n l2 l3 mem → GoC X 16 0 0 M_X2_mostByTwo 52 [some (.ref (cx_n X + 40)), none, some (.int l2), some (.int l3)] [] 0 0 (cellAt X mem) (sz mem) (qm X (fun r m => ∃ v : Int32, r = some (.int v) ∧ K v m))
  := by
  intro n
  induction n with
  | zero => intro l2 l3 mem h; exact h.elim
  | succ n ih =>
    intro l2 l3 mem h
    unfold L_X2_mostByTwo_52 at h
    refine gc_iload_n dX2_mostByTwo_52 rfl ?_
    refine gc_aload_n dX2_mostByTwo_53 rfl ?_
    refine go_getI dX2_mostByTwo_54 lg_X2_24 (sz_lt (by decide)) kd_40 rfl ?_
    refine gc_icmp_ge 80 dX2_mostByTwo_57 (by decide) (fun hc => ?_) (fun hc => ?_)
    · have h := h.1 hc
      refine gc_aload_n dX2_mostByTwo_80 rfl ?_
      refine go_getI dX2_mostByTwo_81 lg_X2_28 (sz_lt (by decide)) kd_40 rfl ?_
      refine go_cSI (y := M_J6_bitCount_0f7a4) (As := [.int (mem 40 5)]) (rest := []) dX2_mostByTwo_84 lm_X2_52 ok_J6_bitCount_0f7a4 (by decide) (w_J6_bitCount_0f7a4 X (mem 40 5) mem _ h) rfl (Nat.le_of_ble_eq_true rfl) (fun v_84 m_84 h => ?_)
      refine gc_iload_n dX2_mostByTwo_87 rfl ?_
      refine gc_isub dX2_mostByTwo_88 ?_
      exact go_iret dX2_mostByTwo_89 rfl (Nat.le_refl _) (Nat.le_refl _) ⟨_, rfl, h⟩
    · have h := h.2 hc
      refine gc_iload_n dX2_mostByTwo_60 rfl ?_
      refine gc_aload_n dX2_mostByTwo_61 rfl ?_
      refine go_getR dX2_mostByTwo_62 lg_X2_21 (sz_lt (by decide)) kd_40 rfl ?_
      refine gc_iload_n dX2_mostByTwo_65 rfl ?_
      obtain ⟨i_66, hx_66, hi_66, h⟩ := h
      refine go_iald i_66 dX2_mostByTwo_66 kd_44 hx_66 hi_66 ?_
      refine go_cSI (y := M_J6_bitCount_0f7a4) (As := [.int (mem (40 + 1 + 3) i_66)]) (rest := [.int l2]) dX2_mostByTwo_67 lm_X2_52 ok_J6_bitCount_0f7a4 (by decide) (w_J6_bitCount_0f7a4 X (mem (40 + 1 + 3) i_66) mem _ h) rfl (Nat.le_of_ble_eq_true rfl) (fun v_67 m_67 h => ?_)
      refine gc_mmin dX2_mostByTwo_70 lmm_X2_115 (by decide) (Nat.le_of_ble_eq_true rfl) (Nat.le_refl _) (Nat.le_refl _) ?_
      refine gc_istore_n dX2_mostByTwo_73 (by decide) ?_
      refine gc_iinc (v := l3 + 1) dX2_mostByTwo_74 rfl rfl (by decide) ?_
      refine gc_goto 52 dX2_mostByTwo_77 (by decide) ?_
      exact ih (if v_67 < l2 then v_67 else l2) (l3 + 1) m_67  h
def L_X2_mostByTwo_19  (K : Int32 → Mm → Prop) : Nat → Int32 → Int32 → Mm → Prop
  | 0, _, _, _ => False
  | n + 1, l1, l2, mem => (l1 ≤ l2 → (∃ nz : Nat, L_X2_mostByTwo_52    K nz 9 0 mem)) ∧ (¬ l1 ≤ l2 → ((512 ≤ l2 → (∃ nz : Nat, L_X2_mostByTwo_52    K nz 9 0 mem)) ∧ (¬ 512 ≤ l2 → (∃ i_37 : Nat, l2 = nI i_37 ∧ i_37 < 512 ∧ (W_X2_queueAllBehind (mem (40 + 1 + 3) i_37) mem (fun m_38 => L_X2_mostByTwo_19   K n l1 (l2 + 1) m_38))))))
set_option maxRecDepth 100000 in
set_option maxHeartbeats 4000000 in
theorem l_X2_mostByTwo_19 (X : CX)   (K : Int32 → Mm → Prop) : ∀ (n : Nat) (l1 : Int32) (l2 : Int32) (mem : Mm), L_X2_mostByTwo_19    K n l1 l2 mem → GoC X 16 0 0 M_X2_mostByTwo 19 [some (.ref (cx_n X + 40)), some (.int l1), some (.int l2), none] [] 0 0 (cellAt X mem) (sz mem) (qm X (fun r m => ∃ v : Int32, r = some (.int v) ∧ K v m))
  := by
  intro n
  induction n with
  | zero => intro l1 l2 mem h; exact h.elim
  | succ n ih =>
    intro l1 l2 mem h
    unfold L_X2_mostByTwo_19 at h
    refine gc_iload_n dX2_mostByTwo_19 rfl ?_
    refine gc_iload_n dX2_mostByTwo_20 rfl ?_
    refine gc_icmp_ge 47 dX2_mostByTwo_21 (by decide) (fun hc => ?_) (fun hc => ?_)
    · have h := h.1 hc
      refine gc_bipush (v := 9) dX2_mostByTwo_47 (by decide) ?_
      refine gc_istore_n dX2_mostByTwo_49 (by decide) ?_
      refine gc_iconst (v := 0) dX2_mostByTwo_50 (by decide) ?_
      refine gc_istore_n dX2_mostByTwo_51 (by decide) ?_
      refine gc_forget 1 ?_
      obtain ⟨n9, h⟩ := h
      exact l_X2_mostByTwo_52 X     K   n9 9 0 mem  h
    · have h := h.2 hc
      refine gc_iload_n dX2_mostByTwo_24 rfl ?_
      refine gc_sipush (v := 512) dX2_mostByTwo_25 (by decide) ?_
      refine gc_icmp_ge 47 dX2_mostByTwo_28 (by decide) (fun hc => ?_) (fun hc => ?_)
      · have h := h.1 hc
        refine gc_bipush (v := 9) dX2_mostByTwo_47 (by decide) ?_
        refine gc_istore_n dX2_mostByTwo_49 (by decide) ?_
        refine gc_iconst (v := 0) dX2_mostByTwo_50 (by decide) ?_
        refine gc_istore_n dX2_mostByTwo_51 (by decide) ?_
        refine gc_forget 1 ?_
        obtain ⟨n9, h⟩ := h
        exact l_X2_mostByTwo_52 X     K   n9 9 0 mem  h
      · have h := h.2 hc
        refine gc_aload_n dX2_mostByTwo_31 rfl ?_
        refine gc_aload_n dX2_mostByTwo_32 rfl ?_
        refine go_getR dX2_mostByTwo_33 lg_X2_21 (sz_lt (by decide)) kd_40 rfl ?_
        refine gc_iload_n dX2_mostByTwo_36 rfl ?_
        obtain ⟨i_37, hx_37, hi_37, h⟩ := h
        refine go_iald i_37 dX2_mostByTwo_37 kd_44 hx_37 hi_37 ?_
        refine go_cVU (y := M_X2_queueAllBehind) (As := [.int (mem (40 + 1 + 3) i_37)]) (rest := []) dX2_mostByTwo_38 lm_X2_111 ok_X2_queueAllBehind (by decide) (sz_lt (by decide)) kd_40 rfl rfl (w_X2_queueAllBehind X (mem (40 + 1 + 3) i_37) mem _ h) rfl (Nat.le_of_ble_eq_true rfl) (fun m_38 h => ?_)
        refine gc_iinc (v := l2 + 1) dX2_mostByTwo_41 rfl rfl (by decide) ?_
        refine gc_goto 19 dX2_mostByTwo_44 (by decide) ?_
        exact ih l1 (l2 + 1) m_38  h
def W_X2_mostByTwo  (mem : Mm) (K : Int32 → Mm → Prop) : Prop := W_X2_startQueue  mem (fun m_1 => W_X2_queueAllBehind (m_1 40 5) m_1 (fun m_9 => ∃ nz : Nat, L_X2_mostByTwo_19    K nz (m_9 40 4) 1 m_9))
set_option maxRecDepth 100000 in
set_option maxHeartbeats 4000000 in
theorem w_X2_mostByTwo (X : CX)  (mem : Mm) (K : Int32 → Mm → Prop) (h : W_X2_mostByTwo  mem K) : CallsI X 16 M_X2_mostByTwo [.ref (cx_n X + 40)] mem K := by
  unfold W_X2_mostByTwo at h
  refine CallsC.ofP 3 (by decide) rfl (Nat.le_of_ble_eq_true rfl) ?_
  refine gc_aload_n dX2_mostByTwo_0 rfl ?_
  refine go_cVU (y := M_X2_startQueue) (As := []) (rest := []) dX2_mostByTwo_1 lm_X2_108 ok_X2_startQueue (by decide) (sz_lt (by decide)) kd_40 rfl rfl (w_X2_startQueue X  mem _ h) rfl (Nat.le_of_ble_eq_true rfl) (fun m_1 h => ?_)
  refine gc_aload_n dX2_mostByTwo_4 rfl ?_
  refine gc_aload_n dX2_mostByTwo_5 rfl ?_
  refine go_getI dX2_mostByTwo_6 lg_X2_28 (sz_lt (by decide)) kd_40 rfl ?_
  refine go_cVU (y := M_X2_queueAllBehind) (As := [.int (m_1 40 5)]) (rest := []) dX2_mostByTwo_9 lm_X2_111 ok_X2_queueAllBehind (by decide) (sz_lt (by decide)) kd_40 rfl rfl (w_X2_queueAllBehind X (m_1 40 5) m_1 _ h) rfl (Nat.le_of_ble_eq_true rfl) (fun m_9 h => ?_)
  refine gc_aload_n dX2_mostByTwo_12 rfl ?_
  refine go_getI dX2_mostByTwo_13 lg_X2_24 (sz_lt (by decide)) kd_40 rfl ?_
  refine gc_istore_n dX2_mostByTwo_16 (by decide) ?_
  refine gc_iconst (v := 1) dX2_mostByTwo_17 (by decide) ?_
  refine gc_istore_n dX2_mostByTwo_18 (by decide) ?_
  obtain ⟨n9, h⟩ := h
  exact l_X2_mostByTwo_19 X     K   n9 (m_9 40 4) 1 m_9  h
def W_X8_pair (p0 : Int32) (mem : Mm) (K : Int32 → Mm → Prop) : Prop := W_X8_isWithin p0 0 99 mem (fun v_4 m_4 => (¬ (bZ v_4) = 0 → (W_X2_lookAt 1 p0 m_4 (fun m_22 => W_X2_mostByTwo  m_22 (fun v_29 m_29 => K v_29 m_29)))) ∧ ((bZ v_4) = 0 → (K (-1000000001) m_4)))
set_option maxRecDepth 100000 in
set_option maxHeartbeats 4000000 in
theorem w_X8_pair (X : CX) (p0 : Int32) (mem : Mm) (K : Int32 → Mm → Prop) (h : W_X8_pair p0 mem K) : CallsI X 17 M_X8_pair [.ref (cx_n X + 0), .int p0] mem K := by
  unfold W_X8_pair at h
  refine CallsC.ofP 0 (by decide) rfl (Nat.le_of_ble_eq_true rfl) ?_
  refine gc_iload_n dX8_pair_0 rfl ?_
  refine gc_iconst (v := 0) dX8_pair_1 (by decide) ?_
  refine gc_bipush (v := 99) dX8_pair_2 (by decide) ?_
  refine go_cSZ (y := M_X8_isWithin) (As := [.int p0, .int 0, .int 99]) (rest := []) dX8_pair_4 lm_X8_70 ok_X8_isWithin (by decide) (w_X8_isWithin X p0 0 99 mem _ h) rfl (Nat.le_of_ble_eq_true rfl) (fun v_4 m_4 h => ?_)
  refine gc_if_ne 13 dX8_pair_7 (by decide) (fun hc => ?_) (fun hc => ?_)
  · have h := h.1 hc
    refine gc_aload_n dX8_pair_13 rfl ?_
    refine go_getR dX8_pair_14 lg_X8_29 (sz_lt (by decide)) kd_0 rfl ?_
    refine gc_aload_n dX8_pair_17 rfl ?_
    refine go_getR dX8_pair_18 lg_X8_10 (sz_lt (by decide)) kd_0 rfl ?_
    refine gc_iload_n dX8_pair_21 rfl ?_
    refine go_cVU (y := M_X2_lookAt) (As := [.ref (cx_n X + 1), .int p0]) (rest := []) dX8_pair_22 lm_X8_184 ok_X2_lookAt (by decide) (sz_lt (by decide)) kd_40 rfl rfl (w_X2_lookAt X 1 al_1 p0 m_4 _ h) rfl (Nat.le_of_ble_eq_true rfl) (fun m_22 h => ?_)
    refine gc_aload_n dX8_pair_25 rfl ?_
    refine go_getR dX8_pair_26 lg_X8_29 (sz_lt (by decide)) kd_0 rfl ?_
    refine go_cVI (y := M_X2_mostByTwo) (As := []) (rest := []) dX8_pair_29 lm_X8_203 ok_X2_mostByTwo (by decide) (sz_lt (by decide)) kd_40 rfl rfl (w_X2_mostByTwo X  m_22 _ h) rfl (Nat.le_of_ble_eq_true rfl) (fun v_29 m_29 h => ?_)
    exact go_iret dX8_pair_32 rfl (Nat.le_refl _) (Nat.le_refl _) ⟨_, rfl, h⟩
  · have h := h.2 hc
    refine gc_ldc (v := (-1000000001)) dX8_pair_10 lk_X8_74 ?_
    exact go_iret dX8_pair_12 rfl (Nat.le_refl _) (Nat.le_refl _) ⟨_, rfl, h⟩
def L_X2_fewestForAll_6  (K : Int32 → Mm → Prop) : Nat → Int32 → Mm → Prop
  | 0, _, _ => False
  | n + 1, l1, mem => ((mem 40 4) ≤ l1 → ((¬ (mem (40 + 1 + 2) 0) = (-1) → (K (mem (40 + 1 + 2) 0) mem)) ∧ ((mem (40 + 1 + 2) 0) = (-1) → (K (-1000000005) mem)))) ∧ (¬ (mem 40 4) ≤ l1 → ((512 ≤ l1 → ((¬ (mem (40 + 1 + 2) 0) = (-1) → (K (mem (40 + 1 + 2) 0) mem)) ∧ ((mem (40 + 1 + 2) 0) = (-1) → (K (-1000000005) mem)))) ∧ (¬ 512 ≤ l1 → ((¬ (mem (40 + 1 + 2) 0) = (-1) → ((¬ (mem (40 + 1 + 2) 0) = (-1) → (K (mem (40 + 1 + 2) 0) mem)) ∧ ((mem (40 + 1 + 2) 0) = (-1) → (K (-1000000005) mem)))) ∧ ((mem (40 + 1 + 2) 0) = (-1) → (∃ i_37 : Nat, l1 = nI i_37 ∧ i_37 < 512 ∧ (W_X2_queueAllBehind (mem (40 + 1 + 3) i_37) mem (fun m_38 => L_X2_fewestForAll_6   K n (l1 + 1) m_38))))))))
set_option maxRecDepth 100000 in
set_option maxHeartbeats 4000000 in
theorem l_X2_fewestForAll_6 (X : CX)   (K : Int32 → Mm → Prop) : ∀ (n : Nat) (l1 : Int32) (mem : Mm), L_X2_fewestForAll_6    K n l1 mem → GoC X 16 0 0 M_X2_fewestForAll 6 [some (.ref (cx_n X + 40)), some (.int l1)] [] 0 0 (cellAt X mem) (sz mem) (qm X (fun r m => ∃ v : Int32, r = some (.int v) ∧ K v m))
  := by
  intro n
  induction n with
  | zero => intro l1 mem h; exact h.elim
  | succ n ih =>
    intro l1 mem h
    unfold L_X2_fewestForAll_6 at h
    refine gc_iload_n dX2_fewestForAll_6 rfl ?_
    refine gc_aload_n dX2_fewestForAll_7 rfl ?_
    refine go_getI dX2_fewestForAll_8 lg_X2_24 (sz_lt (by decide)) kd_40 rfl ?_
    refine gc_icmp_ge 47 dX2_fewestForAll_11 (by decide) (fun hc => ?_) (fun hc => ?_)
    · have h := h.1 hc
      refine gc_aload_n dX2_fewestForAll_47 rfl ?_
      refine go_getR dX2_fewestForAll_48 lg_X2_18 (sz_lt (by decide)) kd_40 rfl ?_
      refine gc_iconst (v := 0) dX2_fewestForAll_51 (by decide) ?_
      refine go_iald 0 dX2_fewestForAll_52 kd_43 rfl (by decide) ?_
      refine gc_iconst (v := (-1)) dX2_fewestForAll_53 (by decide) ?_
      refine gc_icmp_ne 62 dX2_fewestForAll_54 (by decide) (fun hc => ?_) (fun hc => ?_)
      · have h := h.1 hc
        refine gc_aload_n dX2_fewestForAll_62 rfl ?_
        refine go_getR dX2_fewestForAll_63 lg_X2_18 (sz_lt (by decide)) kd_40 rfl ?_
        refine gc_iconst (v := 0) dX2_fewestForAll_66 (by decide) ?_
        refine go_iald 0 dX2_fewestForAll_67 kd_43 rfl (by decide) ?_
        exact go_iret dX2_fewestForAll_68 rfl (Nat.le_refl _) (Nat.le_refl _) ⟨_, rfl, h⟩
      · have h := h.2 hc
        refine gc_ldc (v := (-1000000005)) dX2_fewestForAll_57 lk_X2_120 ?_
        refine gc_goto 68 dX2_fewestForAll_59 (by decide) ?_
        exact go_iret dX2_fewestForAll_68 rfl (Nat.le_refl _) (Nat.le_refl _) ⟨_, rfl, h⟩
    · have h := h.2 hc
      refine gc_iload_n dX2_fewestForAll_14 rfl ?_
      refine gc_sipush (v := 512) dX2_fewestForAll_15 (by decide) ?_
      refine gc_icmp_ge 47 dX2_fewestForAll_18 (by decide) (fun hc => ?_) (fun hc => ?_)
      · have h := h.1 hc
        refine gc_aload_n dX2_fewestForAll_47 rfl ?_
        refine go_getR dX2_fewestForAll_48 lg_X2_18 (sz_lt (by decide)) kd_40 rfl ?_
        refine gc_iconst (v := 0) dX2_fewestForAll_51 (by decide) ?_
        refine go_iald 0 dX2_fewestForAll_52 kd_43 rfl (by decide) ?_
        refine gc_iconst (v := (-1)) dX2_fewestForAll_53 (by decide) ?_
        refine gc_icmp_ne 62 dX2_fewestForAll_54 (by decide) (fun hc => ?_) (fun hc => ?_)
        · have h := h.1 hc
          refine gc_aload_n dX2_fewestForAll_62 rfl ?_
          refine go_getR dX2_fewestForAll_63 lg_X2_18 (sz_lt (by decide)) kd_40 rfl ?_
          refine gc_iconst (v := 0) dX2_fewestForAll_66 (by decide) ?_
          refine go_iald 0 dX2_fewestForAll_67 kd_43 rfl (by decide) ?_
          exact go_iret dX2_fewestForAll_68 rfl (Nat.le_refl _) (Nat.le_refl _) ⟨_, rfl, h⟩
        · have h := h.2 hc
          refine gc_ldc (v := (-1000000005)) dX2_fewestForAll_57 lk_X2_120 ?_
          refine gc_goto 68 dX2_fewestForAll_59 (by decide) ?_
          exact go_iret dX2_fewestForAll_68 rfl (Nat.le_refl _) (Nat.le_refl _) ⟨_, rfl, h⟩
      · have h := h.2 hc
        refine gc_aload_n dX2_fewestForAll_21 rfl ?_
        refine go_getR dX2_fewestForAll_22 lg_X2_18 (sz_lt (by decide)) kd_40 rfl ?_
        refine gc_iconst (v := 0) dX2_fewestForAll_25 (by decide) ?_
        refine go_iald 0 dX2_fewestForAll_26 kd_43 rfl (by decide) ?_
        refine gc_iconst (v := (-1)) dX2_fewestForAll_27 (by decide) ?_
        refine gc_icmp_ne 47 dX2_fewestForAll_28 (by decide) (fun hc => ?_) (fun hc => ?_)
        · have h := h.1 hc
          refine gc_aload_n dX2_fewestForAll_47 rfl ?_
          refine go_getR dX2_fewestForAll_48 lg_X2_18 (sz_lt (by decide)) kd_40 rfl ?_
          refine gc_iconst (v := 0) dX2_fewestForAll_51 (by decide) ?_
          refine go_iald 0 dX2_fewestForAll_52 kd_43 rfl (by decide) ?_
          refine gc_iconst (v := (-1)) dX2_fewestForAll_53 (by decide) ?_
          refine gc_icmp_ne 62 dX2_fewestForAll_54 (by decide) (fun hc => ?_) (fun hc => ?_)
          · have h := h.1 hc
            refine gc_aload_n dX2_fewestForAll_62 rfl ?_
            refine go_getR dX2_fewestForAll_63 lg_X2_18 (sz_lt (by decide)) kd_40 rfl ?_
            refine gc_iconst (v := 0) dX2_fewestForAll_66 (by decide) ?_
            refine go_iald 0 dX2_fewestForAll_67 kd_43 rfl (by decide) ?_
            exact go_iret dX2_fewestForAll_68 rfl (Nat.le_refl _) (Nat.le_refl _) ⟨_, rfl, h⟩
          · have h := h.2 hc
            refine gc_ldc (v := (-1000000005)) dX2_fewestForAll_57 lk_X2_120 ?_
            refine gc_goto 68 dX2_fewestForAll_59 (by decide) ?_
            exact go_iret dX2_fewestForAll_68 rfl (Nat.le_refl _) (Nat.le_refl _) ⟨_, rfl, h⟩
        · have h := h.2 hc
          refine gc_aload_n dX2_fewestForAll_31 rfl ?_
          refine gc_aload_n dX2_fewestForAll_32 rfl ?_
          refine go_getR dX2_fewestForAll_33 lg_X2_21 (sz_lt (by decide)) kd_40 rfl ?_
          refine gc_iload_n dX2_fewestForAll_36 rfl ?_
          obtain ⟨i_37, hx_37, hi_37, h⟩ := h
          refine go_iald i_37 dX2_fewestForAll_37 kd_44 hx_37 hi_37 ?_
          refine go_cVU (y := M_X2_queueAllBehind) (As := [.int (mem (40 + 1 + 3) i_37)]) (rest := []) dX2_fewestForAll_38 lm_X2_111 ok_X2_queueAllBehind (by decide) (sz_lt (by decide)) kd_40 rfl rfl (w_X2_queueAllBehind X (mem (40 + 1 + 3) i_37) mem _ h) rfl (Nat.le_of_ble_eq_true rfl) (fun m_38 h => ?_)
          refine gc_iinc (v := l1 + 1) dX2_fewestForAll_41 rfl rfl (by decide) ?_
          refine gc_goto 6 dX2_fewestForAll_44 (by decide) ?_
          exact ih (l1 + 1) m_38  h
def W_X2_fewestForAll  (mem : Mm) (K : Int32 → Mm → Prop) : Prop := W_X2_startQueue  mem (fun m_1 => ∃ nz : Nat, L_X2_fewestForAll_6    K nz 0 m_1)
set_option maxRecDepth 100000 in
set_option maxHeartbeats 4000000 in
theorem w_X2_fewestForAll (X : CX)  (mem : Mm) (K : Int32 → Mm → Prop) (h : W_X2_fewestForAll  mem K) : CallsI X 16 M_X2_fewestForAll [.ref (cx_n X + 40)] mem K := by
  unfold W_X2_fewestForAll at h
  refine CallsC.ofP 1 (by decide) rfl (Nat.le_of_ble_eq_true rfl) ?_
  refine gc_aload_n dX2_fewestForAll_0 rfl ?_
  refine go_cVU (y := M_X2_startQueue) (As := []) (rest := []) dX2_fewestForAll_1 lm_X2_108 ok_X2_startQueue (by decide) (sz_lt (by decide)) kd_40 rfl rfl (w_X2_startQueue X  mem _ h) rfl (Nat.le_of_ble_eq_true rfl) (fun m_1 h => ?_)
  refine gc_iconst (v := 0) dX2_fewestForAll_4 (by decide) ?_
  refine gc_istore_n dX2_fewestForAll_5 (by decide) ?_
  obtain ⟨n9, h⟩ := h
  exact l_X2_fewestForAll_6 X     K   n9 0 m_1  h
def W_X8_clear (p0 : Int32) (mem : Mm) (K : Int32 → Mm → Prop) : Prop := W_X8_isWithin p0 0 99 mem (fun v_4 m_4 => (¬ (bZ v_4) = 0 → (W_X2_lookAt 1 p0 m_4 (fun m_22 => W_X2_fewestForAll  m_22 (fun v_29 m_29 => K v_29 m_29)))) ∧ ((bZ v_4) = 0 → (K (-1000000001) m_4)))
set_option maxRecDepth 100000 in
set_option maxHeartbeats 4000000 in
theorem w_X8_clear (X : CX) (p0 : Int32) (mem : Mm) (K : Int32 → Mm → Prop) (h : W_X8_clear p0 mem K) : CallsI X 17 M_X8_clear [.ref (cx_n X + 0), .int p0] mem K := by
  unfold W_X8_clear at h
  refine CallsC.ofP 0 (by decide) rfl (Nat.le_of_ble_eq_true rfl) ?_
  refine gc_iload_n dX8_clear_0 rfl ?_
  refine gc_iconst (v := 0) dX8_clear_1 (by decide) ?_
  refine gc_bipush (v := 99) dX8_clear_2 (by decide) ?_
  refine go_cSZ (y := M_X8_isWithin) (As := [.int p0, .int 0, .int 99]) (rest := []) dX8_clear_4 lm_X8_70 ok_X8_isWithin (by decide) (w_X8_isWithin X p0 0 99 mem _ h) rfl (Nat.le_of_ble_eq_true rfl) (fun v_4 m_4 h => ?_)
  refine gc_if_ne 13 dX8_clear_7 (by decide) (fun hc => ?_) (fun hc => ?_)
  · have h := h.1 hc
    refine gc_aload_n dX8_clear_13 rfl ?_
    refine go_getR dX8_clear_14 lg_X8_29 (sz_lt (by decide)) kd_0 rfl ?_
    refine gc_aload_n dX8_clear_17 rfl ?_
    refine go_getR dX8_clear_18 lg_X8_10 (sz_lt (by decide)) kd_0 rfl ?_
    refine gc_iload_n dX8_clear_21 rfl ?_
    refine go_cVU (y := M_X2_lookAt) (As := [.ref (cx_n X + 1), .int p0]) (rest := []) dX8_clear_22 lm_X8_184 ok_X2_lookAt (by decide) (sz_lt (by decide)) kd_40 rfl rfl (w_X2_lookAt X 1 al_1 p0 m_4 _ h) rfl (Nat.le_of_ble_eq_true rfl) (fun m_22 h => ?_)
    refine gc_aload_n dX8_clear_25 rfl ?_
    refine go_getR dX8_clear_26 lg_X8_29 (sz_lt (by decide)) kd_0 rfl ?_
    refine go_cVI (y := M_X2_fewestForAll) (As := []) (rest := []) dX8_clear_29 lm_X8_206 ok_X2_fewestForAll (by decide) (sz_lt (by decide)) kd_40 rfl rfl (w_X2_fewestForAll X  m_22 _ h) rfl (Nat.le_of_ble_eq_true rfl) (fun v_29 m_29 h => ?_)
    exact go_iret dX8_clear_32 rfl (Nat.le_refl _) (Nat.le_refl _) ⟨_, rfl, h⟩
  · have h := h.2 hc
    refine gc_ldc (v := (-1000000001)) dX8_clear_10 lk_X8_74 ?_
    exact go_iret dX8_clear_12 rfl (Nat.le_refl _) (Nat.le_refl _) ⟨_, rfl, h⟩
def W_X8_force (p0 : Int32) (p1 : Int32) (mem : Mm) (K : Int32 → Mm → Prop) : Prop := W_X0_has 1 p0 mem (fun v_5 m_5 => ((bZ v_5) = 0 → (K (-1000000001) m_5)) ∧ (¬ (bZ v_5) = 0 → (W_X8_isWithin p1 0 7 m_5 (fun v_15 m_15 => (¬ (bZ v_15) = 0 → (W_X0_stands 1 p0 m_15 (fun v_29 m_29 => (¬ (bZ v_29) = 0 → (W_X0_bearing 1 p0 p1 m_29 (fun v_44 m_44 => (99 < (v_44 + 1) → (K (-1000000005) m_44)) ∧ (¬ 99 < (v_44 + 1) → (K (v_44 + 1) m_44))))) ∧ ((bZ v_29) = 0 → (K (-1000000002) m_29))))) ∧ ((bZ v_15) = 0 → (K (-1000000001) m_15))))))
set_option maxRecDepth 100000 in
set_option maxHeartbeats 4000000 in
theorem w_X8_force (X : CX) (p0 : Int32) (p1 : Int32) (mem : Mm) (K : Int32 → Mm → Prop) (h : W_X8_force p0 p1 mem K) : CallsI X 4 M_X8_force [.ref (cx_n X + 0), .int p0, .int p1] mem K := by
  unfold W_X8_force at h
  refine CallsC.ofP 1 (by decide) rfl (Nat.le_of_ble_eq_true rfl) ?_
  refine gc_aload_n dX8_force_0 rfl ?_
  refine go_getR dX8_force_1 lg_X8_10 (sz_lt (by decide)) kd_0 rfl ?_
  refine gc_iload_n dX8_force_4 rfl ?_
  refine go_cVZ (y := M_X0_has) (As := [.int p0]) (rest := []) dX8_force_5 lm_X8_83 ok_X0_has (by decide) (sz_lt (al_lt al_1)) (al_kd al_1) rfl rfl (w_X0_has X 1 al_1 p0 mem _ h) rfl (Nat.le_of_ble_eq_true rfl) (fun v_5 m_5 h => ?_)
  refine gc_if_eq 21 dX8_force_8 (by decide) (fun hc => ?_) (fun hc => ?_)
  · have h := h.1 hc
    refine gc_ldc (v := (-1000000001)) dX8_force_21 lk_X8_74 ?_
    exact go_iret dX8_force_23 rfl (Nat.le_refl _) (Nat.le_refl _) ⟨_, rfl, h⟩
  · have h := h.2 hc
    refine gc_iload_n dX8_force_11 rfl ?_
    refine gc_iconst (v := 0) dX8_force_12 (by decide) ?_
    refine gc_bipush (v := 7) dX8_force_13 (by decide) ?_
    refine go_cSZ (y := M_X8_isWithin) (As := [.int p1, .int 0, .int 7]) (rest := []) dX8_force_15 lm_X8_70 ok_X8_isWithin (by decide) (w_X8_isWithin X p1 0 7 m_5 _ h) rfl (Nat.le_of_ble_eq_true rfl) (fun v_15 m_15 h => ?_)
    refine gc_if_ne 24 dX8_force_18 (by decide) (fun hc => ?_) (fun hc => ?_)
    · have h := h.1 hc
      refine gc_aload_n dX8_force_24 rfl ?_
      refine go_getR dX8_force_25 lg_X8_10 (sz_lt (by decide)) kd_0 rfl ?_
      refine gc_iload_n dX8_force_28 rfl ?_
      refine go_cVZ (y := M_X0_stands) (As := [.int p0]) (rest := []) dX8_force_29 lm_X8_133 ok_X0_stands (by decide) (sz_lt (al_lt al_1)) (al_kd al_1) rfl rfl (w_X0_stands X 1 al_1 p0 m_15 _ h) rfl (Nat.le_of_ble_eq_true rfl) (fun v_29 m_29 h => ?_)
      refine gc_if_ne 38 dX8_force_32 (by decide) (fun hc => ?_) (fun hc => ?_)
      · have h := h.1 hc
        refine gc_aload_n dX8_force_38 rfl ?_
        refine go_getR dX8_force_39 lg_X8_10 (sz_lt (by decide)) kd_0 rfl ?_
        refine gc_iload_n dX8_force_42 rfl ?_
        refine gc_iload_n dX8_force_43 rfl ?_
        refine go_cVI (y := M_X0_bearing) (As := [.int p0, .int p1]) (rest := []) dX8_force_44 lm_X8_118 ok_X0_bearing (by decide) (sz_lt (al_lt al_1)) (al_kd al_1) rfl rfl (w_X0_bearing X 1 al_1 p0 p1 m_29 _ h) rfl (Nat.le_of_ble_eq_true rfl) (fun v_44 m_44 h => ?_)
        refine gc_iconst (v := 1) dX8_force_47 (by decide) ?_
        refine gc_iadd dX8_force_48 ?_
        refine gc_istore_n dX8_force_49 (by decide) ?_
        refine gc_iload_n dX8_force_50 rfl ?_
        refine gc_bipush (v := 99) dX8_force_51 (by decide) ?_
        refine gc_icmp_gt 60 dX8_force_53 (by decide) (fun hc => ?_) (fun hc => ?_)
        · have h := h.1 hc
          refine gc_ldc (v := (-1000000005)) dX8_force_60 lk_X8_183 ?_
          exact go_iret dX8_force_62 rfl (Nat.le_refl _) (Nat.le_refl _) ⟨_, rfl, h⟩
        · have h := h.2 hc
          refine gc_iload_n dX8_force_56 rfl ?_
          refine gc_goto 62 dX8_force_57 (by decide) ?_
          exact go_iret dX8_force_62 rfl (Nat.le_refl _) (Nat.le_refl _) ⟨_, rfl, h⟩
      · have h := h.2 hc
        refine gc_ldc (v := (-1000000002)) dX8_force_35 lk_X8_136 ?_
        exact go_iret dX8_force_37 rfl (Nat.le_refl _) (Nat.le_refl _) ⟨_, rfl, h⟩
    · have h := h.2 hc
      refine gc_ldc (v := (-1000000001)) dX8_force_21 lk_X8_74 ?_
      exact go_iret dX8_force_23 rfl (Nat.le_refl _) (Nat.le_refl _) ⟨_, rfl, h⟩
def W_X1_becomeAs (a0 : Nat) (a1 : Nat) (mem : Mm) (K : Mm → Prop) : Prop := ∀ m_5 : Mm, m_5 = mu mem a0 0 (mem a1 0) → (∀ m_13 : Mm, m_13 = mu m_5 a0 1 (m_5 a1 1) → (∀ m_21 : Mm, m_21 = mu m_13 a0 2 (m_13 a1 2) → (∀ m_29 : Mm, m_29 = mu m_21 a0 3 (m_21 a1 3) → (∀ m_37 : Mm, m_37 = mu m_29 a0 4 (m_29 a1 4) → (((m_37 a1 5) = 0 ∨ (m_37 a1 5) = 1) ∧ (∀ m_45 : Mm, m_45 = mu m_37 a0 5 (m_37 a1 5) → (K m_45)))))))
set_option maxRecDepth 100000 in
set_option maxHeartbeats 4000000 in
theorem w_X1_becomeAs (X : CX) (a0 : Nat) (ha0 : isMan a0) (a1 : Nat) (ha1 : isMan a1) (mem : Mm) (K : Mm → Prop) (h : W_X1_becomeAs a0 a1 mem K) : CallsU X 0 M_X1_becomeAs [.ref (cx_n X + a0), .ref (cx_n X + a1)] mem K := by
  unfold W_X1_becomeAs at h
  refine CallsC.ofP 0 (by decide) rfl (Nat.le_of_ble_eq_true rfl) ?_
  refine gc_aload_n dX1_becomeAs_0 rfl ?_
  refine gc_aload_n dX1_becomeAs_1 rfl ?_
  refine go_getI dX1_becomeAs_2 lg_X1_9 (sz_lt ha1.2) ha1.1 rfl ?_
  refine go_putI_ dX1_becomeAs_5 lp_X1_9 (sz_lt ha0.2) ha0.1 rfl (fun m_5 em_5 => ?_)
  have h := h m_5 em_5
  refine gc_aload_n dX1_becomeAs_8 rfl ?_
  refine gc_aload_n dX1_becomeAs_9 rfl ?_
  refine go_getI dX1_becomeAs_10 lg_X1_15 (sz_lt ha1.2) ha1.1 rfl ?_
  refine go_putI_ dX1_becomeAs_13 lp_X1_15 (sz_lt ha0.2) ha0.1 rfl (fun m_13 em_13 => ?_)
  have h := h m_13 em_13
  refine gc_aload_n dX1_becomeAs_16 rfl ?_
  refine gc_aload_n dX1_becomeAs_17 rfl ?_
  refine go_getI dX1_becomeAs_18 lg_X1_18 (sz_lt ha1.2) ha1.1 rfl ?_
  refine go_putI_ dX1_becomeAs_21 lp_X1_18 (sz_lt ha0.2) ha0.1 rfl (fun m_21 em_21 => ?_)
  have h := h m_21 em_21
  refine gc_aload_n dX1_becomeAs_24 rfl ?_
  refine gc_aload_n dX1_becomeAs_25 rfl ?_
  refine go_getI dX1_becomeAs_26 lg_X1_21 (sz_lt ha1.2) ha1.1 rfl ?_
  refine go_putI_ dX1_becomeAs_29 lp_X1_21 (sz_lt ha0.2) ha0.1 rfl (fun m_29 em_29 => ?_)
  have h := h m_29 em_29
  refine gc_aload_n dX1_becomeAs_32 rfl ?_
  refine gc_aload_n dX1_becomeAs_33 rfl ?_
  refine go_getI dX1_becomeAs_34 lg_X1_24 (sz_lt ha1.2) ha1.1 rfl ?_
  refine go_putI_ dX1_becomeAs_37 lp_X1_24 (sz_lt ha0.2) ha0.1 rfl (fun m_37 em_37 => ?_)
  have h := h m_37 em_37
  refine gc_aload_n dX1_becomeAs_40 rfl ?_
  refine gc_aload_n dX1_becomeAs_41 rfl ?_
  refine go_getI dX1_becomeAs_42 lg_X1_27 (sz_lt ha1.2) ha1.1 rfl ?_
  obtain ⟨h01, h⟩ := h
  refine go_putZ_ dX1_becomeAs_45 lp_X1_27 (sz_lt ha0.2) ha0.1 rfl h01 (fun m_45 em_45 => ?_)
  have h := h m_45 em_45
  exact go_vret dX1_becomeAs_48 rfl (Nat.le_refl _) (Nat.le_refl _) ⟨rfl, h⟩
def L_X0_becomeAs_81 (a0 : Nat) (a1 : Nat) (K : Mm → Prop) : Nat → Int32 → Mm → Prop
  | 0, _, _ => False
  | n + 1, l2, mem => ((mem a1 8) ≤ l2 → (∀ m_112 : Mm, m_112 = mu mem a0 8 (mem a1 8) → (∃ (a_126 b_126 c_126 : Nat), 0 = nI a_126 ∧ 0 = nI b_126 ∧ 3 = nI c_126 ∧ a_126 + c_126 ≤ 3 ∧ b_126 + c_126 ≤ 3 ∧ (∀ m_126 : Mm, m_126 = muC m_112 (a1 + 3) (a0 + 3) a_126 b_126 c_126 → (K m_126))))) ∧ (¬ (mem a1 8) ≤ l2 → (∃ i_99 : Nat, l2 = nI i_99 ∧ i_99 < 14 ∧ ((mem (a1 + 2) i_99 < 0 → (∃ i_100 : Nat, l2 = nI i_100 ∧ i_100 < 14 ∧ (∀ m_100 : Mm, m_100 = mu mem (a0 + 2) i_100 (mem (a1 + 2) i_99) → (L_X0_becomeAs_81 a0 a1  K n (l2 + 1) m_100)))) ∧ (¬ mem (a1 + 2) i_99 < 0 → (((mem (a1 + 2) i_99).toNatClampNeg) < nTx mem ∧ ∃ i_100 : Nat, l2 = nI i_100 ∧ i_100 < 14 ∧ (∀ m_100 : Mm, m_100 = mu mem (a0 + 2) i_100 (mem (a1 + 2) i_99) → (L_X0_becomeAs_81 a0 a1  K n (l2 + 1) m_100)))))))
set_option maxRecDepth 100000 in
set_option maxHeartbeats 4000000 in
theorem l_X0_becomeAs_81 (X : CX) (a0 : Nat) (a1 : Nat) (ha0 : isAl a0) (ha1 : isAl a1) (K : Mm → Prop) : ∀ (n : Nat) (l2 : Int32) (mem : Mm), L_X0_becomeAs_81 a0 a1   K n l2 mem → GoC X 1 0 0 M_X0_becomeAs 81 [some (.ref (cx_n X + a0)), some (.ref (cx_n X + a1)), some (.int l2)] [] 0 0 (cellAt X mem) (sz mem) (qm X (fun r m => r = none ∧ K m))
  := by
  intro n
  induction n with
  | zero => intro l2 mem h; exact h.elim
  | succ n ih =>
    intro l2 mem h
    unfold L_X0_becomeAs_81 at h
    refine gc_iload_n dX0_becomeAs_81 rfl ?_
    refine gc_aload_n dX0_becomeAs_82 rfl ?_
    refine go_getI dX0_becomeAs_83 lg_X0_42 (sz_lt (al_lt ha1)) (al_kd ha1) rfl ?_
    refine gc_icmp_ge 107 dX0_becomeAs_86 (by decide) (fun hc => ?_) (fun hc => ?_)
    · have h := h.1 hc
      refine gc_aload_n dX0_becomeAs_107 rfl ?_
      refine gc_aload_n dX0_becomeAs_108 rfl ?_
      refine go_getI dX0_becomeAs_109 lg_X0_42 (sz_lt (al_lt ha1)) (al_kd ha1) rfl ?_
      refine go_putI_ dX0_becomeAs_112 lp_X0_42 (sz_lt (al_lt ha0)) (al_kd ha0) rfl (fun m_112 em_112 => ?_)
      have h := h m_112 em_112
      refine gc_aload_n dX0_becomeAs_115 rfl ?_
      refine go_getR dX0_becomeAs_116 lg_X0_45 (sz_lt (al_lt ha1)) (al_kd ha1) rfl ?_
      refine gc_iconst (v := 0) dX0_becomeAs_119 (by decide) ?_
      refine gc_aload_n dX0_becomeAs_120 rfl ?_
      refine go_getR dX0_becomeAs_121 lg_X0_45 (sz_lt (al_lt ha0)) (al_kd ha0) rfl ?_
      refine gc_iconst (v := 0) dX0_becomeAs_124 (by decide) ?_
      refine gc_iconst (v := 3) dX0_becomeAs_125 (by decide) ?_
      obtain ⟨a_126, b_126, c_126, hx_126, hy_126, hz_126, h1_126, h2_126, h⟩ := h
      refine go_acopy a_126 b_126 c_126 dX0_becomeAs_126 lac_X0_61 (by decide) (al_ct ha1) (al_ct ha0) hx_126 hy_126 hz_126 h1_126 h2_126 (by omega) (Nat.le_of_ble_eq_true rfl) (fun m_126 em_126 => ?_)
      have h := h m_126 em_126
      exact go_vret dX0_becomeAs_129 rfl (Nat.le_refl _) (Nat.le_refl _) ⟨rfl, h⟩
    · have h := h.2 hc
      refine gc_aload_n dX0_becomeAs_89 rfl ?_
      refine go_getR dX0_becomeAs_90 lg_X0_38 (sz_lt (al_lt ha0)) (al_kd ha0) rfl ?_
      refine gc_iload_n dX0_becomeAs_93 rfl ?_
      refine gc_aload_n dX0_becomeAs_94 rfl ?_
      refine go_getR dX0_becomeAs_95 lg_X0_38 (sz_lt (al_lt ha1)) (al_kd ha1) rfl ?_
      refine gc_iload_n dX0_becomeAs_98 rfl ?_
      obtain ⟨i_99, hx_99, hi_99, h⟩ := h
      refine go_texts i_99 ha1 dX0_becomeAs_99 hx_99 hi_99 (fun hv => ?_) (fun hv => ?_)
      · have h := h.1 hv
        obtain ⟨i_100, hx_100, hi_100, h⟩ := h
        refine go_texN i_100 ha0 dX0_becomeAs_100 hx_100 hi_100 hv (fun m_100 em_100 => ?_)
        have h := h m_100 em_100
        refine gc_iinc (v := l2 + 1) dX0_becomeAs_101 rfl rfl (by decide) ?_
        refine gc_goto 81 dX0_becomeAs_104 (by decide) ?_
        exact ih (l2 + 1) m_100  h
      · have h := h.2 hv
        obtain ⟨hj, i_100, hx_100, hi_100, h⟩ := h
        refine go_texR i_100 ha0 dX0_becomeAs_100 hx_100 hi_100 hv hj (fun m_100 em_100 => ?_)
        have h := h m_100 em_100
        refine gc_iinc (v := l2 + 1) dX0_becomeAs_101 rfl rfl (by decide) ?_
        refine gc_goto 81 dX0_becomeAs_104 (by decide) ?_
        exact ih (l2 + 1) m_100  h
def L_X0_becomeAs_2 (a0 : Nat) (a1 : Nat) (K : Mm → Prop) : Nat → Int32 → Mm → Prop
  | 0, _, _ => False
  | n + 1, l2, mem => ((mem a1 1) ≤ l2 → (∀ m_36 : Mm, m_36 = mu mem a0 1 (mem a1 1) → (∀ m_44 : Mm, m_44 = mu m_36 a0 2 (m_36 a1 2) → (∀ m_52 : Mm, m_52 = mu m_44 a0 3 (m_44 a1 3) → (∀ m_60 : Mm, m_60 = mu m_52 a0 4 (m_52 a1 4) → (∀ m_68 : Mm, m_68 = mu m_60 a0 5 (m_60 a1 5) → (∀ m_76 : Mm, m_76 = mu m_68 a0 6 (m_68 a1 6) → (∃ nz : Nat, L_X0_becomeAs_81 a0 a1   K nz 0 m_76)))))))) ∧ (¬ (mem a1 1) ≤ l2 → (∃ i_15 : Nat, l2 = nI i_15 ∧ i_15 < 9 ∧ (∃ i_21 : Nat, l2 = nI i_21 ∧ i_21 < 9 ∧ (W_X1_becomeAs (a0 + 4 + i_15) (a1 + 4 + i_21) mem (fun m_22 => L_X0_becomeAs_2 a0 a1  K n (l2 + 1) m_22)))))
set_option maxRecDepth 100000 in
set_option maxHeartbeats 4000000 in
theorem l_X0_becomeAs_2 (X : CX) (a0 : Nat) (a1 : Nat) (ha0 : isAl a0) (ha1 : isAl a1) (K : Mm → Prop) : ∀ (n : Nat) (l2 : Int32) (mem : Mm), L_X0_becomeAs_2 a0 a1   K n l2 mem → GoC X 1 0 0 M_X0_becomeAs 2 [some (.ref (cx_n X + a0)), some (.ref (cx_n X + a1)), some (.int l2)] [] 0 0 (cellAt X mem) (sz mem) (qm X (fun r m => r = none ∧ K m))
  := by
  intro n
  induction n with
  | zero => intro l2 mem h; exact h.elim
  | succ n ih =>
    intro l2 mem h
    unfold L_X0_becomeAs_2 at h
    refine gc_iload_n dX0_becomeAs_2 rfl ?_
    refine gc_aload_n dX0_becomeAs_3 rfl ?_
    refine go_getI dX0_becomeAs_4 lg_X0_17 (sz_lt (al_lt ha1)) (al_kd ha1) rfl ?_
    refine gc_icmp_ge 31 dX0_becomeAs_7 (by decide) (fun hc => ?_) (fun hc => ?_)
    · have h := h.1 hc
      refine gc_aload_n dX0_becomeAs_31 rfl ?_
      refine gc_aload_n dX0_becomeAs_32 rfl ?_
      refine go_getI dX0_becomeAs_33 lg_X0_17 (sz_lt (al_lt ha1)) (al_kd ha1) rfl ?_
      refine go_putI_ dX0_becomeAs_36 lp_X0_17 (sz_lt (al_lt ha0)) (al_kd ha0) rfl (fun m_36 em_36 => ?_)
      have h := h m_36 em_36
      refine gc_aload_n dX0_becomeAs_39 rfl ?_
      refine gc_aload_n dX0_becomeAs_40 rfl ?_
      refine go_getI dX0_becomeAs_41 lg_X0_21 (sz_lt (al_lt ha1)) (al_kd ha1) rfl ?_
      refine go_putI_ dX0_becomeAs_44 lp_X0_21 (sz_lt (al_lt ha0)) (al_kd ha0) rfl (fun m_44 em_44 => ?_)
      have h := h m_44 em_44
      refine gc_aload_n dX0_becomeAs_47 rfl ?_
      refine gc_aload_n dX0_becomeAs_48 rfl ?_
      refine go_getI dX0_becomeAs_49 lg_X0_24 (sz_lt (al_lt ha1)) (al_kd ha1) rfl ?_
      refine go_putI_ dX0_becomeAs_52 lp_X0_24 (sz_lt (al_lt ha0)) (al_kd ha0) rfl (fun m_52 em_52 => ?_)
      have h := h m_52 em_52
      refine gc_aload_n dX0_becomeAs_55 rfl ?_
      refine gc_aload_n dX0_becomeAs_56 rfl ?_
      refine go_getI dX0_becomeAs_57 lg_X0_27 (sz_lt (al_lt ha1)) (al_kd ha1) rfl ?_
      refine go_putI_ dX0_becomeAs_60 lp_X0_27 (sz_lt (al_lt ha0)) (al_kd ha0) rfl (fun m_60 em_60 => ?_)
      have h := h m_60 em_60
      refine gc_aload_n dX0_becomeAs_63 rfl ?_
      refine gc_aload_n dX0_becomeAs_64 rfl ?_
      refine go_getI dX0_becomeAs_65 lg_X0_30 (sz_lt (al_lt ha1)) (al_kd ha1) rfl ?_
      refine go_putI_ dX0_becomeAs_68 lp_X0_30 (sz_lt (al_lt ha0)) (al_kd ha0) rfl (fun m_68 em_68 => ?_)
      have h := h m_68 em_68
      refine gc_aload_n dX0_becomeAs_71 rfl ?_
      refine gc_aload_n dX0_becomeAs_72 rfl ?_
      refine go_getI dX0_becomeAs_73 lg_X0_33 (sz_lt (al_lt ha1)) (al_kd ha1) rfl ?_
      refine go_putI_ dX0_becomeAs_76 lp_X0_33 (sz_lt (al_lt ha0)) (al_kd ha0) rfl (fun m_76 em_76 => ?_)
      have h := h m_76 em_76
      refine gc_iconst (v := 0) dX0_becomeAs_79 (by decide) ?_
      refine gc_istore_n dX0_becomeAs_80 (by decide) ?_
      obtain ⟨n9, h⟩ := h
      exact l_X0_becomeAs_81 X a0 a1 ha0 ha1   K   n9 0 m_76  h
    · have h := h.2 hc
      refine gc_aload_n dX0_becomeAs_10 rfl ?_
      refine go_getR dX0_becomeAs_11 lg_X0_11 (sz_lt (al_lt ha0)) (al_kd ha0) rfl ?_
      refine gc_iload_n dX0_becomeAs_14 rfl ?_
      obtain ⟨i_15, hx_15, hi_15, h⟩ := h
      refine go_men i_15 ha0 dX0_becomeAs_15 hx_15 hi_15 ?_
      refine gc_aload_n dX0_becomeAs_16 rfl ?_
      refine go_getR dX0_becomeAs_17 lg_X0_11 (sz_lt (al_lt ha1)) (al_kd ha1) rfl ?_
      refine gc_iload_n dX0_becomeAs_20 rfl ?_
      obtain ⟨i_21, hx_21, hi_21, h⟩ := h
      refine go_men i_21 ha1 dX0_becomeAs_21 hx_21 hi_21 ?_
      refine go_cVU (y := M_X1_becomeAs) (As := [.ref (cx_n X + (a1 + 4 + i_21))]) (rest := []) dX0_becomeAs_22 lm_X0_57 ok_X1_becomeAs (by decide) (sz_lt (al_man ha0 hi_15).2) (al_man ha0 hi_15).1 rfl rfl (w_X1_becomeAs X (a0 + 4 + i_15) (al_man ha0 hi_15) (a1 + 4 + i_21) (al_man ha1 hi_21) mem _ h) rfl (Nat.le_of_ble_eq_true rfl) (fun m_22 h => ?_)
      refine gc_iinc (v := l2 + 1) dX0_becomeAs_25 rfl rfl (by decide) ?_
      refine gc_goto 2 dX0_becomeAs_28 (by decide) ?_
      exact ih (l2 + 1) m_22  h
def W_X0_becomeAs (a0 : Nat) (a1 : Nat) (mem : Mm) (K : Mm → Prop) : Prop := ∃ nz : Nat, L_X0_becomeAs_2 a0 a1   K nz 0 mem
set_option maxRecDepth 100000 in
set_option maxHeartbeats 4000000 in
theorem w_X0_becomeAs (X : CX) (a0 : Nat) (ha0 : isAl a0) (a1 : Nat) (ha1 : isAl a1) (mem : Mm) (K : Mm → Prop) (h : W_X0_becomeAs a0 a1 mem K) : CallsU X 1 M_X0_becomeAs [.ref (cx_n X + a0), .ref (cx_n X + a1)] mem K := by
  unfold W_X0_becomeAs at h
  refine CallsC.ofP 1 (by decide) rfl (Nat.le_of_ble_eq_true rfl) ?_
  refine gc_iconst (v := 0) dX0_becomeAs_0 (by decide) ?_
  refine gc_istore_n dX0_becomeAs_1 (by decide) ?_
  obtain ⟨n9, h⟩ := h
  exact l_X0_becomeAs_2 X a0 a1 ha0 ha1   K   n9 0 mem  h
def W_X8_behind (p0 : Int32) (p1 : Int32) (mem : Mm) (K : Int32 → Mm → Prop) : Prop := W_X8_isWithin p0 0 100 mem (fun v_4 m_4 => ((bZ v_4) = 0 → (K (-1000000001) m_4)) ∧ (¬ (bZ v_4) = 0 → (W_X8_isWithin p1 0 (2 + (m_4 1 1)) m_4 (fun v_21 m_21 => (¬ (bZ v_21) = 0 → (W_X0_becomeAs 27 1 m_21 (fun m_38 => W_X0_goOn 27 p0 m_38 (fun m_46 => (p1 = 0 → (K (m_46 27 2) m_46)) ∧ (¬ p1 = 0 → ((p1 = 1 → (K (m_46 27 3) m_46)) ∧ (¬ p1 = 1 → ((p1 = 2 → (W_X0_standing 27 m_46 (fun v_96 m_96 => K v_96 m_96))) ∧ (¬ p1 = 2 → (∃ i_110 : Nat, (p1 - 3) = nI i_110 ∧ i_110 < 9 ∧ (K (m_46 (27 + 4 + i_110) 4) m_46))))))))))) ∧ ((bZ v_21) = 0 → (K (-1000000001) m_21))))))
set_option maxRecDepth 100000 in
set_option maxHeartbeats 4000000 in
theorem w_X8_behind (X : CX) (p0 : Int32) (p1 : Int32) (mem : Mm) (K : Int32 → Mm → Prop) (h : W_X8_behind p0 p1 mem K) : CallsI X 19 M_X8_behind [.ref (cx_n X + 0), .int p0, .int p1] mem K := by
  unfold W_X8_behind at h
  refine CallsC.ofP 0 (by decide) rfl (Nat.le_of_ble_eq_true rfl) ?_
  refine gc_iload_n dX8_behind_0 rfl ?_
  refine gc_iconst (v := 0) dX8_behind_1 (by decide) ?_
  refine gc_bipush (v := 100) dX8_behind_2 (by decide) ?_
  refine go_cSZ (y := M_X8_isWithin) (As := [.int p0, .int 0, .int 100]) (rest := []) dX8_behind_4 lm_X8_70 ok_X8_isWithin (by decide) (w_X8_isWithin X p0 0 100 mem _ h) rfl (Nat.le_of_ble_eq_true rfl) (fun v_4 m_4 h => ?_)
  refine gc_if_eq 27 dX8_behind_7 (by decide) (fun hc => ?_) (fun hc => ?_)
  · have h := h.1 hc
    refine gc_ldc (v := (-1000000001)) dX8_behind_27 lk_X8_74 ?_
    exact go_iret dX8_behind_29 rfl (Nat.le_refl _) (Nat.le_refl _) ⟨_, rfl, h⟩
  · have h := h.2 hc
    refine gc_iload_n dX8_behind_10 rfl ?_
    refine gc_iconst (v := 0) dX8_behind_11 (by decide) ?_
    refine gc_iconst (v := 2) dX8_behind_12 (by decide) ?_
    refine gc_aload_n dX8_behind_13 rfl ?_
    refine go_getR dX8_behind_14 lg_X8_10 (sz_lt (by decide)) kd_0 rfl ?_
    refine go_getI dX8_behind_17 lg_X8_75 (sz_lt (al_lt al_1)) (al_kd al_1) rfl ?_
    refine gc_iadd dX8_behind_20 ?_
    refine go_cSZ (y := M_X8_isWithin) (As := [.int p1, .int 0, .int (2 + (m_4 1 1))]) (rest := []) dX8_behind_21 lm_X8_70 ok_X8_isWithin (by decide) (w_X8_isWithin X p1 0 (2 + (m_4 1 1)) m_4 _ h) rfl (Nat.le_of_ble_eq_true rfl) (fun v_21 m_21 h => ?_)
    refine gc_if_ne 30 dX8_behind_24 (by decide) (fun hc => ?_) (fun hc => ?_)
    · have h := h.1 hc
      refine gc_aload_n dX8_behind_30 rfl ?_
      refine go_getR dX8_behind_31 lg_X8_19 (sz_lt (by decide)) kd_0 rfl ?_
      refine gc_aload_n dX8_behind_34 rfl ?_
      refine go_getR dX8_behind_35 lg_X8_10 (sz_lt (by decide)) kd_0 rfl ?_
      refine go_cVU (y := M_X0_becomeAs) (As := [.ref (cx_n X + 1)]) (rest := []) dX8_behind_38 lm_X8_209 ok_X0_becomeAs (by decide) (sz_lt (al_lt al_27)) (al_kd al_27) rfl rfl (w_X0_becomeAs X 27 al_27 1 al_1 m_21 _ h) rfl (Nat.le_of_ble_eq_true rfl) (fun m_38 h => ?_)
      refine gc_aload_n dX8_behind_41 rfl ?_
      refine go_getR dX8_behind_42 lg_X8_19 (sz_lt (by decide)) kd_0 rfl ?_
      refine gc_iload_n dX8_behind_45 rfl ?_
      refine go_cVU (y := M_X0_goOn) (As := [.int p0]) (rest := []) dX8_behind_46 lm_X8_164 ok_X0_goOn (by decide) (sz_lt (al_lt al_27)) (al_kd al_27) rfl rfl (w_X0_goOn X 27 al_27 p0 m_38 _ h) rfl (Nat.le_of_ble_eq_true rfl) (fun m_46 h => ?_)
      refine gc_iload_n dX8_behind_49 rfl ?_
      by_cases hn0 : p1 = 0
      · have h := h.1 hn0
        refine gc_tabIn (off := 26) 76 dX8_behind_50 (by rw [hn0]; decide) (by rw [hn0]; decide) (by rw [hn0]; rfl) (by decide) ?_
        refine gc_aload_n dX8_behind_76 rfl ?_
        refine go_getR dX8_behind_77 lg_X8_19 (sz_lt (by decide)) kd_0 rfl ?_
        refine go_getI dX8_behind_80 lg_X8_137 (sz_lt (al_lt al_27)) (al_kd al_27) rfl ?_
        exact go_iret dX8_behind_83 rfl (Nat.le_refl _) (Nat.le_refl _) ⟨_, rfl, h⟩
      · have h := h.2 hn0
        have hq0 := tab_ne hn0 (a := 0) (by decide)
        by_cases hn1 : p1 = 1
        · have h := h.1 hn1
          refine gc_tabIn (off := 34) 84 dX8_behind_50 (by rw [hn1]; decide) (by rw [hn1]; decide) (by rw [hn1]; rfl) (by decide) ?_
          refine gc_aload_n dX8_behind_84 rfl ?_
          refine go_getR dX8_behind_85 lg_X8_19 (sz_lt (by decide)) kd_0 rfl ?_
          refine go_getI dX8_behind_88 lg_X8_168 (sz_lt (al_lt al_27)) (al_kd al_27) rfl ?_
          exact go_iret dX8_behind_91 rfl (Nat.le_refl _) (Nat.le_refl _) ⟨_, rfl, h⟩
        · have h := h.2 hn1
          have hq1 := tab_ne hn1 (a := 1) (by decide)
          by_cases hn2 : p1 = 2
          · have h := h.1 hn2
            refine gc_tabIn (off := 42) 92 dX8_behind_50 (by rw [hn2]; decide) (by rw [hn2]; decide) (by rw [hn2]; rfl) (by decide) ?_
            refine gc_aload_n dX8_behind_92 rfl ?_
            refine go_getR dX8_behind_93 lg_X8_19 (sz_lt (by decide)) kd_0 rfl ?_
            refine go_cVI (y := M_X0_standing) (As := []) (rest := []) dX8_behind_96 lm_X8_144 ok_X0_standing (by decide) (sz_lt (al_lt al_27)) (al_kd al_27) rfl rfl (w_X0_standing X 27 al_27 m_46 _ h) rfl (Nat.le_of_ble_eq_true rfl) (fun v_96 m_96 h => ?_)
            exact go_iret dX8_behind_99 rfl (Nat.le_refl _) (Nat.le_refl _) ⟨_, rfl, h⟩
          · have h := h.2 hn2
            have hq2 := tab_ne hn2 (a := 2) (by decide)
            refine gc_tabOut 100 dX8_behind_50 (by have q := tab_out (x := p1) (lo := 0) (hi := 2) (fun j h1 h2 => by rcases (show j = 0 ∨ j = 1 ∨ j = 2 by omega) with rfl | rfl | rfl <;> assumption); exact q) (by decide) ?_
            refine gc_aload_n dX8_behind_100 rfl ?_
            refine go_getR dX8_behind_101 lg_X8_19 (sz_lt (by decide)) kd_0 rfl ?_
            refine go_getR dX8_behind_104 lg_X8_87 (sz_lt (al_lt al_27)) (al_kd al_27) rfl ?_
            refine gc_iload_n dX8_behind_107 rfl ?_
            refine gc_iconst (v := 3) dX8_behind_108 (by decide) ?_
            refine gc_isub dX8_behind_109 ?_
            obtain ⟨i_110, hx_110, hi_110, h⟩ := h
            refine go_men i_110 al_27 dX8_behind_110 hx_110 hi_110 ?_
            refine go_getI dX8_behind_111 lg_X8_105 (sz_lt (al_man al_27 hi_110).2) (al_man al_27 hi_110).1 rfl ?_
            exact go_iret dX8_behind_114 rfl (Nat.le_refl _) (Nat.le_refl _) ⟨_, rfl, h⟩
    · have h := h.2 hc
      refine gc_ldc (v := (-1000000001)) dX8_behind_27 lk_X8_74 ?_
      exact go_iret dX8_behind_29 rfl (Nat.le_refl _) (Nat.le_refl _) ⟨_, rfl, h⟩
def L_X8_falls_27 (p0 : Int32) (K : Int32 → Mm → Prop) : Nat → Int32 → Int32 → Mm → Prop
  | 0, _, _, _ => False
  | n + 1, l1, l2, mem => (200 < l2 → (K (-1000000005) mem)) ∧ (¬ 200 < l2 → (W_X0_goOnce 27 mem (fun m_38 => ∃ i_49 : Nat, l1 = nI i_49 ∧ i_49 < 9 ∧ (∃ i_61 : Nat, l1 = nI i_61 ∧ i_61 < 9 ∧ (((m_38 (27 + 4 + i_49) 4) ≤ (m_38 (1 + 4 + i_61) 4) → (L_X8_falls_27 p0  K n l1 (l2 + 1) m_38)) ∧ (¬ (m_38 (27 + 4 + i_49) 4) ≤ (m_38 (1 + 4 + i_61) 4) → (K l2 m_38)))))))
set_option maxRecDepth 100000 in
set_option maxHeartbeats 4000000 in
theorem l_X8_falls_27 (X : CX) (p0 : Int32)  (K : Int32 → Mm → Prop) : ∀ (n : Nat) (l1 : Int32) (l2 : Int32) (mem : Mm), L_X8_falls_27 p0   K n l1 l2 mem → GoC X 18 0 0 M_X8_falls 27 [some (.ref (cx_n X + 0)), some (.int l1), some (.int l2)] [] 0 0 (cellAt X mem) (sz mem) (qm X (fun r m => ∃ v : Int32, r = some (.int v) ∧ K v m))
  := by
  intro n
  induction n with
  | zero => intro l1 l2 mem h; exact h.elim
  | succ n ih =>
    intro l1 l2 mem h
    unfold L_X8_falls_27 at h
    refine gc_iload_n dX8_falls_27 rfl ?_
    refine gc_sipush (v := 200) dX8_falls_28 (by decide) ?_
    refine gc_icmp_gt 76 dX8_falls_31 (by decide) (fun hc => ?_) (fun hc => ?_)
    · have h := h.1 hc
      refine gc_ldc (v := (-1000000005)) dX8_falls_76 lk_X8_183 ?_
      exact go_iret dX8_falls_78 rfl (Nat.le_refl _) (Nat.le_refl _) ⟨_, rfl, h⟩
    · have h := h.2 hc
      refine gc_aload_n dX8_falls_34 rfl ?_
      refine go_getR dX8_falls_35 lg_X8_19 (sz_lt (by decide)) kd_0 rfl ?_
      refine go_cVU (y := M_X0_goOnce) (As := []) (rest := []) dX8_falls_38 lm_X8_213 ok_X0_goOnce (by decide) (sz_lt (al_lt al_27)) (al_kd al_27) rfl rfl (w_X0_goOnce X 27 al_27 mem _ h) rfl (Nat.le_of_ble_eq_true rfl) (fun m_38 h => ?_)
      refine gc_aload_n dX8_falls_41 rfl ?_
      refine go_getR dX8_falls_42 lg_X8_19 (sz_lt (by decide)) kd_0 rfl ?_
      refine go_getR dX8_falls_45 lg_X8_87 (sz_lt (al_lt al_27)) (al_kd al_27) rfl ?_
      refine gc_iload_n dX8_falls_48 rfl ?_
      obtain ⟨i_49, hx_49, hi_49, h⟩ := h
      refine go_men i_49 al_27 dX8_falls_49 hx_49 hi_49 ?_
      refine go_getI dX8_falls_50 lg_X8_105 (sz_lt (al_man al_27 hi_49).2) (al_man al_27 hi_49).1 rfl ?_
      refine gc_aload_n dX8_falls_53 rfl ?_
      refine go_getR dX8_falls_54 lg_X8_10 (sz_lt (by decide)) kd_0 rfl ?_
      refine go_getR dX8_falls_57 lg_X8_87 (sz_lt (al_lt al_1)) (al_kd al_1) rfl ?_
      refine gc_iload_n dX8_falls_60 rfl ?_
      obtain ⟨i_61, hx_61, hi_61, h⟩ := h
      refine go_men i_61 al_1 dX8_falls_61 hx_61 hi_61 ?_
      refine go_getI dX8_falls_62 lg_X8_105 (sz_lt (al_man al_1 hi_61).2) (al_man al_1 hi_61).1 rfl ?_
      refine gc_icmp_le 70 dX8_falls_65 (by decide) (fun hc => ?_) (fun hc => ?_)
      · have h := h.1 hc
        refine gc_iinc (v := l2 + 1) dX8_falls_70 rfl rfl (by decide) ?_
        refine gc_goto 27 dX8_falls_73 (by decide) ?_
        exact ih l1 (l2 + 1) m_38  h
      · have h := h.2 hc
        refine gc_iload_n dX8_falls_68 rfl ?_
        exact go_iret dX8_falls_69 rfl (Nat.le_refl _) (Nat.le_refl _) ⟨_, rfl, h⟩
def W_X8_falls (p0 : Int32) (mem : Mm) (K : Int32 → Mm → Prop) : Prop := W_X0_has 1 p0 mem (fun v_5 m_5 => (¬ (bZ v_5) = 0 → (W_X0_becomeAs 27 1 m_5 (fun m_22 => ∃ nz : Nat, L_X8_falls_27 p0   K nz p0 1 m_22))) ∧ ((bZ v_5) = 0 → (K (-1000000001) m_5)))
set_option maxRecDepth 100000 in
set_option maxHeartbeats 4000000 in
theorem w_X8_falls (X : CX) (p0 : Int32) (mem : Mm) (K : Int32 → Mm → Prop) (h : W_X8_falls p0 mem K) : CallsI X 18 M_X8_falls [.ref (cx_n X + 0), .int p0] mem K := by
  unfold W_X8_falls at h
  refine CallsC.ofP 1 (by decide) rfl (Nat.le_of_ble_eq_true rfl) ?_
  refine gc_aload_n dX8_falls_0 rfl ?_
  refine go_getR dX8_falls_1 lg_X8_10 (sz_lt (by decide)) kd_0 rfl ?_
  refine gc_iload_n dX8_falls_4 rfl ?_
  refine go_cVZ (y := M_X0_has) (As := [.int p0]) (rest := []) dX8_falls_5 lm_X8_83 ok_X0_has (by decide) (sz_lt (al_lt al_1)) (al_kd al_1) rfl rfl (w_X0_has X 1 al_1 p0 mem _ h) rfl (Nat.le_of_ble_eq_true rfl) (fun v_5 m_5 h => ?_)
  refine gc_if_ne 14 dX8_falls_8 (by decide) (fun hc => ?_) (fun hc => ?_)
  · have h := h.1 hc
    refine gc_aload_n dX8_falls_14 rfl ?_
    refine go_getR dX8_falls_15 lg_X8_19 (sz_lt (by decide)) kd_0 rfl ?_
    refine gc_aload_n dX8_falls_18 rfl ?_
    refine go_getR dX8_falls_19 lg_X8_10 (sz_lt (by decide)) kd_0 rfl ?_
    refine go_cVU (y := M_X0_becomeAs) (As := [.ref (cx_n X + 1)]) (rest := []) dX8_falls_22 lm_X8_209 ok_X0_becomeAs (by decide) (sz_lt (al_lt al_27)) (al_kd al_27) rfl rfl (w_X0_becomeAs X 27 al_27 1 al_1 m_5 _ h) rfl (Nat.le_of_ble_eq_true rfl) (fun m_22 h => ?_)
    refine gc_iconst (v := 1) dX8_falls_25 (by decide) ?_
    refine gc_istore_n dX8_falls_26 (by decide) ?_
    obtain ⟨n9, h⟩ := h
    exact l_X8_falls_27 X p0    K   n9 p0 1 m_22  h
  · have h := h.2 hc
    refine gc_ldc (v := (-1000000001)) dX8_falls_11 lk_X8_74 ?_
    exact go_iret dX8_falls_13 rfl (Nat.le_refl _) (Nat.le_refl _) ⟨_, rfl, h⟩
def L_X8_becomes_44 (p0 : Int32) (p1 : Int32) (p2 : Int32) (K : Int32 → Mm → Prop) : Nat → Int32 → Int32 → Int32 → Int32 → Int32 → Int32 → Mm → Prop
  | 0, _, _, _, _, _, _, _ => False
  | n + 1, l1, l2, l3, l4, l5, l6, mem => (6 ≤ l6 → ((¬ l3 = 0 → (K l5 mem)) ∧ (l3 = 0 → (K l4 mem)))) ∧ (¬ 6 ≤ l6 → (W_X0_becomeAs 27 1 mem (fun m_59 => ∃ i_70 : Nat, l1 = nI i_70 ∧ i_70 < 9 ∧ (∀ m_73 : Mm, m_73 = mu m_59 (27 + 4 + i_70) 0 l6 → (W_X0_goOn 27 l2 m_73 (fun m_81 => ∃ i_92 : Nat, l1 = nI i_92 ∧ i_92 < 9 ∧ ((l5 ≤ (m_81 (27 + 4 + i_92) 4) → (L_X8_becomes_44 p0 p1 p2  K n l1 l2 l3 l4 l5 (l6 + 1) m_81)) ∧ (¬ l5 ≤ (m_81 (27 + 4 + i_92) 4) → (L_X8_becomes_44 p0 p1 p2  K n l1 l2 l3 l6 (m_81 (27 + 4 + i_92) 4) (l6 + 1) m_81)))))))))
set_option maxRecDepth 100000 in
set_option maxHeartbeats 4000000 in
theorem l_X8_becomes_44 (X : CX) (p0 : Int32) (p1 : Int32) (p2 : Int32)  (K : Int32 → Mm → Prop) : ∀ (n : Nat) (l1 : Int32) (l2 : Int32) (l3 : Int32) (l4 : Int32) (l5 : Int32) (l6 : Int32) (mem : Mm), L_X8_becomes_44 p0 p1 p2   K n l1 l2 l3 l4 l5 l6 mem → GoC X 19 0 0 M_X8_becomes 44 [some (.ref (cx_n X + 0)), some (.int l1), some (.int l2), some (.int l3), some (.int l4), some (.int l5), some (.int l6), none] [] 0 0 (cellAt X mem) (sz mem) (qm X (fun r m => ∃ v : Int32, r = some (.int v) ∧ K v m))
  := by
  intro n
  induction n with
  | zero => intro l1 l2 l3 l4 l5 l6 mem h; exact h.elim
  | succ n ih =>
    intro l1 l2 l3 l4 l5 l6 mem h
    unfold L_X8_becomes_44 at h
    refine gc_iload dX8_becomes_44 rfl ?_
    refine gc_bipush (v := 6) dX8_becomes_46 (by decide) ?_
    refine gc_icmp_ge 119 dX8_becomes_48 (by decide) (fun hc => ?_) (fun hc => ?_)
    · have h := h.1 hc
      refine gc_iload_n dX8_becomes_119 rfl ?_
      refine gc_if_ne 128 dX8_becomes_120 (by decide) (fun hc => ?_) (fun hc => ?_)
      · have h := h.1 hc
        refine gc_iload dX8_becomes_128 rfl ?_
        exact go_iret dX8_becomes_130 rfl (Nat.le_refl _) (Nat.le_refl _) ⟨_, rfl, h⟩
      · have h := h.2 hc
        refine gc_iload dX8_becomes_123 rfl ?_
        refine gc_goto 130 dX8_becomes_125 (by decide) ?_
        exact go_iret dX8_becomes_130 rfl (Nat.le_refl _) (Nat.le_refl _) ⟨_, rfl, h⟩
    · have h := h.2 hc
      refine gc_aload_n dX8_becomes_51 rfl ?_
      refine go_getR dX8_becomes_52 lg_X8_19 (sz_lt (by decide)) kd_0 rfl ?_
      refine gc_aload_n dX8_becomes_55 rfl ?_
      refine go_getR dX8_becomes_56 lg_X8_10 (sz_lt (by decide)) kd_0 rfl ?_
      refine go_cVU (y := M_X0_becomeAs) (As := [.ref (cx_n X + 1)]) (rest := []) dX8_becomes_59 lm_X8_209 ok_X0_becomeAs (by decide) (sz_lt (al_lt al_27)) (al_kd al_27) rfl rfl (w_X0_becomeAs X 27 al_27 1 al_1 mem _ h) rfl (Nat.le_of_ble_eq_true rfl) (fun m_59 h => ?_)
      refine gc_aload_n dX8_becomes_62 rfl ?_
      refine go_getR dX8_becomes_63 lg_X8_19 (sz_lt (by decide)) kd_0 rfl ?_
      refine go_getR dX8_becomes_66 lg_X8_87 (sz_lt (al_lt al_27)) (al_kd al_27) rfl ?_
      refine gc_iload_n dX8_becomes_69 rfl ?_
      obtain ⟨i_70, hx_70, hi_70, h⟩ := h
      refine go_men i_70 al_27 dX8_becomes_70 hx_70 hi_70 ?_
      refine gc_iload dX8_becomes_71 rfl ?_
      refine go_putI_ dX8_becomes_73 lp_X8_91 (sz_lt (al_man al_27 hi_70).2) (al_man al_27 hi_70).1 rfl (fun m_73 em_73 => ?_)
      have h := h m_73 em_73
      refine gc_aload_n dX8_becomes_76 rfl ?_
      refine go_getR dX8_becomes_77 lg_X8_19 (sz_lt (by decide)) kd_0 rfl ?_
      refine gc_iload_n dX8_becomes_80 rfl ?_
      refine go_cVU (y := M_X0_goOn) (As := [.int l2]) (rest := []) dX8_becomes_81 lm_X8_164 ok_X0_goOn (by decide) (sz_lt (al_lt al_27)) (al_kd al_27) rfl rfl (w_X0_goOn X 27 al_27 l2 m_73 _ h) rfl (Nat.le_of_ble_eq_true rfl) (fun m_81 h => ?_)
      refine gc_aload_n dX8_becomes_84 rfl ?_
      refine go_getR dX8_becomes_85 lg_X8_19 (sz_lt (by decide)) kd_0 rfl ?_
      refine go_getR dX8_becomes_88 lg_X8_87 (sz_lt (al_lt al_27)) (al_kd al_27) rfl ?_
      refine gc_iload_n dX8_becomes_91 rfl ?_
      obtain ⟨i_92, hx_92, hi_92, h⟩ := h
      refine go_men i_92 al_27 dX8_becomes_92 hx_92 hi_92 ?_
      refine go_getI dX8_becomes_93 lg_X8_105 (sz_lt (al_man al_27 hi_92).2) (al_man al_27 hi_92).1 rfl ?_
      refine gc_istore dX8_becomes_96 (by decide) ?_
      refine gc_iload dX8_becomes_98 rfl ?_
      refine gc_iload dX8_becomes_100 rfl ?_
      refine gc_icmp_ge 113 dX8_becomes_102 (by decide) (fun hc => ?_) (fun hc => ?_)
      · have h := h.1 hc
        refine gc_iinc (v := l6 + 1) dX8_becomes_113 rfl rfl (by decide) ?_
        refine gc_goto 44 dX8_becomes_116 (by decide) ?_
        refine gc_forget 7 ?_
        exact ih l1 l2 l3 l4 l5 (l6 + 1) m_81  h
      · have h := h.2 hc
        refine gc_iload dX8_becomes_105 rfl ?_
        refine gc_istore dX8_becomes_107 (by decide) ?_
        refine gc_iload dX8_becomes_109 rfl ?_
        refine gc_istore dX8_becomes_111 (by decide) ?_
        refine gc_iinc (v := l6 + 1) dX8_becomes_113 rfl rfl (by decide) ?_
        refine gc_goto 44 dX8_becomes_116 (by decide) ?_
        refine gc_forget 7 ?_
        exact ih l1 l2 l3 l6 (m_81 (27 + 4 + i_92) 4) (l6 + 1) m_81  h
def W_X8_becomes (p0 : Int32) (p1 : Int32) (p2 : Int32) (mem : Mm) (K : Int32 → Mm → Prop) : Prop := W_X0_has 1 p0 mem (fun v_5 m_5 => ((bZ v_5) = 0 → (K (-1000000001) m_5)) ∧ (¬ (bZ v_5) = 0 → (W_X8_isWithin p1 1 60 m_5 (fun v_15 m_15 => ((bZ v_15) = 0 → (K (-1000000001) m_15)) ∧ (¬ (bZ v_15) = 0 → (W_X8_isWithin p2 0 1 m_15 (fun v_24 m_24 => (¬ (bZ v_24) = 0 → (∃ nz : Nat, L_X8_becomes_44 p0 p1 p2   K nz p0 p1 p2 0 10000 0 m_24)) ∧ ((bZ v_24) = 0 → (K (-1000000001) m_24)))))))))
set_option maxRecDepth 100000 in
set_option maxHeartbeats 4000000 in
theorem w_X8_becomes (X : CX) (p0 : Int32) (p1 : Int32) (p2 : Int32) (mem : Mm) (K : Int32 → Mm → Prop) (h : W_X8_becomes p0 p1 p2 mem K) : CallsI X 19 M_X8_becomes [.ref (cx_n X + 0), .int p0, .int p1, .int p2] mem K := by
  unfold W_X8_becomes at h
  refine CallsC.ofP 4 (by decide) rfl (Nat.le_of_ble_eq_true rfl) ?_
  refine gc_aload_n dX8_becomes_0 rfl ?_
  refine go_getR dX8_becomes_1 lg_X8_10 (sz_lt (by decide)) kd_0 rfl ?_
  refine gc_iload_n dX8_becomes_4 rfl ?_
  refine go_cVZ (y := M_X0_has) (As := [.int p0]) (rest := []) dX8_becomes_5 lm_X8_83 ok_X0_has (by decide) (sz_lt (al_lt al_1)) (al_kd al_1) rfl rfl (w_X0_has X 1 al_1 p0 mem _ h) rfl (Nat.le_of_ble_eq_true rfl) (fun v_5 m_5 h => ?_)
  refine gc_if_eq 30 dX8_becomes_8 (by decide) (fun hc => ?_) (fun hc => ?_)
  · have h := h.1 hc
    refine gc_ldc (v := (-1000000001)) dX8_becomes_30 lk_X8_74 ?_
    exact go_iret dX8_becomes_32 rfl (Nat.le_refl _) (Nat.le_refl _) ⟨_, rfl, h⟩
  · have h := h.2 hc
    refine gc_iload_n dX8_becomes_11 rfl ?_
    refine gc_iconst (v := 1) dX8_becomes_12 (by decide) ?_
    refine gc_bipush (v := 60) dX8_becomes_13 (by decide) ?_
    refine go_cSZ (y := M_X8_isWithin) (As := [.int p1, .int 1, .int 60]) (rest := []) dX8_becomes_15 lm_X8_70 ok_X8_isWithin (by decide) (w_X8_isWithin X p1 1 60 m_5 _ h) rfl (Nat.le_of_ble_eq_true rfl) (fun v_15 m_15 h => ?_)
    refine gc_if_eq 30 dX8_becomes_18 (by decide) (fun hc => ?_) (fun hc => ?_)
    · have h := h.1 hc
      refine gc_ldc (v := (-1000000001)) dX8_becomes_30 lk_X8_74 ?_
      exact go_iret dX8_becomes_32 rfl (Nat.le_refl _) (Nat.le_refl _) ⟨_, rfl, h⟩
    · have h := h.2 hc
      refine gc_iload_n dX8_becomes_21 rfl ?_
      refine gc_iconst (v := 0) dX8_becomes_22 (by decide) ?_
      refine gc_iconst (v := 1) dX8_becomes_23 (by decide) ?_
      refine go_cSZ (y := M_X8_isWithin) (As := [.int p2, .int 0, .int 1]) (rest := []) dX8_becomes_24 lm_X8_70 ok_X8_isWithin (by decide) (w_X8_isWithin X p2 0 1 m_15 _ h) rfl (Nat.le_of_ble_eq_true rfl) (fun v_24 m_24 h => ?_)
      refine gc_if_ne 33 dX8_becomes_27 (by decide) (fun hc => ?_) (fun hc => ?_)
      · have h := h.1 hc
        refine gc_iconst (v := 0) dX8_becomes_33 (by decide) ?_
        refine gc_istore dX8_becomes_34 (by decide) ?_
        refine gc_sipush (v := 10000) dX8_becomes_36 (by decide) ?_
        refine gc_istore dX8_becomes_39 (by decide) ?_
        refine gc_iconst (v := 0) dX8_becomes_41 (by decide) ?_
        refine gc_istore dX8_becomes_42 (by decide) ?_
        obtain ⟨n9, h⟩ := h
        exact l_X8_becomes_44 X p0 p1 p2    K   n9 p0 p1 p2 0 10000 0 m_24  h
      · have h := h.2 hc
        refine gc_ldc (v := (-1000000001)) dX8_becomes_30 lk_X8_74 ?_
        exact go_iret dX8_becomes_32 rfl (Nat.le_refl _) (Nat.le_refl _) ⟨_, rfl, h⟩
def W_X8_isSheet (p0 : Int32) (mem : Mm) (K : Bool → Mm → Prop) : Prop := W_X8_isWithin p0 0 3 mem (fun v_3 m_3 => K v_3 m_3)
set_option maxRecDepth 100000 in
set_option maxHeartbeats 4000000 in
theorem w_X8_isSheet (X : CX) (p0 : Int32) (mem : Mm) (K : Bool → Mm → Prop) (h : W_X8_isSheet p0 mem K) : CallsZ X 1 M_X8_isSheet [.int p0] mem K := by
  unfold W_X8_isSheet at h
  refine CallsC.ofP 0 (by decide) rfl (Nat.le_of_ble_eq_true rfl) ?_
  refine gc_iload_n dX8_isSheet_0 rfl ?_
  refine gc_iconst (v := 0) dX8_isSheet_1 (by decide) ?_
  refine gc_iconst (v := 3) dX8_isSheet_2 (by decide) ?_
  refine go_cSZ (y := M_X8_isWithin) (As := [.int p0, .int 0, .int 3]) (rest := []) dX8_isSheet_3 lm_X8_70 ok_X8_isWithin (by decide) (w_X8_isWithin X p0 0 3 mem _ h) rfl (Nat.le_of_ble_eq_true rfl) (fun v_3 m_3 h => ?_)
  exact go_zret dX8_isSheet_6 rfl (bZ_01 _) (Nat.le_refl _) (Nat.le_refl _) ⟨_, rfl, h⟩
def W_X3_isMissing (a0 : Nat) (mem : Mm) (K : Bool → Mm → Prop) : Prop := (¬ (mem a0 0) = (-1) → (K false mem)) ∧ ((mem a0 0) = (-1) → (K true mem))
set_option maxRecDepth 100000 in
set_option maxHeartbeats 4000000 in
theorem w_X3_isMissing (X : CX) (a0 : Nat) (ha0 : isSh a0) (mem : Mm) (K : Bool → Mm → Prop) (h : W_X3_isMissing a0 mem K) : CallsZ X 0 M_X3_isMissing [.ref (cx_n X + a0)] mem K := by
  unfold W_X3_isMissing at h
  refine CallsC.ofP 0 (by decide) rfl (Nat.le_of_ble_eq_true rfl) ?_
  refine gc_aload_n dX3_isMissing_0 rfl ?_
  refine go_getI dX3_isMissing_1 lg_X3_11 (sz_lt ha0.2.2) ha0.1 rfl ?_
  refine gc_iconst (v := (-1)) dX3_isMissing_4 (by decide) ?_
  refine gc_icmp_ne 12 dX3_isMissing_5 (by decide) (fun hc => ?_) (fun hc => ?_)
  · have h := h.1 hc
    refine gc_iconst (v := 0) dX3_isMissing_12 (by decide) ?_
    exact go_zret dX3_isMissing_13 rfl (by decide) (Nat.le_refl _) (Nat.le_refl _) ⟨false, rfl, h⟩
  · have h := h.2 hc
    refine gc_iconst (v := 1) dX3_isMissing_8 (by decide) ?_
    refine gc_goto 13 dX3_isMissing_9 (by decide) ?_
    exact go_zret dX3_isMissing_13 rfl (by decide) (Nat.le_refl _) (Nat.le_refl _) ⟨true, rfl, h⟩
def W_X3_has (a0 : Nat) (p0 : Int32) (mem : Mm) (K : Bool → Mm → Prop) : Prop := (p0 < 0 → (K false mem)) ∧ (¬ p0 < 0 → (((mem a0 1) ≤ p0 → (K false mem)) ∧ (¬ (mem a0 1) ≤ p0 → (K true mem))))
set_option maxRecDepth 100000 in
set_option maxHeartbeats 4000000 in
theorem w_X3_has (X : CX) (a0 : Nat) (ha0 : isSh a0) (p0 : Int32) (mem : Mm) (K : Bool → Mm → Prop) (h : W_X3_has a0 p0 mem K) : CallsZ X 0 M_X3_has [.ref (cx_n X + a0), .int p0] mem K := by
  unfold W_X3_has at h
  refine CallsC.ofP 0 (by decide) rfl (Nat.le_of_ble_eq_true rfl) ?_
  refine gc_iload_n dX3_has_0 rfl ?_
  refine gc_if_lt 16 dX3_has_1 (by decide) (fun hc => ?_) (fun hc => ?_)
  · have h := h.1 hc
    refine gc_iconst (v := 0) dX3_has_16 (by decide) ?_
    exact go_zret dX3_has_17 rfl (by decide) (Nat.le_refl _) (Nat.le_refl _) ⟨false, rfl, h⟩
  · have h := h.2 hc
    refine gc_iload_n dX3_has_4 rfl ?_
    refine gc_aload_n dX3_has_5 rfl ?_
    refine go_getI dX3_has_6 lg_X3_15 (sz_lt ha0.2.2) ha0.1 rfl ?_
    refine gc_icmp_ge 16 dX3_has_9 (by decide) (fun hc => ?_) (fun hc => ?_)
    · have h := h.1 hc
      refine gc_iconst (v := 0) dX3_has_16 (by decide) ?_
      exact go_zret dX3_has_17 rfl (by decide) (Nat.le_refl _) (Nat.le_refl _) ⟨false, rfl, h⟩
    · have h := h.2 hc
      refine gc_iconst (v := 1) dX3_has_12 (by decide) ?_
      refine gc_goto 17 dX3_has_13 (by decide) ?_
      exact go_zret dX3_has_17 rfl (by decide) (Nat.le_refl _) (Nat.le_refl _) ⟨true, rfl, h⟩
def W_X3_isNumber (a0 : Nat) (p0 : Int32) (mem : Mm) (K : Bool → Mm → Prop) : Prop := W_X3_has a0 p0 mem (fun v_2 m_2 => ((bZ v_2) = 0 → (K false m_2)) ∧ (¬ (bZ v_2) = 0 → (∃ i_13 : Nat, p0 = nI i_13 ∧ i_13 < 24 ∧ (((m_2 (a0 + 1) i_13) = (-1000000005) → (K false m_2)) ∧ (¬ (m_2 (a0 + 1) i_13) = (-1000000005) → (K true m_2))))))
set_option maxRecDepth 100000 in
set_option maxHeartbeats 4000000 in
theorem w_X3_isNumber (X : CX) (a0 : Nat) (ha0 : isSh a0) (p0 : Int32) (mem : Mm) (K : Bool → Mm → Prop) (h : W_X3_isNumber a0 p0 mem K) : CallsZ X 1 M_X3_isNumber [.ref (cx_n X + a0), .int p0] mem K := by
  unfold W_X3_isNumber at h
  refine CallsC.ofP 0 (by decide) rfl (Nat.le_of_ble_eq_true rfl) ?_
  refine gc_aload_n dX3_isNumber_0 rfl ?_
  refine gc_iload_n dX3_isNumber_1 rfl ?_
  refine go_cVZ (y := M_X3_has) (As := [.int p0]) (rest := []) dX3_isNumber_2 lm_X3_34 ok_X3_has (by decide) (sz_lt ha0.2.2) ha0.1 rfl rfl (w_X3_has X a0 ha0 p0 mem _ h) rfl (Nat.le_of_ble_eq_true rfl) (fun v_2 m_2 h => ?_)
  refine gc_if_eq 23 dX3_isNumber_5 (by decide) (fun hc => ?_) (fun hc => ?_)
  · have h := h.1 hc
    refine gc_iconst (v := 0) dX3_isNumber_23 (by decide) ?_
    exact go_zret dX3_isNumber_24 rfl (by decide) (Nat.le_refl _) (Nat.le_refl _) ⟨false, rfl, h⟩
  · have h := h.2 hc
    refine gc_aload_n dX3_isNumber_8 rfl ?_
    refine go_getR dX3_isNumber_9 lg_X3_18 (sz_lt ha0.2.2) ha0.1 rfl ?_
    refine gc_iload_n dX3_isNumber_12 rfl ?_
    obtain ⟨i_13, hx_13, hi_13, h⟩ := h
    refine go_iald i_13 dX3_isNumber_13 ha0.2.1 hx_13 hi_13 ?_
    refine gc_ldc (v := (-1000000005)) dX3_isNumber_14 lk_X3_38 ?_
    refine gc_icmp_eq 23 dX3_isNumber_16 (by decide) (fun hc => ?_) (fun hc => ?_)
    · have h := h.1 hc
      refine gc_iconst (v := 0) dX3_isNumber_23 (by decide) ?_
      exact go_zret dX3_isNumber_24 rfl (by decide) (Nat.le_refl _) (Nat.le_refl _) ⟨false, rfl, h⟩
    · have h := h.2 hc
      refine gc_iconst (v := 1) dX3_isNumber_19 (by decide) ?_
      refine gc_goto 24 dX3_isNumber_20 (by decide) ?_
      exact go_zret dX3_isNumber_24 rfl (by decide) (Nat.le_refl _) (Nat.le_refl _) ⟨true, rfl, h⟩
