def W_X9_in (p0 : Int32) (p1 : Int32) (p2 : Int32) (mem : Mm) (K : Bool → Mm → Prop) : Prop := (p0 < p1 → (K false mem)) ∧ (¬ p0 < p1 → ((p2 < p0 → (K false mem)) ∧ (¬ p2 < p0 → (K true mem))))
set_option maxRecDepth 100000 in
set_option maxHeartbeats 4000000 in
theorem w_X9_in (X : CX) (p0 : Int32) (p1 : Int32) (p2 : Int32) (mem : Mm) (K : Bool → Mm → Prop) (h : W_X9_in p0 p1 p2 mem K) : CallsZ X 0 M_X9_in [.int p0, .int p1, .int p2] mem K := by
  unfold W_X9_in at h
  refine CallsC.ofP 0 (by decide) rfl (Nat.le_of_ble_eq_true rfl) ?_
  refine gc_iload_n dX9_in_0 rfl ?_
  refine gc_iload_n dX9_in_1 rfl ?_
  refine gc_icmp_lt 14 dX9_in_2 (by decide) (fun hc => ?_) (fun hc => ?_)
  · have h := h.1 hc
    refine gc_iconst (v := 0) dX9_in_14 (by decide) ?_
    exact go_zret dX9_in_15 rfl (by decide) (Nat.le_refl _) (Nat.le_refl _) ⟨false, rfl, h⟩
  · have h := h.2 hc
    refine gc_iload_n dX9_in_5 rfl ?_
    refine gc_iload_n dX9_in_6 rfl ?_
    refine gc_icmp_gt 14 dX9_in_7 (by decide) (fun hc => ?_) (fun hc => ?_)
    · have h := h.1 hc
      refine gc_iconst (v := 0) dX9_in_14 (by decide) ?_
      exact go_zret dX9_in_15 rfl (by decide) (Nat.le_refl _) (Nat.le_refl _) ⟨false, rfl, h⟩
    · have h := h.2 hc
      refine gc_iconst (v := 1) dX9_in_10 (by decide) ?_
      refine gc_goto 15 dX9_in_11 (by decide) ?_
      exact go_zret dX9_in_15 rfl (by decide) (Nat.le_refl _) (Nat.le_refl _) ⟨true, rfl, h⟩
def W_X9_isTopic (p0 : Int32) (mem : Mm) (K : Bool → Mm → Prop) : Prop := W_X9_in p0 0 7 mem (fun v_4 m_4 => K v_4 m_4)
set_option maxRecDepth 100000 in
set_option maxHeartbeats 4000000 in
theorem w_X9_isTopic (X : CX) (p0 : Int32) (mem : Mm) (K : Bool → Mm → Prop) (h : W_X9_isTopic p0 mem K) : CallsZ X 1 M_X9_isTopic [.int p0] mem K := by
  unfold W_X9_isTopic at h
  refine CallsC.ofP 0 (by decide) rfl (Nat.le_of_ble_eq_true rfl) ?_
  refine gc_iload_n dX9_isTopic_0 rfl ?_
  refine gc_iconst (v := 0) dX9_isTopic_1 (by decide) ?_
  refine gc_bipush (v := 7) dX9_isTopic_2 (by decide) ?_
  refine go_cSZ (y := M_X9_in) (As := [.int p0, .int 0, .int 7]) (rest := []) dX9_isTopic_4 lm_X9_81 ok_X9_in (by decide) (w_X9_in X p0 0 7 mem _ h) rfl (Nat.le_of_ble_eq_true rfl) (fun v_4 m_4 h => ?_)
  exact go_zret dX9_isTopic_7 rfl (bZ_01 _) (Nat.le_refl _) (Nat.le_refl _) ⟨_, rfl, h⟩
def W_X9_put (p0 : Int32) (p1 : Int32) (p2 : Int32) (mem : Mm) (K : Mm → Prop) : Prop := ∃ i_14 : Nat, ((7 + (6 * p0)) + p1) = nI i_14 ∧ i_14 < 1433 ∧ (∀ m_14 : Mm, m_14 = mu mem 83 i_14 p2 → (K m_14))
set_option maxRecDepth 100000 in
set_option maxHeartbeats 4000000 in
theorem w_X9_put (X : CX) (p0 : Int32) (p1 : Int32) (p2 : Int32) (mem : Mm) (K : Mm → Prop) (h : W_X9_put p0 p1 p2 mem K) : CallsU X 0 M_X9_put [.ref (cx_n X + 82), .int p0, .int p1, .int p2] mem K := by
  unfold W_X9_put at h
  refine CallsC.ofP 0 (by decide) rfl (Nat.le_of_ble_eq_true rfl) ?_
  refine gc_aload_n dX9_put_0 rfl ?_
  refine go_getR dX9_put_1 lg_X9_9 (sz_lt (by decide)) kd_82 rfl ?_
  refine gc_bipush (v := 7) dX9_put_4 (by decide) ?_
  refine gc_bipush (v := 6) dX9_put_6 (by decide) ?_
  refine gc_iload_n dX9_put_8 rfl ?_
  refine gc_imul dX9_put_9 ?_
  refine gc_iadd dX9_put_10 ?_
  refine gc_iload_n dX9_put_11 rfl ?_
  refine gc_iadd dX9_put_12 ?_
  refine gc_iload_n dX9_put_13 rfl ?_
  obtain ⟨i_14, hx_14, hi_14, h⟩ := h
  refine go_iast_ i_14 dX9_put_14 kd_83 hx_14 hi_14 (by decide) (fun m_14 em_14 => ?_)
  have h := h m_14 em_14
  exact go_vret dX9_put_15 rfl (Nat.le_refl _) (Nat.le_refl _) ⟨rfl, h⟩
def W_X9_comes (p0 : Int32) (p1 : Int32) (p2 : Int32) (p3 : Int32) (mem : Mm) (K : Int32 → Mm → Prop) : Prop := ∀ m_17 : Mm, m_17 = mu mem 83 1 ((mem 83 1) + 1) → (W_X9_put (mem 83 1) 0 p0 m_17 (fun m_23 => W_X9_put (mem 83 1) 1 p1 m_23 (fun m_31 => W_X9_put (mem 83 1) 2 p2 m_31 (fun m_39 => W_X9_put (mem 83 1) 3 p3 m_39 (fun m_48 => W_X9_put (mem 83 1) 4 0 m_48 (fun m_56 => W_X9_put (mem 83 1) 5 0 m_56 (fun m_64 => K (mem 83 1) m_64)))))))
set_option maxRecDepth 100000 in
set_option maxHeartbeats 4000000 in
theorem w_X9_comes (X : CX) (p0 : Int32) (p1 : Int32) (p2 : Int32) (p3 : Int32) (mem : Mm) (K : Int32 → Mm → Prop) (h : W_X9_comes p0 p1 p2 p3 mem K) : CallsI X 1 M_X9_comes [.ref (cx_n X + 82), .int p0, .int p1, .int p2, .int p3] mem K := by
  unfold W_X9_comes at h
  refine CallsC.ofP 1 (by decide) rfl (Nat.le_of_ble_eq_true rfl) ?_
  refine gc_aload_n dX9_comes_0 rfl ?_
  refine go_getR dX9_comes_1 lg_X9_9 (sz_lt (by decide)) kd_82 rfl ?_
  refine gc_iconst (v := 1) dX9_comes_4 (by decide) ?_
  refine go_iald 1 dX9_comes_5 kd_83 rfl (by decide) ?_
  refine gc_istore dX9_comes_6 (by decide) ?_
  refine gc_aload_n dX9_comes_8 rfl ?_
  refine go_getR dX9_comes_9 lg_X9_9 (sz_lt (by decide)) kd_82 rfl ?_
  refine gc_iconst (v := 1) dX9_comes_12 (by decide) ?_
  refine gc_dup2 dX9_comes_13 rfl rfl ?_
  refine go_iald 1 dX9_comes_14 kd_83 rfl (by decide) ?_
  refine gc_iconst (v := 1) dX9_comes_15 (by decide) ?_
  refine gc_iadd dX9_comes_16 ?_
  refine go_iast_ 1 dX9_comes_17 kd_83 rfl (by decide) (by decide) (fun m_17 em_17 => ?_)
  have h := h m_17 em_17
  refine gc_aload_n dX9_comes_18 rfl ?_
  refine gc_iload dX9_comes_19 rfl ?_
  refine gc_iconst (v := 0) dX9_comes_21 (by decide) ?_
  refine gc_iload_n dX9_comes_22 rfl ?_
  refine go_cVU (y := M_X9_put) (As := [.int (mem 83 1), .int 0, .int p0]) (rest := []) dX9_comes_23 lm_X9_114 ok_X9_put (by decide) (sz_lt (by decide)) kd_82 rfl rfl (w_X9_put X (mem 83 1) 0 p0 m_17 _ h) rfl (Nat.le_of_ble_eq_true rfl) (fun m_23 h => ?_)
  refine gc_aload_n dX9_comes_26 rfl ?_
  refine gc_iload dX9_comes_27 rfl ?_
  refine gc_iconst (v := 1) dX9_comes_29 (by decide) ?_
  refine gc_iload_n dX9_comes_30 rfl ?_
  refine go_cVU (y := M_X9_put) (As := [.int (mem 83 1), .int 1, .int p1]) (rest := []) dX9_comes_31 lm_X9_114 ok_X9_put (by decide) (sz_lt (by decide)) kd_82 rfl rfl (w_X9_put X (mem 83 1) 1 p1 m_23 _ h) rfl (Nat.le_of_ble_eq_true rfl) (fun m_31 h => ?_)
  refine gc_aload_n dX9_comes_34 rfl ?_
  refine gc_iload dX9_comes_35 rfl ?_
  refine gc_iconst (v := 2) dX9_comes_37 (by decide) ?_
  refine gc_iload_n dX9_comes_38 rfl ?_
  refine go_cVU (y := M_X9_put) (As := [.int (mem 83 1), .int 2, .int p2]) (rest := []) dX9_comes_39 lm_X9_114 ok_X9_put (by decide) (sz_lt (by decide)) kd_82 rfl rfl (w_X9_put X (mem 83 1) 2 p2 m_31 _ h) rfl (Nat.le_of_ble_eq_true rfl) (fun m_39 h => ?_)
  refine gc_aload_n dX9_comes_42 rfl ?_
  refine gc_iload dX9_comes_43 rfl ?_
  refine gc_iconst (v := 3) dX9_comes_45 (by decide) ?_
  refine gc_iload dX9_comes_46 rfl ?_
  refine go_cVU (y := M_X9_put) (As := [.int (mem 83 1), .int 3, .int p3]) (rest := []) dX9_comes_48 lm_X9_114 ok_X9_put (by decide) (sz_lt (by decide)) kd_82 rfl rfl (w_X9_put X (mem 83 1) 3 p3 m_39 _ h) rfl (Nat.le_of_ble_eq_true rfl) (fun m_48 h => ?_)
  refine gc_aload_n dX9_comes_51 rfl ?_
  refine gc_iload dX9_comes_52 rfl ?_
  refine gc_iconst (v := 4) dX9_comes_54 (by decide) ?_
  refine gc_iconst (v := 0) dX9_comes_55 (by decide) ?_
  refine go_cVU (y := M_X9_put) (As := [.int (mem 83 1), .int 4, .int 0]) (rest := []) dX9_comes_56 lm_X9_114 ok_X9_put (by decide) (sz_lt (by decide)) kd_82 rfl rfl (w_X9_put X (mem 83 1) 4 0 m_48 _ h) rfl (Nat.le_of_ble_eq_true rfl) (fun m_56 h => ?_)
  refine gc_aload_n dX9_comes_59 rfl ?_
  refine gc_iload dX9_comes_60 rfl ?_
  refine gc_iconst (v := 5) dX9_comes_62 (by decide) ?_
  refine gc_iconst (v := 0) dX9_comes_63 (by decide) ?_
  refine go_cVU (y := M_X9_put) (As := [.int (mem 83 1), .int 5, .int 0]) (rest := []) dX9_comes_64 lm_X9_114 ok_X9_put (by decide) (sz_lt (by decide)) kd_82 rfl rfl (w_X9_put X (mem 83 1) 5 0 m_56 _ h) rfl (Nat.le_of_ble_eq_true rfl) (fun m_64 h => ?_)
  refine gc_iload dX9_comes_67 rfl ?_
  exact go_iret dX9_comes_69 rfl (Nat.le_refl _) (Nat.le_refl _) ⟨_, rfl, h⟩
def W_X9_man (p0 : Int32) (p1 : Int32) (p2 : Int32) (p3 : Int32) (mem : Mm) (K : Int32 → Mm → Prop) : Prop := W_X9_in p0 0 5 mem (fun v_3 m_3 => ((bZ v_3) = 0 → (K (-1000000001) m_3)) ∧ (¬ (bZ v_3) = 0 → (W_X9_in p1 0 99 m_3 (fun v_13 m_13 => ((bZ v_13) = 0 → (K (-1000000001) m_13)) ∧ (¬ (bZ v_13) = 0 → (W_X9_in p2 0 99 m_13 (fun v_23 m_23 => ((bZ v_23) = 0 → (K (-1000000001) m_23)) ∧ (¬ (bZ v_23) = 0 → (W_X9_isTopic p3 m_23 (fun v_31 m_31 => (¬ (bZ v_31) = 0 → ((¬ (m_31 83 1) = 9 → (W_X9_comes p0 p1 p2 p3 m_31 (fun v_62 m_62 => K v_62 m_62))) ∧ ((m_31 83 1) = 9 → (K (-1000000003) m_31)))) ∧ ((bZ v_31) = 0 → (K (-1000000001) m_31))))))))))))
set_option maxRecDepth 100000 in
set_option maxHeartbeats 4000000 in
theorem w_X9_man (X : CX) (p0 : Int32) (p1 : Int32) (p2 : Int32) (p3 : Int32) (mem : Mm) (K : Int32 → Mm → Prop) (h : W_X9_man p0 p1 p2 p3 mem K) : CallsI X 2 M_X9_man [.ref (cx_n X + 82), .int p0, .int p1, .int p2, .int p3] mem K := by
  unfold W_X9_man at h
  refine CallsC.ofP 0 (by decide) rfl (Nat.le_of_ble_eq_true rfl) ?_
  refine gc_iload_n dX9_man_0 rfl ?_
  refine gc_iconst (v := 0) dX9_man_1 (by decide) ?_
  refine gc_iconst (v := 5) dX9_man_2 (by decide) ?_
  refine go_cSZ (y := M_X9_in) (As := [.int p0, .int 0, .int 5]) (rest := []) dX9_man_3 lm_X9_81 ok_X9_in (by decide) (w_X9_in X p0 0 5 mem _ h) rfl (Nat.le_of_ble_eq_true rfl) (fun v_3 m_3 h => ?_)
  refine gc_if_eq 37 dX9_man_6 (by decide) (fun hc => ?_) (fun hc => ?_)
  · have h := h.1 hc
    refine gc_ldc (v := (-1000000001)) dX9_man_37 lk_X9_121 ?_
    exact go_iret dX9_man_39 rfl (Nat.le_refl _) (Nat.le_refl _) ⟨_, rfl, h⟩
  · have h := h.2 hc
    refine gc_iload_n dX9_man_9 rfl ?_
    refine gc_iconst (v := 0) dX9_man_10 (by decide) ?_
    refine gc_bipush (v := 99) dX9_man_11 (by decide) ?_
    refine go_cSZ (y := M_X9_in) (As := [.int p1, .int 0, .int 99]) (rest := []) dX9_man_13 lm_X9_81 ok_X9_in (by decide) (w_X9_in X p1 0 99 m_3 _ h) rfl (Nat.le_of_ble_eq_true rfl) (fun v_13 m_13 h => ?_)
    refine gc_if_eq 37 dX9_man_16 (by decide) (fun hc => ?_) (fun hc => ?_)
    · have h := h.1 hc
      refine gc_ldc (v := (-1000000001)) dX9_man_37 lk_X9_121 ?_
      exact go_iret dX9_man_39 rfl (Nat.le_refl _) (Nat.le_refl _) ⟨_, rfl, h⟩
    · have h := h.2 hc
      refine gc_iload_n dX9_man_19 rfl ?_
      refine gc_iconst (v := 0) dX9_man_20 (by decide) ?_
      refine gc_bipush (v := 99) dX9_man_21 (by decide) ?_
      refine go_cSZ (y := M_X9_in) (As := [.int p2, .int 0, .int 99]) (rest := []) dX9_man_23 lm_X9_81 ok_X9_in (by decide) (w_X9_in X p2 0 99 m_13 _ h) rfl (Nat.le_of_ble_eq_true rfl) (fun v_23 m_23 h => ?_)
      refine gc_if_eq 37 dX9_man_26 (by decide) (fun hc => ?_) (fun hc => ?_)
      · have h := h.1 hc
        refine gc_ldc (v := (-1000000001)) dX9_man_37 lk_X9_121 ?_
        exact go_iret dX9_man_39 rfl (Nat.le_refl _) (Nat.le_refl _) ⟨_, rfl, h⟩
      · have h := h.2 hc
        refine gc_iload dX9_man_29 rfl ?_
        refine go_cSZ (y := M_X9_isTopic) (As := [.int p3]) (rest := []) dX9_man_31 lm_X9_118 ok_X9_isTopic (by decide) (w_X9_isTopic X p3 m_23 _ h) rfl (Nat.le_of_ble_eq_true rfl) (fun v_31 m_31 h => ?_)
        refine gc_if_ne 40 dX9_man_34 (by decide) (fun hc => ?_) (fun hc => ?_)
        · have h := h.1 hc
          refine gc_aload_n dX9_man_40 rfl ?_
          refine go_getR dX9_man_41 lg_X9_9 (sz_lt (by decide)) kd_82 rfl ?_
          refine gc_iconst (v := 1) dX9_man_44 (by decide) ?_
          refine go_iald 1 dX9_man_45 kd_83 rfl (by decide) ?_
          refine gc_bipush (v := 9) dX9_man_46 (by decide) ?_
          refine gc_icmp_ne 56 dX9_man_48 (by decide) (fun hc => ?_) (fun hc => ?_)
          · have h := h.1 hc
            refine gc_aload_n dX9_man_56 rfl ?_
            refine gc_iload_n dX9_man_57 rfl ?_
            refine gc_iload_n dX9_man_58 rfl ?_
            refine gc_iload_n dX9_man_59 rfl ?_
            refine gc_iload dX9_man_60 rfl ?_
            refine go_cVI (y := M_X9_comes) (As := [.int p0, .int p1, .int p2, .int p3]) (rest := []) dX9_man_62 lm_X9_123 ok_X9_comes (by decide) (sz_lt (by decide)) kd_82 rfl rfl (w_X9_comes X p0 p1 p2 p3 m_31 _ h) rfl (Nat.le_of_ble_eq_true rfl) (fun v_62 m_62 h => ?_)
            exact go_iret dX9_man_65 rfl (Nat.le_refl _) (Nat.le_refl _) ⟨_, rfl, h⟩
          · have h := h.2 hc
            refine gc_ldc (v := (-1000000003)) dX9_man_51 lk_X9_122 ?_
            refine gc_goto 65 dX9_man_53 (by decide) ?_
            exact go_iret dX9_man_65 rfl (Nat.le_refl _) (Nat.le_refl _) ⟨_, rfl, h⟩
        · have h := h.2 hc
          refine gc_ldc (v := (-1000000001)) dX9_man_37 lk_X9_121 ?_
          exact go_iret dX9_man_39 rfl (Nat.le_refl _) (Nat.le_refl _) ⟨_, rfl, h⟩
def W_X9_isMan (p0 : Int32) (mem : Mm) (K : Bool → Mm → Prop) : Prop := W_X9_in p0 0 ((mem 83 1) - 1) mem (fun v_10 m_10 => K v_10 m_10)
set_option maxRecDepth 100000 in
set_option maxHeartbeats 4000000 in
theorem w_X9_isMan (X : CX) (p0 : Int32) (mem : Mm) (K : Bool → Mm → Prop) (h : W_X9_isMan p0 mem K) : CallsZ X 1 M_X9_isMan [.ref (cx_n X + 82), .int p0] mem K := by
  unfold W_X9_isMan at h
  refine CallsC.ofP 0 (by decide) rfl (Nat.le_of_ble_eq_true rfl) ?_
  refine gc_iload_n dX9_isMan_0 rfl ?_
  refine gc_iconst (v := 0) dX9_isMan_1 (by decide) ?_
  refine gc_aload_n dX9_isMan_2 rfl ?_
  refine go_getR dX9_isMan_3 lg_X9_9 (sz_lt (by decide)) kd_82 rfl ?_
  refine gc_iconst (v := 1) dX9_isMan_6 (by decide) ?_
  refine go_iald 1 dX9_isMan_7 kd_83 rfl (by decide) ?_
  refine gc_iconst (v := 1) dX9_isMan_8 (by decide) ?_
  refine gc_isub dX9_isMan_9 ?_
  refine go_cSZ (y := M_X9_in) (As := [.int p0, .int 0, .int ((mem 83 1) - 1)]) (rest := []) dX9_isMan_10 lm_X9_81 ok_X9_in (by decide) (w_X9_in X p0 0 ((mem 83 1) - 1) mem _ h) rfl (Nat.le_of_ble_eq_true rfl) (fun v_10 m_10 h => ?_)
  exact go_zret dX9_isMan_13 rfl (bZ_01 _) (Nat.le_refl _) (Nat.le_refl _) ⟨_, rfl, h⟩
def W_X9_of (p0 : Int32) (p1 : Int32) (mem : Mm) (K : Int32 → Mm → Prop) : Prop := ∃ i_13 : Nat, ((7 + (6 * p0)) + p1) = nI i_13 ∧ i_13 < 1433 ∧ (K (mem 83 i_13) mem)
set_option maxRecDepth 100000 in
set_option maxHeartbeats 4000000 in
theorem w_X9_of (X : CX) (p0 : Int32) (p1 : Int32) (mem : Mm) (K : Int32 → Mm → Prop) (h : W_X9_of p0 p1 mem K) : CallsI X 0 M_X9_of [.ref (cx_n X + 82), .int p0, .int p1] mem K := by
  unfold W_X9_of at h
  refine CallsC.ofP 0 (by decide) rfl (Nat.le_of_ble_eq_true rfl) ?_
  refine gc_aload_n dX9_of_0 rfl ?_
  refine go_getR dX9_of_1 lg_X9_9 (sz_lt (by decide)) kd_82 rfl ?_
  refine gc_bipush (v := 7) dX9_of_4 (by decide) ?_
  refine gc_bipush (v := 6) dX9_of_6 (by decide) ?_
  refine gc_iload_n dX9_of_8 rfl ?_
  refine gc_imul dX9_of_9 ?_
  refine gc_iadd dX9_of_10 ?_
  refine gc_iload_n dX9_of_11 rfl ?_
  refine gc_iadd dX9_of_12 ?_
  obtain ⟨i_13, hx_13, hi_13, h⟩ := h
  refine go_iald i_13 dX9_of_13 kd_83 hx_13 hi_13 ?_
  exact go_iret dX9_of_14 rfl (Nat.le_refl _) (Nat.le_refl _) ⟨_, rfl, h⟩
def W_X9_pushesOf (p0 : Int32) (mem : Mm) (K : Int32 → Mm → Prop) : Prop := W_X9_of p0 2 mem (fun v_3 m_3 => W_X9_of p0 0 m_3 (fun v_10 m_10 => (v_10 = 1 → (K (v_3 + 15) m_10)) ∧ (¬ v_10 = 1 → ((v_10 = 2 → (K (v_3 - 10) m_10)) ∧ (¬ v_10 = 2 → ((v_10 = 3 → (K ((v_3 + 15) / 2) m_10)) ∧ (¬ v_10 = 3 → ((v_10 = 4 → (K (2 * (v_3 - 10)) m_10)) ∧ (¬ v_10 = 4 → ((v_10 = 5 → (K 0 m_10)) ∧ (¬ v_10 = 5 → (K v_3 m_10))))))))))))
set_option maxRecDepth 100000 in
set_option maxHeartbeats 4000000 in
theorem w_X9_pushesOf (X : CX) (p0 : Int32) (mem : Mm) (K : Int32 → Mm → Prop) (h : W_X9_pushesOf p0 mem K) : CallsI X 1 M_X9_pushesOf [.ref (cx_n X + 82), .int p0] mem K := by
  unfold W_X9_pushesOf at h
  refine CallsC.ofP 1 (by decide) rfl (Nat.le_of_ble_eq_true rfl) ?_
  refine gc_aload_n dX9_pushesOf_0 rfl ?_
  refine gc_iload_n dX9_pushesOf_1 rfl ?_
  refine gc_iconst (v := 2) dX9_pushesOf_2 (by decide) ?_
  refine go_cVI (y := M_X9_of) (As := [.int p0, .int 2]) (rest := []) dX9_pushesOf_3 lm_X9_89 ok_X9_of (by decide) (sz_lt (by decide)) kd_82 rfl rfl (w_X9_of X p0 2 mem _ h) rfl (Nat.le_of_ble_eq_true rfl) (fun v_3 m_3 h => ?_)
  refine gc_istore_n dX9_pushesOf_6 (by decide) ?_
  refine gc_aload_n dX9_pushesOf_7 rfl ?_
  refine gc_iload_n dX9_pushesOf_8 rfl ?_
  refine gc_iconst (v := 0) dX9_pushesOf_9 (by decide) ?_
  refine go_cVI (y := M_X9_of) (As := [.int p0, .int 0]) (rest := []) dX9_pushesOf_10 lm_X9_89 ok_X9_of (by decide) (sz_lt (by decide)) kd_82 rfl rfl (w_X9_of X p0 0 m_3 _ h) rfl (Nat.le_of_ble_eq_true rfl) (fun v_10 m_10 h => ?_)
  by_cases hn0 : v_10 = 1
  · have h := h.1 hn0
    refine gc_tabIn (off := 35) 48 dX9_pushesOf_13 (by rw [hn0]; decide) (by rw [hn0]; decide) (by rw [hn0]; rfl) (by decide) ?_
    refine gc_iload_n dX9_pushesOf_48 rfl ?_
    refine gc_bipush (v := 15) dX9_pushesOf_49 (by decide) ?_
    refine gc_iadd dX9_pushesOf_51 ?_
    exact go_iret dX9_pushesOf_52 rfl (Nat.le_refl _) (Nat.le_refl _) ⟨_, rfl, h⟩
  · have h := h.2 hn0
    have hq0 := tab_ne hn0 (a := 1) (by decide)
    by_cases hn1 : v_10 = 2
    · have h := h.1 hn1
      refine gc_tabIn (off := 47) 60 dX9_pushesOf_13 (by rw [hn1]; decide) (by rw [hn1]; decide) (by rw [hn1]; rfl) (by decide) ?_
      refine gc_iload_n dX9_pushesOf_60 rfl ?_
      refine gc_bipush (v := 10) dX9_pushesOf_61 (by decide) ?_
      refine gc_isub dX9_pushesOf_63 ?_
      exact go_iret dX9_pushesOf_64 rfl (Nat.le_refl _) (Nat.le_refl _) ⟨_, rfl, h⟩
    · have h := h.2 hn1
      have hq1 := tab_ne hn1 (a := 2) (by decide)
      by_cases hn2 : v_10 = 3
      · have h := h.1 hn2
        refine gc_tabIn (off := 40) 53 dX9_pushesOf_13 (by rw [hn2]; decide) (by rw [hn2]; decide) (by rw [hn2]; rfl) (by decide) ?_
        refine gc_iload_n dX9_pushesOf_53 rfl ?_
        refine gc_bipush (v := 15) dX9_pushesOf_54 (by decide) ?_
        refine gc_iadd dX9_pushesOf_56 ?_
        refine gc_iconst (v := 2) dX9_pushesOf_57 (by decide) ?_
        refine gc_idiv dX9_pushesOf_58 (by decide) ?_
        exact go_iret dX9_pushesOf_59 rfl (Nat.le_refl _) (Nat.le_refl _) ⟨_, rfl, h⟩
      · have h := h.2 hn2
        have hq2 := tab_ne hn2 (a := 3) (by decide)
        by_cases hn3 : v_10 = 4
        · have h := h.1 hn3
          refine gc_tabIn (off := 52) 65 dX9_pushesOf_13 (by rw [hn3]; decide) (by rw [hn3]; decide) (by rw [hn3]; rfl) (by decide) ?_
          refine gc_iconst (v := 2) dX9_pushesOf_65 (by decide) ?_
          refine gc_iload_n dX9_pushesOf_66 rfl ?_
          refine gc_bipush (v := 10) dX9_pushesOf_67 (by decide) ?_
          refine gc_isub dX9_pushesOf_69 ?_
          refine gc_imul dX9_pushesOf_70 ?_
          exact go_iret dX9_pushesOf_71 rfl (Nat.le_refl _) (Nat.le_refl _) ⟨_, rfl, h⟩
        · have h := h.2 hn3
          have hq3 := tab_ne hn3 (a := 4) (by decide)
          by_cases hn4 : v_10 = 5
          · have h := h.1 hn4
            refine gc_tabIn (off := 59) 72 dX9_pushesOf_13 (by rw [hn4]; decide) (by rw [hn4]; decide) (by rw [hn4]; rfl) (by decide) ?_
            refine gc_iconst (v := 0) dX9_pushesOf_72 (by decide) ?_
            exact go_iret dX9_pushesOf_73 rfl (Nat.le_refl _) (Nat.le_refl _) ⟨_, rfl, h⟩
          · have h := h.2 hn4
            have hq4 := tab_ne hn4 (a := 5) (by decide)
            refine gc_tabOut 74 dX9_pushesOf_13 (by have q := tab_out (x := v_10) (lo := 1) (hi := 5) (fun j h1 h2 => by rcases (show j = 1 ∨ j = 2 ∨ j = 3 ∨ j = 4 ∨ j = 5 by omega) with rfl | rfl | rfl | rfl | rfl <;> assumption); exact q) (by decide) ?_
            refine gc_iload_n dX9_pushesOf_74 rfl ?_
            exact go_iret dX9_pushesOf_75 rfl (Nat.le_refl _) (Nat.le_refl _) ⟨_, rfl, h⟩
def W_X9_worthOf (p0 : Int32) (mem : Mm) (K : Int32 → Mm → Prop) : Prop := W_X9_of p0 4 mem (fun v_3 m_3 => W_X9_of p0 2 m_3 (fun v_9 m_9 => W_X9_of p0 1 m_9 (fun v_19 m_19 => W_X9_of p0 0 m_19 (fun v_27 m_27 => (v_27 = 1 → (K (v_3 + v_9) m_27)) ∧ (¬ v_27 = 1 → ((v_27 = 2 → (K (99 - v_19) m_27)) ∧ (¬ v_27 = 2 → ((v_27 = 3 → (K (5 * (v_3 + v_9)) m_27)) ∧ (¬ v_27 = 3 → ((v_27 = 4 → (K ((99 - v_19) / 2) m_27)) ∧ (¬ v_27 = 4 → ((v_27 = 5 → (K 500 m_27)) ∧ (¬ v_27 = 5 → (W_X9_of p0 4 m_27 (fun v_83 m_83 => K v_83 m_83)))))))))))))))
set_option maxRecDepth 100000 in
set_option maxHeartbeats 4000000 in
theorem w_X9_worthOf (X : CX) (p0 : Int32) (mem : Mm) (K : Int32 → Mm → Prop) (h : W_X9_worthOf p0 mem K) : CallsI X 1 M_X9_worthOf [.ref (cx_n X + 82), .int p0] mem K := by
  unfold W_X9_worthOf at h
  refine CallsC.ofP 2 (by decide) rfl (Nat.le_of_ble_eq_true rfl) ?_
  refine gc_aload_n dX9_worthOf_0 rfl ?_
  refine gc_iload_n dX9_worthOf_1 rfl ?_
  refine gc_iconst (v := 4) dX9_worthOf_2 (by decide) ?_
  refine go_cVI (y := M_X9_of) (As := [.int p0, .int 4]) (rest := []) dX9_worthOf_3 lm_X9_89 ok_X9_of (by decide) (sz_lt (by decide)) kd_82 rfl rfl (w_X9_of X p0 4 mem _ h) rfl (Nat.le_of_ble_eq_true rfl) (fun v_3 m_3 h => ?_)
  refine gc_aload_n dX9_worthOf_6 rfl ?_
  refine gc_iload_n dX9_worthOf_7 rfl ?_
  refine gc_iconst (v := 2) dX9_worthOf_8 (by decide) ?_
  refine go_cVI (y := M_X9_of) (As := [.int p0, .int 2]) (rest := [.int v_3]) dX9_worthOf_9 lm_X9_89 ok_X9_of (by decide) (sz_lt (by decide)) kd_82 rfl rfl (w_X9_of X p0 2 m_3 _ h) rfl (Nat.le_of_ble_eq_true rfl) (fun v_9 m_9 h => ?_)
  refine gc_iadd dX9_worthOf_12 ?_
  refine gc_istore_n dX9_worthOf_13 (by decide) ?_
  refine gc_bipush (v := 99) dX9_worthOf_14 (by decide) ?_
  refine gc_aload_n dX9_worthOf_16 rfl ?_
  refine gc_iload_n dX9_worthOf_17 rfl ?_
  refine gc_iconst (v := 1) dX9_worthOf_18 (by decide) ?_
  refine go_cVI (y := M_X9_of) (As := [.int p0, .int 1]) (rest := [.int 99]) dX9_worthOf_19 lm_X9_89 ok_X9_of (by decide) (sz_lt (by decide)) kd_82 rfl rfl (w_X9_of X p0 1 m_9 _ h) rfl (Nat.le_of_ble_eq_true rfl) (fun v_19 m_19 h => ?_)
  refine gc_isub dX9_worthOf_22 ?_
  refine gc_istore_n dX9_worthOf_23 (by decide) ?_
  refine gc_aload_n dX9_worthOf_24 rfl ?_
  refine gc_iload_n dX9_worthOf_25 rfl ?_
  refine gc_iconst (v := 0) dX9_worthOf_26 (by decide) ?_
  refine go_cVI (y := M_X9_of) (As := [.int p0, .int 0]) (rest := []) dX9_worthOf_27 lm_X9_89 ok_X9_of (by decide) (sz_lt (by decide)) kd_82 rfl rfl (w_X9_of X p0 0 m_19 _ h) rfl (Nat.le_of_ble_eq_true rfl) (fun v_27 m_27 h => ?_)
  by_cases hn0 : v_27 = 1
  · have h := h.1 hn0
    refine gc_tabIn (off := 34) 64 dX9_worthOf_30 (by rw [hn0]; decide) (by rw [hn0]; decide) (by rw [hn0]; rfl) (by decide) ?_
    refine gc_iload_n dX9_worthOf_64 rfl ?_
    exact go_iret dX9_worthOf_65 rfl (Nat.le_refl _) (Nat.le_refl _) ⟨_, rfl, h⟩
  · have h := h.2 hn0
    have hq0 := tab_ne hn0 (a := 1) (by decide)
    by_cases hn1 : v_27 = 2
    · have h := h.1 hn1
      refine gc_tabIn (off := 40) 70 dX9_worthOf_30 (by rw [hn1]; decide) (by rw [hn1]; decide) (by rw [hn1]; rfl) (by decide) ?_
      refine gc_iload_n dX9_worthOf_70 rfl ?_
      exact go_iret dX9_worthOf_71 rfl (Nat.le_refl _) (Nat.le_refl _) ⟨_, rfl, h⟩
    · have h := h.2 hn1
      have hq1 := tab_ne hn1 (a := 2) (by decide)
      by_cases hn2 : v_27 = 3
      · have h := h.1 hn2
        refine gc_tabIn (off := 36) 66 dX9_worthOf_30 (by rw [hn2]; decide) (by rw [hn2]; decide) (by rw [hn2]; rfl) (by decide) ?_
        refine gc_iconst (v := 5) dX9_worthOf_66 (by decide) ?_
        refine gc_iload_n dX9_worthOf_67 rfl ?_
        refine gc_imul dX9_worthOf_68 ?_
        exact go_iret dX9_worthOf_69 rfl (Nat.le_refl _) (Nat.le_refl _) ⟨_, rfl, h⟩
      · have h := h.2 hn2
        have hq2 := tab_ne hn2 (a := 3) (by decide)
        by_cases hn3 : v_27 = 4
        · have h := h.1 hn3
          refine gc_tabIn (off := 42) 72 dX9_worthOf_30 (by rw [hn3]; decide) (by rw [hn3]; decide) (by rw [hn3]; rfl) (by decide) ?_
          refine gc_iload_n dX9_worthOf_72 rfl ?_
          refine gc_iconst (v := 2) dX9_worthOf_73 (by decide) ?_
          refine gc_idiv dX9_worthOf_74 (by decide) ?_
          exact go_iret dX9_worthOf_75 rfl (Nat.le_refl _) (Nat.le_refl _) ⟨_, rfl, h⟩
        · have h := h.2 hn3
          have hq3 := tab_ne hn3 (a := 4) (by decide)
          by_cases hn4 : v_27 = 5
          · have h := h.1 hn4
            refine gc_tabIn (off := 46) 76 dX9_worthOf_30 (by rw [hn4]; decide) (by rw [hn4]; decide) (by rw [hn4]; rfl) (by decide) ?_
            refine gc_sipush (v := 500) dX9_worthOf_76 (by decide) ?_
            exact go_iret dX9_worthOf_79 rfl (Nat.le_refl _) (Nat.le_refl _) ⟨_, rfl, h⟩
          · have h := h.2 hn4
            have hq4 := tab_ne hn4 (a := 5) (by decide)
            refine gc_tabOut 80 dX9_worthOf_30 (by have q := tab_out (x := v_27) (lo := 1) (hi := 5) (fun j h1 h2 => by rcases (show j = 1 ∨ j = 2 ∨ j = 3 ∨ j = 4 ∨ j = 5 by omega) with rfl | rfl | rfl | rfl | rfl <;> assumption); exact q) (by decide) ?_
            refine gc_aload_n dX9_worthOf_80 rfl ?_
            refine gc_iload_n dX9_worthOf_81 rfl ?_
            refine gc_iconst (v := 4) dX9_worthOf_82 (by decide) ?_
            refine go_cVI (y := M_X9_of) (As := [.int p0, .int 4]) (rest := []) dX9_worthOf_83 lm_X9_89 ok_X9_of (by decide) (sz_lt (by decide)) kd_82 rfl rfl (w_X9_of X p0 4 m_27 _ h) rfl (Nat.le_of_ble_eq_true rfl) (fun v_83 m_83 h => ?_)
            exact go_iret dX9_worthOf_86 rfl (Nat.le_refl _) (Nat.le_refl _) ⟨_, rfl, h⟩
def W_X9_told (p0 : Int32) (p1 : Int32) (mem : Mm) (K : Int32 → Mm → Prop) : Prop := W_X9_isMan p0 mem (fun v_2 m_2 => ((bZ v_2) = 0 → (K (-1000000001) m_2)) ∧ (¬ (bZ v_2) = 0 → (W_X9_in p1 0 7 m_2 (fun v_12 m_12 => (¬ (bZ v_12) = 0 → ((6 ≤ p1 → ((¬ p1 = 6 → (W_X9_worthOf p0 m_12 (fun v_52 m_52 => K v_52 m_52))) ∧ (p1 = 6 → (W_X9_pushesOf p0 m_12 (fun v_44 m_44 => K v_44 m_44))))) ∧ (¬ 6 ≤ p1 → (W_X9_of p0 p1 m_12 (fun v_30 m_30 => K v_30 m_30))))) ∧ ((bZ v_12) = 0 → (K (-1000000001) m_12))))))
set_option maxRecDepth 100000 in
set_option maxHeartbeats 4000000 in
theorem w_X9_told (X : CX) (p0 : Int32) (p1 : Int32) (mem : Mm) (K : Int32 → Mm → Prop) (h : W_X9_told p0 p1 mem K) : CallsI X 2 M_X9_told [.ref (cx_n X + 82), .int p0, .int p1] mem K := by
  unfold W_X9_told at h
  refine CallsC.ofP 0 (by decide) rfl (Nat.le_of_ble_eq_true rfl) ?_
  refine gc_aload_n dX9_told_0 rfl ?_
  refine gc_iload_n dX9_told_1 rfl ?_
  refine go_cVZ (y := M_X9_isMan) (As := [.int p0]) (rest := []) dX9_told_2 lm_X9_85 ok_X9_isMan (by decide) (sz_lt (by decide)) kd_82 rfl rfl (w_X9_isMan X p0 mem _ h) rfl (Nat.le_of_ble_eq_true rfl) (fun v_2 m_2 h => ?_)
  refine gc_if_eq 18 dX9_told_5 (by decide) (fun hc => ?_) (fun hc => ?_)
  · have h := h.1 hc
    refine gc_ldc (v := (-1000000001)) dX9_told_18 lk_X9_121 ?_
    exact go_iret dX9_told_20 rfl (Nat.le_refl _) (Nat.le_refl _) ⟨_, rfl, h⟩
  · have h := h.2 hc
    refine gc_iload_n dX9_told_8 rfl ?_
    refine gc_iconst (v := 0) dX9_told_9 (by decide) ?_
    refine gc_bipush (v := 7) dX9_told_10 (by decide) ?_
    refine go_cSZ (y := M_X9_in) (As := [.int p1, .int 0, .int 7]) (rest := []) dX9_told_12 lm_X9_81 ok_X9_in (by decide) (w_X9_in X p1 0 7 m_2 _ h) rfl (Nat.le_of_ble_eq_true rfl) (fun v_12 m_12 h => ?_)
    refine gc_if_ne 21 dX9_told_15 (by decide) (fun hc => ?_) (fun hc => ?_)
    · have h := h.1 hc
      refine gc_iload_n dX9_told_21 rfl ?_
      refine gc_bipush (v := 6) dX9_told_22 (by decide) ?_
      refine gc_icmp_ge 36 dX9_told_24 (by decide) (fun hc => ?_) (fun hc => ?_)
      · have h := h.1 hc
        refine gc_iload_n dX9_told_36 rfl ?_
        refine gc_bipush (v := 6) dX9_told_37 (by decide) ?_
        refine gc_icmp_ne 50 dX9_told_39 (by decide) (fun hc => ?_) (fun hc => ?_)
        · have h := h.1 hc
          refine gc_aload_n dX9_told_50 rfl ?_
          refine gc_iload_n dX9_told_51 rfl ?_
          refine go_cVI (y := M_X9_worthOf) (As := [.int p0]) (rest := []) dX9_told_52 lm_X9_130 ok_X9_worthOf (by decide) (sz_lt (by decide)) kd_82 rfl rfl (w_X9_worthOf X p0 m_12 _ h) rfl (Nat.le_of_ble_eq_true rfl) (fun v_52 m_52 h => ?_)
          exact go_iret dX9_told_55 rfl (Nat.le_refl _) (Nat.le_refl _) ⟨_, rfl, h⟩
        · have h := h.2 hc
          refine gc_aload_n dX9_told_42 rfl ?_
          refine gc_iload_n dX9_told_43 rfl ?_
          refine go_cVI (y := M_X9_pushesOf) (As := [.int p0]) (rest := []) dX9_told_44 lm_X9_127 ok_X9_pushesOf (by decide) (sz_lt (by decide)) kd_82 rfl rfl (w_X9_pushesOf X p0 m_12 _ h) rfl (Nat.le_of_ble_eq_true rfl) (fun v_44 m_44 h => ?_)
          refine gc_goto 55 dX9_told_47 (by decide) ?_
          exact go_iret dX9_told_55 rfl (Nat.le_refl _) (Nat.le_refl _) ⟨_, rfl, h⟩
      · have h := h.2 hc
        refine gc_aload_n dX9_told_27 rfl ?_
        refine gc_iload_n dX9_told_28 rfl ?_
        refine gc_iload_n dX9_told_29 rfl ?_
        refine go_cVI (y := M_X9_of) (As := [.int p0, .int p1]) (rest := []) dX9_told_30 lm_X9_89 ok_X9_of (by decide) (sz_lt (by decide)) kd_82 rfl rfl (w_X9_of X p0 p1 m_12 _ h) rfl (Nat.le_of_ble_eq_true rfl) (fun v_30 m_30 h => ?_)
        refine gc_goto 55 dX9_told_33 (by decide) ?_
        exact go_iret dX9_told_55 rfl (Nat.le_refl _) (Nat.le_refl _) ⟨_, rfl, h⟩
    · have h := h.2 hc
      refine gc_ldc (v := (-1000000001)) dX9_told_18 lk_X9_121 ?_
      exact go_iret dX9_told_20 rfl (Nat.le_refl _) (Nat.le_refl _) ⟨_, rfl, h⟩
def L_X9_counts_10 (p0 : Int32) (K : Int32 → Mm → Prop) : Nat → Int32 → Int32 → Mm → Prop
  | 0, _, _, _ => False
  | n + 1, l1, l2, mem => (l2 < 0 → (K (-1) mem)) ∧ (¬ l2 < 0 → (∃ i_24 : Nat, (61 + (2 * l2)) = nI i_24 ∧ i_24 < 1433 ∧ ((¬ ((mem 83 i_24) / 1000) = l1 → (L_X9_counts_10 p0  K n l1 (l2 + (-1)) mem)) ∧ (((mem 83 i_24) / 1000) = l1 → (K l2 mem)))))
set_option maxRecDepth 100000 in
set_option maxHeartbeats 4000000 in
theorem l_X9_counts_10 (X : CX) (p0 : Int32)  (K : Int32 → Mm → Prop) : ∀ (n : Nat) (l1 : Int32) (l2 : Int32) (mem : Mm), L_X9_counts_10 p0   K n l1 l2 mem → GoC X 0 0 0 M_X9_counts 10 [some (.ref (cx_n X + 82)), some (.int l1), some (.int l2)] [] 0 0 (cellAt X mem) (sz mem) (qm X (fun r m => ∃ v : Int32, r = some (.int v) ∧ K v m))
  := by
  intro n
  induction n with
  | zero => intro l1 l2 mem h; exact h.elim
  | succ n ih =>
    intro l1 l2 mem h
    unfold L_X9_counts_10 at h
    refine gc_iload_n dX9_counts_10 rfl ?_
    refine gc_if_lt 41 dX9_counts_11 (by decide) (fun hc => ?_) (fun hc => ?_)
    · have h := h.1 hc
      refine gc_iconst (v := (-1)) dX9_counts_41 (by decide) ?_
      exact go_iret dX9_counts_42 rfl (Nat.le_refl _) (Nat.le_refl _) ⟨_, rfl, h⟩
    · have h := h.2 hc
      refine gc_aload_n dX9_counts_14 rfl ?_
      refine go_getR dX9_counts_15 lg_X9_9 (sz_lt (by decide)) kd_82 rfl ?_
      refine gc_bipush (v := 61) dX9_counts_18 (by decide) ?_
      refine gc_iconst (v := 2) dX9_counts_20 (by decide) ?_
      refine gc_iload_n dX9_counts_21 rfl ?_
      refine gc_imul dX9_counts_22 ?_
      refine gc_iadd dX9_counts_23 ?_
      obtain ⟨i_24, hx_24, hi_24, h⟩ := h
      refine go_iald i_24 dX9_counts_24 kd_83 hx_24 hi_24 ?_
      refine gc_sipush (v := 1000) dX9_counts_25 (by decide) ?_
      refine gc_idiv dX9_counts_28 (by decide) ?_
      refine gc_iload_n dX9_counts_29 rfl ?_
      refine gc_icmp_ne 35 dX9_counts_30 (by decide) (fun hc => ?_) (fun hc => ?_)
      · have h := h.1 hc
        refine gc_iinc (v := l2 + (-1)) dX9_counts_35 rfl rfl (by decide) ?_
        refine gc_goto 10 dX9_counts_38 (by decide) ?_
        exact ih l1 (l2 + (-1)) mem  h
      · have h := h.2 hc
        refine gc_iload_n dX9_counts_33 rfl ?_
        exact go_iret dX9_counts_34 rfl (Nat.le_refl _) (Nat.le_refl _) ⟨_, rfl, h⟩
def W_X9_counts (p0 : Int32) (mem : Mm) (K : Int32 → Mm → Prop) : Prop := ∃ nz : Nat, L_X9_counts_10 p0   K nz p0 ((mem 83 6) - 1) mem
set_option maxRecDepth 100000 in
set_option maxHeartbeats 4000000 in
theorem w_X9_counts (X : CX) (p0 : Int32) (mem : Mm) (K : Int32 → Mm → Prop) (h : W_X9_counts p0 mem K) : CallsI X 0 M_X9_counts [.ref (cx_n X + 82), .int p0] mem K := by
  unfold W_X9_counts at h
  refine CallsC.ofP 1 (by decide) rfl (Nat.le_of_ble_eq_true rfl) ?_
  refine gc_aload_n dX9_counts_0 rfl ?_
  refine go_getR dX9_counts_1 lg_X9_9 (sz_lt (by decide)) kd_82 rfl ?_
  refine gc_bipush (v := 6) dX9_counts_4 (by decide) ?_
  refine go_iald 6 dX9_counts_6 kd_83 rfl (by decide) ?_
  refine gc_iconst (v := 1) dX9_counts_7 (by decide) ?_
  refine gc_isub dX9_counts_8 ?_
  refine gc_istore_n dX9_counts_9 (by decide) ?_
  obtain ⟨n9, h⟩ := h
  exact l_X9_counts_10 X p0    K   n9 p0 ((mem 83 6) - 1) mem  h
def L_X9_standing_4  (K : Int32 → Mm → Prop) : Nat → Int32 → Int32 → Mm → Prop
  | 0, _, _, _ => False
  | n + 1, l1, l2, mem => ((mem 83 1) ≤ l2 → (K l1 mem)) ∧ (¬ (mem 83 1) ≤ l2 → (W_X9_of l2 5 mem (fun v_18 m_18 => (¬ v_18 = 0 → (L_X9_standing_4   K n (l1 ||| 0) (l2 + 1) m_18)) ∧ (v_18 = 0 → (L_X9_standing_4   K n (l1 ||| (1 <<< (l2 &&& 31))) (l2 + 1) m_18)))))
set_option maxRecDepth 100000 in
set_option maxHeartbeats 4000000 in
theorem l_X9_standing_4 (X : CX)   (K : Int32 → Mm → Prop) : ∀ (n : Nat) (l1 : Int32) (l2 : Int32) (mem : Mm), L_X9_standing_4    K n l1 l2 mem → GoC X 1 0 0 M_X9_standing 4 [some (.ref (cx_n X + 82)), some (.int l1), some (.int l2)] [] 0 0 (cellAt X mem) (sz mem) (qm X (fun r m => ∃ v : Int32, r = some (.int v) ∧ K v m))
  := by
  intro n
  induction n with
  | zero => intro l1 l2 mem h; exact h.elim
  | succ n ih =>
    intro l1 l2 mem h
    unfold L_X9_standing_4 at h
    refine gc_iload_n dX9_standing_4 rfl ?_
    refine gc_aload_n dX9_standing_5 rfl ?_
    refine go_getR dX9_standing_6 lg_X9_9 (sz_lt (by decide)) kd_82 rfl ?_
    refine gc_iconst (v := 1) dX9_standing_9 (by decide) ?_
    refine go_iald 1 dX9_standing_10 kd_83 rfl (by decide) ?_
    refine gc_icmp_ge 39 dX9_standing_11 (by decide) (fun hc => ?_) (fun hc => ?_)
    · have h := h.1 hc
      refine gc_iload_n dX9_standing_39 rfl ?_
      exact go_iret dX9_standing_40 rfl (Nat.le_refl _) (Nat.le_refl _) ⟨_, rfl, h⟩
    · have h := h.2 hc
      refine gc_iload_n dX9_standing_14 rfl ?_
      refine gc_aload_n dX9_standing_15 rfl ?_
      refine gc_iload_n dX9_standing_16 rfl ?_
      refine gc_iconst (v := 5) dX9_standing_17 (by decide) ?_
      refine go_cVI (y := M_X9_of) (As := [.int l2, .int 5]) (rest := [.int l1]) dX9_standing_18 lm_X9_89 ok_X9_of (by decide) (sz_lt (by decide)) kd_82 rfl rfl (w_X9_of X l2 5 mem _ h) rfl (Nat.le_of_ble_eq_true rfl) (fun v_18 m_18 h => ?_)
      refine gc_if_ne 30 dX9_standing_21 (by decide) (fun hc => ?_) (fun hc => ?_)
      · have h := h.1 hc
        refine gc_iconst (v := 0) dX9_standing_30 (by decide) ?_
        refine gc_ior dX9_standing_31 ?_
        refine gc_istore_n dX9_standing_32 (by decide) ?_
        refine gc_iinc (v := l2 + 1) dX9_standing_33 rfl rfl (by decide) ?_
        refine gc_goto 4 dX9_standing_36 (by decide) ?_
        exact ih (l1 ||| 0) (l2 + 1) m_18  h
      · have h := h.2 hc
        refine gc_iconst (v := 1) dX9_standing_24 (by decide) ?_
        refine gc_iload_n dX9_standing_25 rfl ?_
        refine gc_ishl dX9_standing_26 ?_
        refine gc_goto 31 dX9_standing_27 (by decide) ?_
        refine gc_ior dX9_standing_31 ?_
        refine gc_istore_n dX9_standing_32 (by decide) ?_
        refine gc_iinc (v := l2 + 1) dX9_standing_33 rfl rfl (by decide) ?_
        refine gc_goto 4 dX9_standing_36 (by decide) ?_
        exact ih (l1 ||| (1 <<< (l2 &&& 31))) (l2 + 1) m_18  h
def W_X9_standing  (mem : Mm) (K : Int32 → Mm → Prop) : Prop := ∃ nz : Nat, L_X9_standing_4    K nz 0 0 mem
set_option maxRecDepth 100000 in
set_option maxHeartbeats 4000000 in
theorem w_X9_standing (X : CX)  (mem : Mm) (K : Int32 → Mm → Prop) (h : W_X9_standing  mem K) : CallsI X 1 M_X9_standing [.ref (cx_n X + 82)] mem K := by
  unfold W_X9_standing at h
  refine CallsC.ofP 2 (by decide) rfl (Nat.le_of_ble_eq_true rfl) ?_
  refine gc_iconst (v := 0) dX9_standing_0 (by decide) ?_
  refine gc_istore_n dX9_standing_1 (by decide) ?_
  refine gc_iconst (v := 0) dX9_standing_2 (by decide) ?_
  refine gc_istore_n dX9_standing_3 (by decide) ?_
  obtain ⟨n9, h⟩ := h
  exact l_X9_standing_4 X     K   n9 0 0 mem  h
def L_X9_bits_4 (p0 : Int32) (K : Int32 → Mm → Prop) : Nat → Int32 → Int32 → Mm → Prop
  | 0, _, _, _ => False
  | n + 1, l1, l2, mem => (l2 = 0 → (K l1 mem)) ∧ (¬ l2 = 0 → (L_X9_bits_4 p0  K n (l1 + 1) (l2 &&& (l2 - 1)) mem))
set_option maxRecDepth 100000 in
set_option maxHeartbeats 4000000 in
theorem l_X9_bits_4 (X : CX) (p0 : Int32)  (K : Int32 → Mm → Prop) : ∀ (n : Nat) (l1 : Int32) (l2 : Int32) (mem : Mm), L_X9_bits_4 p0   K n l1 l2 mem → GoC X 0 0 0 M_X9_bits 4 [none, some (.int l1), some (.int l2)] [] 0 0 (cellAt X mem) (sz mem) (qm X (fun r m => ∃ v : Int32, r = some (.int v) ∧ K v m))
  := by
  intro n
  induction n with
  | zero => intro l1 l2 mem h; exact h.elim
  | succ n ih =>
    intro l1 l2 mem h
    unfold L_X9_bits_4 at h
    refine gc_iload_n dX9_bits_4 rfl ?_
    refine gc_if_eq 20 dX9_bits_5 (by decide) (fun hc => ?_) (fun hc => ?_)
    · have h := h.1 hc
      refine gc_iload_n dX9_bits_20 rfl ?_
      exact go_iret dX9_bits_21 rfl (Nat.le_refl _) (Nat.le_refl _) ⟨_, rfl, h⟩
    · have h := h.2 hc
      refine gc_iinc (v := l1 + 1) dX9_bits_8 rfl rfl (by decide) ?_
      refine gc_iload_n dX9_bits_11 rfl ?_
      refine gc_iload_n dX9_bits_12 rfl ?_
      refine gc_iconst (v := 1) dX9_bits_13 (by decide) ?_
      refine gc_isub dX9_bits_14 ?_
      refine gc_iand dX9_bits_15 ?_
      refine gc_istore_n dX9_bits_16 (by decide) ?_
      refine gc_goto 4 dX9_bits_17 (by decide) ?_
      exact ih (l1 + 1) (l2 &&& (l2 - 1)) mem  h
def W_X9_bits (p0 : Int32) (mem : Mm) (K : Int32 → Mm → Prop) : Prop := ∃ nz : Nat, L_X9_bits_4 p0   K nz 0 p0 mem
set_option maxRecDepth 100000 in
set_option maxHeartbeats 4000000 in
theorem w_X9_bits (X : CX) (p0 : Int32) (mem : Mm) (K : Int32 → Mm → Prop) (h : W_X9_bits p0 mem K) : CallsI X 0 M_X9_bits [.int p0] mem K := by
  unfold W_X9_bits at h
  refine CallsC.ofP 2 (by decide) rfl (Nat.le_of_ble_eq_true rfl) ?_
  refine gc_iconst (v := 0) dX9_bits_0 (by decide) ?_
  refine gc_istore_n dX9_bits_1 (by decide) ?_
  refine gc_iload_n dX9_bits_2 rfl ?_
  refine gc_istore_n dX9_bits_3 (by decide) ?_
  refine gc_forget 0 ?_
  obtain ⟨n9, h⟩ := h
  exact l_X9_bits_4 X p0    K   n9 0 p0 mem  h
def W_X9_two (p0 : Int32) (p1 : Int32) (p2 : Int32) (mem : Mm) (K : Int32 → Mm → Prop) : Prop := (p0 = (-8) → (K (p1 * p2) mem)) ∧ (¬ p0 = (-8) → ((p0 = (-7) → (K (p1 - p2) mem)) ∧ (¬ p0 = (-7) → ((p0 = (-6) → (K (p1 + p2) mem)) ∧ (¬ p0 = (-6) → ((p0 = (-5) → ((p1 ≤ p2 → (K 0 mem)) ∧ (¬ p1 ≤ p2 → (K 1 mem)))) ∧ (¬ p0 = (-5) → ((p0 = (-4) → ((¬ p1 = p2 → (K 0 mem)) ∧ (p1 = p2 → (K 1 mem)))) ∧ (¬ p0 = (-4) → ((p0 = (-3) → ((p2 ≤ p1 → (K 0 mem)) ∧ (¬ p2 ≤ p1 → (K 1 mem)))) ∧ (¬ p0 = (-3) → ((p0 = (-2) → ((p1 = 0 → (K 0 mem)) ∧ (¬ p1 = 0 → ((p2 = 0 → (K 0 mem)) ∧ (¬ p2 = 0 → (K 1 mem)))))) ∧ (¬ p0 = (-2) → ((p0 = (-1) → ((¬ p1 = 0 → (K 1 mem)) ∧ (p1 = 0 → ((p2 = 0 → (K 0 mem)) ∧ (¬ p2 = 0 → (K 1 mem)))))) ∧ (¬ p0 = (-1) → ((¬ p2 = 0 → (¬ p2 = 0 ∧ (K (p1 / p2) mem))) ∧ (p2 = 0 → (K 0 mem))))))))))))))))))
set_option maxRecDepth 100000 in
set_option maxHeartbeats 4000000 in
theorem w_X9_two (X : CX) (p0 : Int32) (p1 : Int32) (p2 : Int32) (mem : Mm) (K : Int32 → Mm → Prop) (h : W_X9_two p0 p1 p2 mem K) : CallsI X 0 M_X9_two [.int p0, .int p1, .int p2] mem K := by
  unfold W_X9_two at h
  refine CallsC.ofP 0 (by decide) rfl (Nat.le_of_ble_eq_true rfl) ?_
  refine gc_iload_n dX9_two_0 rfl ?_
  by_cases hn0 : p0 = (-8)
  · have h := h.1 hn0
    refine gc_tabIn (off := 116) 117 dX9_two_1 (by rw [hn0]; decide) (by rw [hn0]; decide) (by rw [hn0]; rfl) (by decide) ?_
    refine gc_iload_n dX9_two_117 rfl ?_
    refine gc_iload_n dX9_two_118 rfl ?_
    refine gc_imul dX9_two_119 ?_
    exact go_iret dX9_two_120 rfl (Nat.le_refl _) (Nat.le_refl _) ⟨_, rfl, h⟩
  · have h := h.2 hn0
    have hq0 := tab_ne hn0 (a := (-8)) (by decide)
    by_cases hn1 : p0 = (-7)
    · have h := h.1 hn1
      refine gc_tabIn (off := 112) 113 dX9_two_1 (by rw [hn1]; decide) (by rw [hn1]; decide) (by rw [hn1]; rfl) (by decide) ?_
      refine gc_iload_n dX9_two_113 rfl ?_
      refine gc_iload_n dX9_two_114 rfl ?_
      refine gc_isub dX9_two_115 ?_
      exact go_iret dX9_two_116 rfl (Nat.le_refl _) (Nat.le_refl _) ⟨_, rfl, h⟩
    · have h := h.2 hn1
      have hq1 := tab_ne hn1 (a := (-7)) (by decide)
      by_cases hn2 : p0 = (-6)
      · have h := h.1 hn2
        refine gc_tabIn (off := 108) 109 dX9_two_1 (by rw [hn2]; decide) (by rw [hn2]; decide) (by rw [hn2]; rfl) (by decide) ?_
        refine gc_iload_n dX9_two_109 rfl ?_
        refine gc_iload_n dX9_two_110 rfl ?_
        refine gc_iadd dX9_two_111 ?_
        exact go_iret dX9_two_112 rfl (Nat.le_refl _) (Nat.le_refl _) ⟨_, rfl, h⟩
      · have h := h.2 hn2
        have hq2 := tab_ne hn2 (a := (-6)) (by decide)
        by_cases hn3 : p0 = (-5)
        · have h := h.1 hn3
          refine gc_tabIn (off := 97) 98 dX9_two_1 (by rw [hn3]; decide) (by rw [hn3]; decide) (by rw [hn3]; rfl) (by decide) ?_
          refine gc_iload_n dX9_two_98 rfl ?_
          refine gc_iload_n dX9_two_99 rfl ?_
          refine gc_icmp_le 107 dX9_two_100 (by decide) (fun hc => ?_) (fun hc => ?_)
          · have h := h.1 hc
            refine gc_iconst (v := 0) dX9_two_107 (by decide) ?_
            exact go_iret dX9_two_108 rfl (Nat.le_refl _) (Nat.le_refl _) ⟨_, rfl, h⟩
          · have h := h.2 hc
            refine gc_iconst (v := 1) dX9_two_103 (by decide) ?_
            refine gc_goto 108 dX9_two_104 (by decide) ?_
            exact go_iret dX9_two_108 rfl (Nat.le_refl _) (Nat.le_refl _) ⟨_, rfl, h⟩
        · have h := h.2 hn3
          have hq3 := tab_ne hn3 (a := (-5)) (by decide)
          by_cases hn4 : p0 = (-4)
          · have h := h.1 hn4
            refine gc_tabIn (off := 86) 87 dX9_two_1 (by rw [hn4]; decide) (by rw [hn4]; decide) (by rw [hn4]; rfl) (by decide) ?_
            refine gc_iload_n dX9_two_87 rfl ?_
            refine gc_iload_n dX9_two_88 rfl ?_
            refine gc_icmp_ne 96 dX9_two_89 (by decide) (fun hc => ?_) (fun hc => ?_)
            · have h := h.1 hc
              refine gc_iconst (v := 0) dX9_two_96 (by decide) ?_
              exact go_iret dX9_two_97 rfl (Nat.le_refl _) (Nat.le_refl _) ⟨_, rfl, h⟩
            · have h := h.2 hc
              refine gc_iconst (v := 1) dX9_two_92 (by decide) ?_
              refine gc_goto 97 dX9_two_93 (by decide) ?_
              exact go_iret dX9_two_97 rfl (Nat.le_refl _) (Nat.le_refl _) ⟨_, rfl, h⟩
          · have h := h.2 hn4
            have hq4 := tab_ne hn4 (a := (-4)) (by decide)
            by_cases hn5 : p0 = (-3)
            · have h := h.1 hn5
              refine gc_tabIn (off := 75) 76 dX9_two_1 (by rw [hn5]; decide) (by rw [hn5]; decide) (by rw [hn5]; rfl) (by decide) ?_
              refine gc_iload_n dX9_two_76 rfl ?_
              refine gc_iload_n dX9_two_77 rfl ?_
              refine gc_icmp_ge 85 dX9_two_78 (by decide) (fun hc => ?_) (fun hc => ?_)
              · have h := h.1 hc
                refine gc_iconst (v := 0) dX9_two_85 (by decide) ?_
                exact go_iret dX9_two_86 rfl (Nat.le_refl _) (Nat.le_refl _) ⟨_, rfl, h⟩
              · have h := h.2 hc
                refine gc_iconst (v := 1) dX9_two_81 (by decide) ?_
                refine gc_goto 86 dX9_two_82 (by decide) ?_
                exact go_iret dX9_two_86 rfl (Nat.le_refl _) (Nat.le_refl _) ⟨_, rfl, h⟩
            · have h := h.2 hn5
              have hq5 := tab_ne hn5 (a := (-3)) (by decide)
              by_cases hn6 : p0 = (-2)
              · have h := h.1 hn6
                refine gc_tabIn (off := 61) 62 dX9_two_1 (by rw [hn6]; decide) (by rw [hn6]; decide) (by rw [hn6]; rfl) (by decide) ?_
                refine gc_iload_n dX9_two_62 rfl ?_
                refine gc_if_eq 74 dX9_two_63 (by decide) (fun hc => ?_) (fun hc => ?_)
                · have h := h.1 hc
                  refine gc_iconst (v := 0) dX9_two_74 (by decide) ?_
                  exact go_iret dX9_two_75 rfl (Nat.le_refl _) (Nat.le_refl _) ⟨_, rfl, h⟩
                · have h := h.2 hc
                  refine gc_iload_n dX9_two_66 rfl ?_
                  refine gc_if_eq 74 dX9_two_67 (by decide) (fun hc => ?_) (fun hc => ?_)
                  · have h := h.1 hc
                    refine gc_iconst (v := 0) dX9_two_74 (by decide) ?_
                    exact go_iret dX9_two_75 rfl (Nat.le_refl _) (Nat.le_refl _) ⟨_, rfl, h⟩
                  · have h := h.2 hc
                    refine gc_iconst (v := 1) dX9_two_70 (by decide) ?_
                    refine gc_goto 75 dX9_two_71 (by decide) ?_
                    exact go_iret dX9_two_75 rfl (Nat.le_refl _) (Nat.le_refl _) ⟨_, rfl, h⟩
              · have h := h.2 hn6
                have hq6 := tab_ne hn6 (a := (-2)) (by decide)
                by_cases hn7 : p0 = (-1)
                · have h := h.1 hn7
                  refine gc_tabIn (off := 47) 48 dX9_two_1 (by rw [hn7]; decide) (by rw [hn7]; decide) (by rw [hn7]; rfl) (by decide) ?_
                  refine gc_iload_n dX9_two_48 rfl ?_
                  refine gc_if_ne 56 dX9_two_49 (by decide) (fun hc => ?_) (fun hc => ?_)
                  · have h := h.1 hc
                    refine gc_iconst (v := 1) dX9_two_56 (by decide) ?_
                    refine gc_goto 61 dX9_two_57 (by decide) ?_
                    exact go_iret dX9_two_61 rfl (Nat.le_refl _) (Nat.le_refl _) ⟨_, rfl, h⟩
                  · have h := h.2 hc
                    refine gc_iload_n dX9_two_52 rfl ?_
                    refine gc_if_eq 60 dX9_two_53 (by decide) (fun hc => ?_) (fun hc => ?_)
                    · have h := h.1 hc
                      refine gc_iconst (v := 0) dX9_two_60 (by decide) ?_
                      exact go_iret dX9_two_61 rfl (Nat.le_refl _) (Nat.le_refl _) ⟨_, rfl, h⟩
                    · have h := h.2 hc
                      refine gc_iconst (v := 1) dX9_two_56 (by decide) ?_
                      refine gc_goto 61 dX9_two_57 (by decide) ?_
                      exact go_iret dX9_two_61 rfl (Nat.le_refl _) (Nat.le_refl _) ⟨_, rfl, h⟩
                · have h := h.2 hn7
                  have hq7 := tab_ne hn7 (a := (-1)) (by decide)
                  refine gc_tabOut 121 dX9_two_1 (by have q := tab_out (x := p0) (lo := -8) (hi := -1) (fun j h1 h2 => by rcases (show j = -8 ∨ j = -7 ∨ j = -6 ∨ j = -5 ∨ j = -4 ∨ j = -3 ∨ j = -2 ∨ j = -1 by omega) with rfl | rfl | rfl | rfl | rfl | rfl | rfl | rfl <;> assumption); exact q) (by decide) ?_
                  refine gc_iload_n dX9_two_121 rfl ?_
                  refine gc_if_ne 129 dX9_two_122 (by decide) (fun hc => ?_) (fun hc => ?_)
                  · have h := h.1 hc
                    refine gc_iload_n dX9_two_129 rfl ?_
                    refine gc_iload_n dX9_two_130 rfl ?_
                    obtain ⟨hne, h⟩ := h
                    refine gc_idiv dX9_two_131 hne ?_
                    exact go_iret dX9_two_132 rfl (Nat.le_refl _) (Nat.le_refl _) ⟨_, rfl, h⟩
                  · have h := h.2 hc
                    refine gc_iconst (v := 0) dX9_two_125 (by decide) ?_
                    refine gc_goto 132 dX9_two_126 (by decide) ?_
                    exact go_iret dX9_two_132 rfl (Nat.le_refl _) (Nat.le_refl _) ⟨_, rfl, h⟩
def L_X9_worksOut_21 (p0 : Int32) (K : Int32 → Mm → Prop) : Nat → Int32 → Int32 → Int32 → Int32 → Mm → Prop
  | 0, _, _, _, _, _ => False
  | n + 1, l1, l2, l3, l4, mem => (l3 ≤ l4 → (K (mem 95 0) mem)) ∧ (¬ l3 ≤ l4 → (∃ i_41 : Nat, ((89 + (96 * l1)) + l4) = nI i_41 ∧ i_41 < 1433 ∧ (((mem 83 i_41) < 0 → ((¬ (mem 83 i_41) = (-10) → (∃ i_138 : Nat, ((l2 + (-1)) - 1) = nI i_138 ∧ i_138 < 96 ∧ (∃ i_144 : Nat, (l2 + (-1)) = nI i_144 ∧ i_144 < 96 ∧ (W_X9_two (mem 83 i_41) (mem 95 i_138) (mem 95 i_144) mem (fun v_145 m_145 => ∃ i_148 : Nat, ((l2 + (-1)) - 1) = nI i_148 ∧ i_148 < 96 ∧ (∀ m_148 : Mm, m_148 = mu m_145 95 i_148 v_145 → (L_X9_worksOut_21 p0  K n l1 (l2 + (-1)) l3 (l4 + 1) m_148))))))) ∧ ((mem 83 i_41) = (-10) → (∃ i_106 : Nat, (l2 - 1) = nI i_106 ∧ i_106 < 96 ∧ ((¬ (mem 95 i_106) = 0 → (∃ i_115 : Nat, (l2 - 1) = nI i_115 ∧ i_115 < 96 ∧ (∀ m_115 : Mm, m_115 = mu mem 95 i_115 0 → (L_X9_worksOut_21 p0  K n l1 l2 l3 (l4 + 1) m_115)))) ∧ ((mem 95 i_106) = 0 → (∃ i_115 : Nat, (l2 - 1) = nI i_115 ∧ i_115 < 96 ∧ (∀ m_115 : Mm, m_115 = mu mem 95 i_115 1 → (L_X9_worksOut_21 p0  K n l1 l2 l3 (l4 + 1) m_115))))))))) ∧ (¬ (mem 83 i_41) < 0 → ((10000 ≤ (mem 83 i_41) → (∃ i_77 : Nat, ((mem 83 i_41) - 10000) = nI i_77 ∧ i_77 < 4 ∧ (∃ i_78 : Nat, l2 = nI i_78 ∧ i_78 < 96 ∧ (∀ m_78 : Mm, m_78 = mu mem 95 i_78 (mem 96 i_77) → (L_X9_worksOut_21 p0  K n l1 (l2 + 1) l3 (l4 + 1) m_78))))) ∧ (¬ 10000 ≤ (mem 83 i_41) → (∃ i_78 : Nat, l2 = nI i_78 ∧ i_78 < 96 ∧ (∀ m_78 : Mm, m_78 = mu mem 95 i_78 (mem 83 i_41) → (L_X9_worksOut_21 p0  K n l1 (l2 + 1) l3 (l4 + 1) m_78)))))))))
set_option maxRecDepth 100000 in
set_option maxHeartbeats 4000000 in
theorem l_X9_worksOut_21 (X : CX) (p0 : Int32)  (K : Int32 → Mm → Prop) : ∀ (n : Nat) (l1 : Int32) (l2 : Int32) (l3 : Int32) (l4 : Int32) (mem : Mm), L_X9_worksOut_21 p0   K n l1 l2 l3 l4 mem → GoC X 1 0 0 M_X9_worksOut 21 [some (.ref (cx_n X + 82)), some (.int l1), some (.int l2), some (.int l3), some (.int l4), none] [] 0 0 (cellAt X mem) (sz mem) (qm X (fun r m => ∃ v : Int32, r = some (.int v) ∧ K v m))
  := by
  intro n
  induction n with
  | zero => intro l1 l2 l3 l4 mem h; exact h.elim
  | succ n ih =>
    intro l1 l2 l3 l4 mem h
    unfold L_X9_worksOut_21 at h
    refine gc_iload dX9_worksOut_21 rfl ?_
    refine gc_iload_n dX9_worksOut_23 rfl ?_
    refine gc_icmp_ge 155 dX9_worksOut_24 (by decide) (fun hc => ?_) (fun hc => ?_)
    · have h := h.1 hc
      refine gc_aload_n dX9_worksOut_155 rfl ?_
      refine go_getR dX9_worksOut_156 lg_X9_48 (sz_lt (by decide)) kd_82 rfl ?_
      refine gc_iconst (v := 0) dX9_worksOut_159 (by decide) ?_
      refine go_iald 0 dX9_worksOut_160 kd_95 rfl (by decide) ?_
      exact go_iret dX9_worksOut_161 rfl (Nat.le_refl _) (Nat.le_refl _) ⟨_, rfl, h⟩
    · have h := h.2 hc
      refine gc_aload_n dX9_worksOut_27 rfl ?_
      refine go_getR dX9_worksOut_28 lg_X9_9 (sz_lt (by decide)) kd_82 rfl ?_
      refine gc_bipush (v := 89) dX9_worksOut_31 (by decide) ?_
      refine gc_bipush (v := 96) dX9_worksOut_33 (by decide) ?_
      refine gc_iload_n dX9_worksOut_35 rfl ?_
      refine gc_imul dX9_worksOut_36 ?_
      refine gc_iadd dX9_worksOut_37 ?_
      refine gc_iload dX9_worksOut_38 rfl ?_
      refine gc_iadd dX9_worksOut_40 ?_
      obtain ⟨i_41, hx_41, hi_41, h⟩ := h
      refine go_iald i_41 dX9_worksOut_41 kd_83 hx_41 hi_41 ?_
      refine gc_istore dX9_worksOut_42 (by decide) ?_
      refine gc_iload dX9_worksOut_44 rfl ?_
      refine gc_if_lt 85 dX9_worksOut_46 (by decide) (fun hc => ?_) (fun hc => ?_)
      · have h := h.1 hc
        refine gc_iload dX9_worksOut_85 rfl ?_
        refine gc_bipush (v := (-10)) dX9_worksOut_87 (by decide) ?_
        refine gc_icmp_ne 119 dX9_worksOut_89 (by decide) (fun hc => ?_) (fun hc => ?_)
        · have h := h.1 hc
          refine gc_iinc (v := l2 + (-1)) dX9_worksOut_119 rfl rfl (by decide) ?_
          refine gc_aload_n dX9_worksOut_122 rfl ?_
          refine go_getR dX9_worksOut_123 lg_X9_48 (sz_lt (by decide)) kd_82 rfl ?_
          refine gc_iload_n dX9_worksOut_126 rfl ?_
          refine gc_iconst (v := 1) dX9_worksOut_127 (by decide) ?_
          refine gc_isub dX9_worksOut_128 ?_
          refine gc_iload dX9_worksOut_129 rfl ?_
          refine gc_aload_n dX9_worksOut_131 rfl ?_
          refine go_getR dX9_worksOut_132 lg_X9_48 (sz_lt (by decide)) kd_82 rfl ?_
          refine gc_iload_n dX9_worksOut_135 rfl ?_
          refine gc_iconst (v := 1) dX9_worksOut_136 (by decide) ?_
          refine gc_isub dX9_worksOut_137 ?_
          obtain ⟨i_138, hx_138, hi_138, h⟩ := h
          refine go_iald i_138 dX9_worksOut_138 kd_95 hx_138 hi_138 ?_
          refine gc_aload_n dX9_worksOut_139 rfl ?_
          refine go_getR dX9_worksOut_140 lg_X9_48 (sz_lt (by decide)) kd_82 rfl ?_
          refine gc_iload_n dX9_worksOut_143 rfl ?_
          obtain ⟨i_144, hx_144, hi_144, h⟩ := h
          refine go_iald i_144 dX9_worksOut_144 kd_95 hx_144 hi_144 ?_
          refine go_cSI (y := M_X9_two) (As := [.int (mem 83 i_41), .int (mem 95 i_138), .int (mem 95 i_144)]) (rest := [.int ((l2 + (-1)) - 1), .ref (cx_n X + 95)]) dX9_worksOut_145 lm_X9_282 ok_X9_two (by decide) (w_X9_two X (mem 83 i_41) (mem 95 i_138) (mem 95 i_144) mem _ h) rfl (Nat.le_of_ble_eq_true rfl) (fun v_145 m_145 h => ?_)
          obtain ⟨i_148, hx_148, hi_148, h⟩ := h
          refine go_iast_ i_148 dX9_worksOut_148 kd_95 hx_148 hi_148 (by decide) (fun m_148 em_148 => ?_)
          have h := h m_148 em_148
          refine gc_iinc (v := l4 + 1) dX9_worksOut_149 rfl rfl (by decide) ?_
          refine gc_goto 21 dX9_worksOut_152 (by decide) ?_
          refine gc_forget 5 ?_
          exact ih l1 (l2 + (-1)) l3 (l4 + 1) m_148  h
        · have h := h.2 hc
          refine gc_aload_n dX9_worksOut_92 rfl ?_
          refine go_getR dX9_worksOut_93 lg_X9_48 (sz_lt (by decide)) kd_82 rfl ?_
          refine gc_iload_n dX9_worksOut_96 rfl ?_
          refine gc_iconst (v := 1) dX9_worksOut_97 (by decide) ?_
          refine gc_isub dX9_worksOut_98 ?_
          refine gc_aload_n dX9_worksOut_99 rfl ?_
          refine go_getR dX9_worksOut_100 lg_X9_48 (sz_lt (by decide)) kd_82 rfl ?_
          refine gc_iload_n dX9_worksOut_103 rfl ?_
          refine gc_iconst (v := 1) dX9_worksOut_104 (by decide) ?_
          refine gc_isub dX9_worksOut_105 ?_
          obtain ⟨i_106, hx_106, hi_106, h⟩ := h
          refine go_iald i_106 dX9_worksOut_106 kd_95 hx_106 hi_106 ?_
          refine gc_if_ne 114 dX9_worksOut_107 (by decide) (fun hc => ?_) (fun hc => ?_)
          · have h := h.1 hc
            refine gc_iconst (v := 0) dX9_worksOut_114 (by decide) ?_
            obtain ⟨i_115, hx_115, hi_115, h⟩ := h
            refine go_iast_ i_115 dX9_worksOut_115 kd_95 hx_115 hi_115 (by decide) (fun m_115 em_115 => ?_)
            have h := h m_115 em_115
            refine gc_goto 149 dX9_worksOut_116 (by decide) ?_
            refine gc_iinc (v := l4 + 1) dX9_worksOut_149 rfl rfl (by decide) ?_
            refine gc_goto 21 dX9_worksOut_152 (by decide) ?_
            refine gc_forget 5 ?_
            exact ih l1 l2 l3 (l4 + 1) m_115  h
          · have h := h.2 hc
            refine gc_iconst (v := 1) dX9_worksOut_110 (by decide) ?_
            refine gc_goto 115 dX9_worksOut_111 (by decide) ?_
            obtain ⟨i_115, hx_115, hi_115, h⟩ := h
            refine go_iast_ i_115 dX9_worksOut_115 kd_95 hx_115 hi_115 (by decide) (fun m_115 em_115 => ?_)
            have h := h m_115 em_115
            refine gc_goto 149 dX9_worksOut_116 (by decide) ?_
            refine gc_iinc (v := l4 + 1) dX9_worksOut_149 rfl rfl (by decide) ?_
            refine gc_goto 21 dX9_worksOut_152 (by decide) ?_
            refine gc_forget 5 ?_
            exact ih l1 l2 l3 (l4 + 1) m_115  h
      · have h := h.2 hc
        refine gc_aload_n dX9_worksOut_49 rfl ?_
        refine go_getR dX9_worksOut_50 lg_X9_48 (sz_lt (by decide)) kd_82 rfl ?_
        refine gc_iload_n dX9_worksOut_53 rfl ?_
        refine gc_iload dX9_worksOut_54 rfl ?_
        refine gc_sipush (v := 10000) dX9_worksOut_56 (by decide) ?_
        refine gc_icmp_ge 67 dX9_worksOut_59 (by decide) (fun hc => ?_) (fun hc => ?_)
        · have h := h.1 hc
          refine gc_aload_n dX9_worksOut_67 rfl ?_
          refine go_getR dX9_worksOut_68 lg_X9_51 (sz_lt (by decide)) kd_82 rfl ?_
          refine gc_iload dX9_worksOut_71 rfl ?_
          refine gc_sipush (v := 10000) dX9_worksOut_73 (by decide) ?_
          refine gc_isub dX9_worksOut_76 ?_
          obtain ⟨i_77, hx_77, hi_77, h⟩ := h
          refine go_iald i_77 dX9_worksOut_77 kd_96 hx_77 hi_77 ?_
          obtain ⟨i_78, hx_78, hi_78, h⟩ := h
          refine go_iast_ i_78 dX9_worksOut_78 kd_95 hx_78 hi_78 (by decide) (fun m_78 em_78 => ?_)
          have h := h m_78 em_78
          refine gc_iinc (v := l2 + 1) dX9_worksOut_79 rfl rfl (by decide) ?_
          refine gc_goto 149 dX9_worksOut_82 (by decide) ?_
          refine gc_iinc (v := l4 + 1) dX9_worksOut_149 rfl rfl (by decide) ?_
          refine gc_goto 21 dX9_worksOut_152 (by decide) ?_
          refine gc_forget 5 ?_
          exact ih l1 (l2 + 1) l3 (l4 + 1) m_78  h
        · have h := h.2 hc
          refine gc_iload dX9_worksOut_62 rfl ?_
          refine gc_goto 78 dX9_worksOut_64 (by decide) ?_
          obtain ⟨i_78, hx_78, hi_78, h⟩ := h
          refine go_iast_ i_78 dX9_worksOut_78 kd_95 hx_78 hi_78 (by decide) (fun m_78 em_78 => ?_)
          have h := h m_78 em_78
          refine gc_iinc (v := l2 + 1) dX9_worksOut_79 rfl rfl (by decide) ?_
          refine gc_goto 149 dX9_worksOut_82 (by decide) ?_
          refine gc_iinc (v := l4 + 1) dX9_worksOut_149 rfl rfl (by decide) ?_
          refine gc_goto 21 dX9_worksOut_152 (by decide) ?_
          refine gc_forget 5 ?_
          exact ih l1 (l2 + 1) l3 (l4 + 1) m_78  h
def W_X9_worksOut (p0 : Int32) (mem : Mm) (K : Int32 → Mm → Prop) : Prop := ∃ i_12 : Nat, (61 + (2 * p0)) = nI i_12 ∧ i_12 < 1433 ∧ (∃ nz : Nat, L_X9_worksOut_21 p0   K nz p0 0 ((mem 83 i_12) - (mem 83 i_12) / 1000 * 1000) 0 mem)
set_option maxRecDepth 100000 in
set_option maxHeartbeats 4000000 in
theorem w_X9_worksOut (X : CX) (p0 : Int32) (mem : Mm) (K : Int32 → Mm → Prop) (h : W_X9_worksOut p0 mem K) : CallsI X 1 M_X9_worksOut [.ref (cx_n X + 82), .int p0] mem K := by
  unfold W_X9_worksOut at h
  refine CallsC.ofP 4 (by decide) rfl (Nat.le_of_ble_eq_true rfl) ?_
  refine gc_iconst (v := 0) dX9_worksOut_0 (by decide) ?_
  refine gc_istore_n dX9_worksOut_1 (by decide) ?_
  refine gc_aload_n dX9_worksOut_2 rfl ?_
  refine go_getR dX9_worksOut_3 lg_X9_9 (sz_lt (by decide)) kd_82 rfl ?_
  refine gc_bipush (v := 61) dX9_worksOut_6 (by decide) ?_
  refine gc_iconst (v := 2) dX9_worksOut_8 (by decide) ?_
  refine gc_iload_n dX9_worksOut_9 rfl ?_
  refine gc_imul dX9_worksOut_10 ?_
  refine gc_iadd dX9_worksOut_11 ?_
  obtain ⟨i_12, hx_12, hi_12, h⟩ := h
  refine go_iald i_12 dX9_worksOut_12 kd_83 hx_12 hi_12 ?_
  refine gc_sipush (v := 1000) dX9_worksOut_13 (by decide) ?_
  refine gc_irem dX9_worksOut_16 (by decide) ?_
  refine gc_istore_n dX9_worksOut_17 (by decide) ?_
  refine gc_iconst (v := 0) dX9_worksOut_18 (by decide) ?_
  refine gc_istore dX9_worksOut_19 (by decide) ?_
  obtain ⟨n9, h⟩ := h
  exact l_X9_worksOut_21 X p0    K   n9 p0 0 ((mem 83 i_12) - (mem 83 i_12) / 1000 * 1000) 0 mem  h
def W_X9_within (p0 : Int32) (p1 : Int32) (p2 : Int32) (mem : Mm) (K : Int32 → Mm → Prop) : Prop := (p1 ≤ p0 → ((p0 ≤ p2 → (K p0 mem)) ∧ (¬ p0 ≤ p2 → (K p2 mem)))) ∧ (¬ p1 ≤ p0 → (K p1 mem))
set_option maxRecDepth 100000 in
set_option maxHeartbeats 4000000 in
theorem w_X9_within (X : CX) (p0 : Int32) (p1 : Int32) (p2 : Int32) (mem : Mm) (K : Int32 → Mm → Prop) (h : W_X9_within p0 p1 p2 mem K) : CallsI X 0 M_X9_within [.int p0, .int p1, .int p2] mem K := by
  unfold W_X9_within at h
  refine CallsC.ofP 0 (by decide) rfl (Nat.le_of_ble_eq_true rfl) ?_
  refine gc_iload_n dX9_within_0 rfl ?_
  refine gc_iload_n dX9_within_1 rfl ?_
  refine gc_icmp_ge 9 dX9_within_2 (by decide) (fun hc => ?_) (fun hc => ?_)
  · have h := h.1 hc
    refine gc_iload_n dX9_within_9 rfl ?_
    refine gc_iload_n dX9_within_10 rfl ?_
    refine gc_icmp_le 18 dX9_within_11 (by decide) (fun hc => ?_) (fun hc => ?_)
    · have h := h.1 hc
      refine gc_iload_n dX9_within_18 rfl ?_
      exact go_iret dX9_within_19 rfl (Nat.le_refl _) (Nat.le_refl _) ⟨_, rfl, h⟩
    · have h := h.2 hc
      refine gc_iload_n dX9_within_14 rfl ?_
      refine gc_goto 19 dX9_within_15 (by decide) ?_
      exact go_iret dX9_within_19 rfl (Nat.le_refl _) (Nat.le_refl _) ⟨_, rfl, h⟩
  · have h := h.2 hc
    refine gc_iload_n dX9_within_5 rfl ?_
    refine gc_goto 19 dX9_within_6 (by decide) ?_
    exact go_iret dX9_within_19 rfl (Nat.le_refl _) (Nat.le_refl _) ⟨_, rfl, h⟩
def W_X9_plainBears (p0 : Int32) (mem : Mm) (K : Int32 → Mm → Prop) : Prop := W_X9_counts 0 mem (fun v_2 m_2 => W_X9_of p0 1 m_2 (fun v_14 m_14 => ∀ m_17 : Mm, m_17 = mu m_14 96 0 v_14 → (W_X9_of p0 2 m_17 (fun v_26 m_26 => ∀ m_29 : Mm, m_29 = mu m_26 96 1 v_26 → (W_X9_of p0 4 m_29 (fun v_38 m_38 => ∀ m_41 : Mm, m_41 = mu m_38 96 2 v_38 → (W_X9_standing  m_41 (fun v_48 m_48 => W_X9_bits v_48 m_48 (fun v_51 m_51 => ∀ m_54 : Mm, m_54 = mu m_51 96 3 v_51 → ((0 ≤ v_2 → (W_X9_worksOut v_2 m_54 (fun v_70 m_70 => W_X9_within v_70 0 99 m_70 (fun v_76 m_76 => K v_76 m_76)))) ∧ (¬ 0 ≤ v_2 → (W_X9_of p0 1 m_54 (fun v_62 m_62 => W_X9_within v_62 0 99 m_62 (fun v_76 m_76 => K v_76 m_76))))))))))))))
set_option maxRecDepth 100000 in
set_option maxHeartbeats 4000000 in
theorem w_X9_plainBears (X : CX) (p0 : Int32) (mem : Mm) (K : Int32 → Mm → Prop) (h : W_X9_plainBears p0 mem K) : CallsI X 2 M_X9_plainBears [.ref (cx_n X + 82), .int p0] mem K := by
  unfold W_X9_plainBears at h
  refine CallsC.ofP 1 (by decide) rfl (Nat.le_of_ble_eq_true rfl) ?_
  refine gc_aload_n dX9_plainBears_0 rfl ?_
  refine gc_iconst (v := 0) dX9_plainBears_1 (by decide) ?_
  refine go_cVI (y := M_X9_counts) (As := [.int 0]) (rest := []) dX9_plainBears_2 lm_X9_93 ok_X9_counts (by decide) (sz_lt (by decide)) kd_82 rfl rfl (w_X9_counts X 0 mem _ h) rfl (Nat.le_of_ble_eq_true rfl) (fun v_2 m_2 h => ?_)
  refine gc_istore_n dX9_plainBears_5 (by decide) ?_
  refine gc_aload_n dX9_plainBears_6 rfl ?_
  refine go_getR dX9_plainBears_7 lg_X9_51 (sz_lt (by decide)) kd_82 rfl ?_
  refine gc_iconst (v := 0) dX9_plainBears_10 (by decide) ?_
  refine gc_aload_n dX9_plainBears_11 rfl ?_
  refine gc_iload_n dX9_plainBears_12 rfl ?_
  refine gc_iconst (v := 1) dX9_plainBears_13 (by decide) ?_
  refine go_cVI (y := M_X9_of) (As := [.int p0, .int 1]) (rest := [.int 0, .ref (cx_n X + 96)]) dX9_plainBears_14 lm_X9_89 ok_X9_of (by decide) (sz_lt (by decide)) kd_82 rfl rfl (w_X9_of X p0 1 m_2 _ h) rfl (Nat.le_of_ble_eq_true rfl) (fun v_14 m_14 h => ?_)
  refine go_iast_ 0 dX9_plainBears_17 kd_96 rfl (by decide) (by decide) (fun m_17 em_17 => ?_)
  have h := h m_17 em_17
  refine gc_aload_n dX9_plainBears_18 rfl ?_
  refine go_getR dX9_plainBears_19 lg_X9_51 (sz_lt (by decide)) kd_82 rfl ?_
  refine gc_iconst (v := 1) dX9_plainBears_22 (by decide) ?_
  refine gc_aload_n dX9_plainBears_23 rfl ?_
  refine gc_iload_n dX9_plainBears_24 rfl ?_
  refine gc_iconst (v := 2) dX9_plainBears_25 (by decide) ?_
  refine go_cVI (y := M_X9_of) (As := [.int p0, .int 2]) (rest := [.int 1, .ref (cx_n X + 96)]) dX9_plainBears_26 lm_X9_89 ok_X9_of (by decide) (sz_lt (by decide)) kd_82 rfl rfl (w_X9_of X p0 2 m_17 _ h) rfl (Nat.le_of_ble_eq_true rfl) (fun v_26 m_26 h => ?_)
  refine go_iast_ 1 dX9_plainBears_29 kd_96 rfl (by decide) (by decide) (fun m_29 em_29 => ?_)
  have h := h m_29 em_29
  refine gc_aload_n dX9_plainBears_30 rfl ?_
  refine go_getR dX9_plainBears_31 lg_X9_51 (sz_lt (by decide)) kd_82 rfl ?_
  refine gc_iconst (v := 2) dX9_plainBears_34 (by decide) ?_
  refine gc_aload_n dX9_plainBears_35 rfl ?_
  refine gc_iload_n dX9_plainBears_36 rfl ?_
  refine gc_iconst (v := 4) dX9_plainBears_37 (by decide) ?_
  refine go_cVI (y := M_X9_of) (As := [.int p0, .int 4]) (rest := [.int 2, .ref (cx_n X + 96)]) dX9_plainBears_38 lm_X9_89 ok_X9_of (by decide) (sz_lt (by decide)) kd_82 rfl rfl (w_X9_of X p0 4 m_29 _ h) rfl (Nat.le_of_ble_eq_true rfl) (fun v_38 m_38 h => ?_)
  refine go_iast_ 2 dX9_plainBears_41 kd_96 rfl (by decide) (by decide) (fun m_41 em_41 => ?_)
  have h := h m_41 em_41
  refine gc_aload_n dX9_plainBears_42 rfl ?_
  refine go_getR dX9_plainBears_43 lg_X9_51 (sz_lt (by decide)) kd_82 rfl ?_
  refine gc_iconst (v := 3) dX9_plainBears_46 (by decide) ?_
  refine gc_aload_n dX9_plainBears_47 rfl ?_
  refine go_cVI (y := M_X9_standing) (As := []) (rest := [.int 3, .ref (cx_n X + 96)]) dX9_plainBears_48 lm_X9_97 ok_X9_standing (by decide) (sz_lt (by decide)) kd_82 rfl rfl (w_X9_standing X  m_41 _ h) rfl (Nat.le_of_ble_eq_true rfl) (fun v_48 m_48 h => ?_)
  refine go_cSI (y := M_X9_bits) (As := [.int v_48]) (rest := [.int 3, .ref (cx_n X + 96)]) dX9_plainBears_51 lm_X9_101 ok_X9_bits (by decide) (w_X9_bits X v_48 m_48 _ h) rfl (Nat.le_of_ble_eq_true rfl) (fun v_51 m_51 h => ?_)
  refine go_iast_ 3 dX9_plainBears_54 kd_96 rfl (by decide) (by decide) (fun m_54 em_54 => ?_)
  have h := h m_54 em_54
  refine gc_iload_n dX9_plainBears_55 rfl ?_
  refine gc_if_ge 68 dX9_plainBears_56 (by decide) (fun hc => ?_) (fun hc => ?_)
  · have h := h.1 hc
    refine gc_aload_n dX9_plainBears_68 rfl ?_
    refine gc_iload_n dX9_plainBears_69 rfl ?_
    refine go_cVI (y := M_X9_worksOut) (As := [.int v_2]) (rest := []) dX9_plainBears_70 lm_X9_104 ok_X9_worksOut (by decide) (sz_lt (by decide)) kd_82 rfl rfl (w_X9_worksOut X v_2 m_54 _ h) rfl (Nat.le_of_ble_eq_true rfl) (fun v_70 m_70 h => ?_)
    refine gc_iconst (v := 0) dX9_plainBears_73 (by decide) ?_
    refine gc_bipush (v := 99) dX9_plainBears_74 (by decide) ?_
    refine go_cSI (y := M_X9_within) (As := [.int v_70, .int 0, .int 99]) (rest := []) dX9_plainBears_76 lm_X9_107 ok_X9_within (by decide) (w_X9_within X v_70 0 99 m_70 _ h) rfl (Nat.le_of_ble_eq_true rfl) (fun v_76 m_76 h => ?_)
    exact go_iret dX9_plainBears_79 rfl (Nat.le_refl _) (Nat.le_refl _) ⟨_, rfl, h⟩
  · have h := h.2 hc
    refine gc_aload_n dX9_plainBears_59 rfl ?_
    refine gc_iload_n dX9_plainBears_60 rfl ?_
    refine gc_iconst (v := 1) dX9_plainBears_61 (by decide) ?_
    refine go_cVI (y := M_X9_of) (As := [.int p0, .int 1]) (rest := []) dX9_plainBears_62 lm_X9_89 ok_X9_of (by decide) (sz_lt (by decide)) kd_82 rfl rfl (w_X9_of X p0 1 m_54 _ h) rfl (Nat.le_of_ble_eq_true rfl) (fun v_62 m_62 h => ?_)
    refine gc_goto 73 dX9_plainBears_65 (by decide) ?_
    refine gc_iconst (v := 0) dX9_plainBears_73 (by decide) ?_
    refine gc_bipush (v := 99) dX9_plainBears_74 (by decide) ?_
    refine go_cSI (y := M_X9_within) (As := [.int v_62, .int 0, .int 99]) (rest := []) dX9_plainBears_76 lm_X9_107 ok_X9_within (by decide) (w_X9_within X v_62 0 99 m_62 _ h) rfl (Nat.le_of_ble_eq_true rfl) (fun v_76 m_76 h => ?_)
    exact go_iret dX9_plainBears_79 rfl (Nat.le_refl _) (Nat.le_refl _) ⟨_, rfl, h⟩
