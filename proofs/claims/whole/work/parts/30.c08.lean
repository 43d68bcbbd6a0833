def W_X3_hasRun (a0 : Nat) (p0 : Int32) (p1 : Int32) (mem : Mm) (K : Bool → Mm → Prop) : Prop := (p0 < 0 → (K false mem)) ∧ (¬ p0 < 0 → ((p1 < 0 → (K false mem)) ∧ (¬ p1 < 0 → ((((mem a0 1) - p0) < p1 → (K false mem)) ∧ (¬ ((mem a0 1) - p0) < p1 → (K true mem))))))
set_option maxRecDepth 100000 in
set_option maxHeartbeats 4000000 in
theorem w_X3_hasRun (X : CX) (a0 : Nat) (ha0 : isSh a0) (p0 : Int32) (p1 : Int32) (mem : Mm) (K : Bool → Mm → Prop) (h : W_X3_hasRun a0 p0 p1 mem K) : CallsZ X 0 M_X3_hasRun [.ref (cx_n X + a0), .int p0, .int p1] mem K := by
  unfold W_X3_hasRun at h
  refine CallsC.ofP 0 (by decide) rfl (Nat.le_of_ble_eq_true rfl) ?_
  refine gc_iload_n dX3_hasRun_0 rfl ?_
  refine gc_if_lt 22 dX3_hasRun_1 (by decide) (fun hc => ?_) (fun hc => ?_)
  · have h := h.1 hc
    refine gc_iconst (v := 0) dX3_hasRun_22 (by decide) ?_
    exact go_zret dX3_hasRun_23 rfl (by decide) (Nat.le_refl _) (Nat.le_refl _) ⟨false, rfl, h⟩
  · have h := h.2 hc
    refine gc_iload_n dX3_hasRun_4 rfl ?_
    refine gc_if_lt 22 dX3_hasRun_5 (by decide) (fun hc => ?_) (fun hc => ?_)
    · have h := h.1 hc
      refine gc_iconst (v := 0) dX3_hasRun_22 (by decide) ?_
      exact go_zret dX3_hasRun_23 rfl (by decide) (Nat.le_refl _) (Nat.le_refl _) ⟨false, rfl, h⟩
    · have h := h.2 hc
      refine gc_iload_n dX3_hasRun_8 rfl ?_
      refine gc_aload_n dX3_hasRun_9 rfl ?_
      refine go_getI dX3_hasRun_10 lg_X3_15 (sz_lt ha0.2.2) ha0.1 rfl ?_
      refine gc_iload_n dX3_hasRun_13 rfl ?_
      refine gc_isub dX3_hasRun_14 ?_
      refine gc_icmp_gt 22 dX3_hasRun_15 (by decide) (fun hc => ?_) (fun hc => ?_)
      · have h := h.1 hc
        refine gc_iconst (v := 0) dX3_hasRun_22 (by decide) ?_
        exact go_zret dX3_hasRun_23 rfl (by decide) (Nat.le_refl _) (Nat.le_refl _) ⟨false, rfl, h⟩
      · have h := h.2 hc
        refine gc_iconst (v := 1) dX3_hasRun_18 (by decide) ?_
        refine gc_goto 23 dX3_hasRun_19 (by decide) ?_
        exact go_zret dX3_hasRun_23 rfl (by decide) (Nat.le_refl _) (Nat.le_refl _) ⟨true, rfl, h⟩
def W_X8_copy (p0 : Int32) (p1 : Int32) (p2 : Int32) (p3 : Int32) (p4 : Int32) (mem : Mm) (K : Int32 → Mm → Prop) : Prop := W_X8_isSheet p0 mem (fun v_1 m_1 => ((bZ v_1) = 0 → (K (-1000000001) m_1)) ∧ (¬ (bZ v_1) = 0 → (W_X8_isSheet p2 m_1 (fun v_8 m_8 => (¬ (bZ v_8) = 0 → (∃ i_22 : Nat, p0 = nI i_22 ∧ i_22 < 4 ∧ (∃ i_30 : Nat, p2 = nI i_30 ∧ i_30 < 4 ∧ (W_X3_isMissing (54 + 2 * i_22) m_8 (fun v_35 m_35 => (¬ (bZ v_35) = 0 → (K (-1000000011) m_35)) ∧ ((bZ v_35) = 0 → (W_X3_isMissing (54 + 2 * i_30) m_35 (fun v_43 m_43 => ((bZ v_43) = 0 → (((m_43 (54 + 2 * i_22) 0) = (m_43 (54 + 2 * i_30) 0) → (W_X3_hasRun (54 + 2 * i_22) p1 p4 m_43 (fun v_73 m_73 => ((bZ v_73) = 0 → (K (-1000000013) m_73)) ∧ (¬ (bZ v_73) = 0 → (W_X3_hasRun (54 + 2 * i_30) p3 p4 m_73 (fun v_85 m_85 => (¬ (bZ v_85) = 0 → (∃ (a_110 b_110 c_110 : Nat), p1 = nI a_110 ∧ p3 = nI b_110 ∧ p4 = nI c_110 ∧ a_110 + c_110 ≤ 24 ∧ b_110 + c_110 ≤ 24 ∧ (∀ m_110 : Mm, m_110 = muC m_85 ((54 + 2 * i_22) + 1) ((54 + 2 * i_30) + 1) a_110 b_110 c_110 → (K p4 m_110)))) ∧ ((bZ v_85) = 0 → (K (-1000000013) m_85)))))))) ∧ (¬ (m_43 (54 + 2 * i_22) 0) = (m_43 (54 + 2 * i_30) 0) → (K (-1000000012) m_43)))) ∧ (¬ (bZ v_43) = 0 → (K (-1000000011) m_43)))))))))) ∧ ((bZ v_8) = 0 → (K (-1000000001) m_8))))))
set_option maxRecDepth 100000 in
set_option maxHeartbeats 4000000 in
theorem w_X8_copy (X : CX) (p0 : Int32) (p1 : Int32) (p2 : Int32) (p3 : Int32) (p4 : Int32) (mem : Mm) (K : Int32 → Mm → Prop) (h : W_X8_copy p0 p1 p2 p3 p4 mem K) : CallsI X 2 M_X8_copy [.ref (cx_n X + 0), .int p0, .int p1, .int p2, .int p3, .int p4] mem K := by
  unfold W_X8_copy at h
  refine CallsC.ofP 2 (by decide) rfl (Nat.le_of_ble_eq_true rfl) ?_
  refine gc_iload_n dX8_copy_0 rfl ?_
  refine go_cSZ (y := M_X8_isSheet) (As := [.int p0]) (rest := []) dX8_copy_1 lm_X8_216 ok_X8_isSheet (by decide) (w_X8_isSheet X p0 mem _ h) rfl (Nat.le_of_ble_eq_true rfl) (fun v_1 m_1 h => ?_)
  refine gc_if_eq 14 dX8_copy_4 (by decide) (fun hc => ?_) (fun hc => ?_)
  · have h := h.1 hc
    refine gc_ldc (v := (-1000000001)) dX8_copy_14 lk_X8_74 ?_
    exact go_iret dX8_copy_16 rfl (Nat.le_refl _) (Nat.le_refl _) ⟨_, rfl, h⟩
  · have h := h.2 hc
    refine gc_iload_n dX8_copy_7 rfl ?_
    refine go_cSZ (y := M_X8_isSheet) (As := [.int p2]) (rest := []) dX8_copy_8 lm_X8_216 ok_X8_isSheet (by decide) (w_X8_isSheet X p2 m_1 _ h) rfl (Nat.le_of_ble_eq_true rfl) (fun v_8 m_8 h => ?_)
    refine gc_if_ne 17 dX8_copy_11 (by decide) (fun hc => ?_) (fun hc => ?_)
    · have h := h.1 hc
      refine gc_aload_n dX8_copy_17 rfl ?_
      refine go_getR dX8_copy_18 lg_X8_47 (sz_lt (by decide)) kd_0 rfl ?_
      refine gc_iload_n dX8_copy_21 rfl ?_
      obtain ⟨i_22, hx_22, hi_22, h⟩ := h
      refine go_sheets i_22 dX8_copy_22 hx_22 hi_22 ?_
      refine gc_astore dX8_copy_23 (by decide) ?_
      refine gc_aload_n dX8_copy_25 rfl ?_
      refine go_getR dX8_copy_26 lg_X8_47 (sz_lt (by decide)) kd_0 rfl ?_
      refine gc_iload_n dX8_copy_29 rfl ?_
      obtain ⟨i_30, hx_30, hi_30, h⟩ := h
      refine go_sheets i_30 dX8_copy_30 hx_30 hi_30 ?_
      refine gc_astore dX8_copy_31 (by decide) ?_
      refine gc_aload dX8_copy_33 rfl ?_
      refine go_cVZ (y := M_X3_isMissing) (As := []) (rest := []) dX8_copy_35 lm_X8_219 ok_X3_isMissing (by decide) (sz_lt (sh_ok hi_22).2.2) (sh_ok hi_22).1 rfl rfl (w_X3_isMissing X (54 + 2 * i_22) (sh_ok hi_22) m_8 _ h) rfl (Nat.le_of_ble_eq_true rfl) (fun v_35 m_35 h => ?_)
      refine gc_if_ne 49 dX8_copy_38 (by decide) (fun hc => ?_) (fun hc => ?_)
      · have h := h.1 hc
        refine gc_ldc (v := (-1000000011)) dX8_copy_49 lk_X8_223 ?_
        exact go_iret dX8_copy_51 rfl (Nat.le_refl _) (Nat.le_refl _) ⟨_, rfl, h⟩
      · have h := h.2 hc
        refine gc_aload dX8_copy_41 rfl ?_
        refine go_cVZ (y := M_X3_isMissing) (As := []) (rest := []) dX8_copy_43 lm_X8_219 ok_X3_isMissing (by decide) (sz_lt (sh_ok hi_30).2.2) (sh_ok hi_30).1 rfl rfl (w_X3_isMissing X (54 + 2 * i_30) (sh_ok hi_30) m_35 _ h) rfl (Nat.le_of_ble_eq_true rfl) (fun v_43 m_43 h => ?_)
        refine gc_if_eq 52 dX8_copy_46 (by decide) (fun hc => ?_) (fun hc => ?_)
        · have h := h.1 hc
          refine gc_aload dX8_copy_52 rfl ?_
          refine go_getI dX8_copy_54 lg_X8_293 (sz_lt (sh_ok hi_22).2.2) (sh_ok hi_22).1 rfl ?_
          refine gc_aload dX8_copy_57 rfl ?_
          refine go_getI dX8_copy_59 lg_X8_293 (sz_lt (sh_ok hi_30).2.2) (sh_ok hi_30).1 rfl ?_
          refine gc_icmp_eq 68 dX8_copy_62 (by decide) (fun hc => ?_) (fun hc => ?_)
          · have h := h.1 hc
            refine gc_aload dX8_copy_68 rfl ?_
            refine gc_iload_n dX8_copy_70 rfl ?_
            refine gc_iload dX8_copy_71 rfl ?_
            refine go_cVZ (y := M_X3_hasRun) (As := [.int p1, .int p4]) (rest := []) dX8_copy_73 lm_X8_301 ok_X3_hasRun (by decide) (sz_lt (sh_ok hi_22).2.2) (sh_ok hi_22).1 rfl rfl (w_X3_hasRun X (54 + 2 * i_22) (sh_ok hi_22) p1 p4 m_43 _ h) rfl (Nat.le_of_ble_eq_true rfl) (fun v_73 m_73 h => ?_)
            refine gc_if_eq 91 dX8_copy_76 (by decide) (fun hc => ?_) (fun hc => ?_)
            · have h := h.1 hc
              refine gc_ldcw (v := (-1000000013)) dX8_copy_91 lk_X8_292 ?_
              exact go_iret dX8_copy_94 rfl (Nat.le_refl _) (Nat.le_refl _) ⟨_, rfl, h⟩
            · have h := h.2 hc
              refine gc_aload dX8_copy_79 rfl ?_
              refine gc_iload dX8_copy_81 rfl ?_
              refine gc_iload dX8_copy_83 rfl ?_
              refine go_cVZ (y := M_X3_hasRun) (As := [.int p3, .int p4]) (rest := []) dX8_copy_85 lm_X8_301 ok_X3_hasRun (by decide) (sz_lt (sh_ok hi_30).2.2) (sh_ok hi_30).1 rfl rfl (w_X3_hasRun X (54 + 2 * i_30) (sh_ok hi_30) p3 p4 m_73 _ h) rfl (Nat.le_of_ble_eq_true rfl) (fun v_85 m_85 h => ?_)
              refine gc_if_ne 95 dX8_copy_88 (by decide) (fun hc => ?_) (fun hc => ?_)
              · have h := h.1 hc
                refine gc_aload dX8_copy_95 rfl ?_
                refine go_getR dX8_copy_97 lg_X8_238 (sz_lt (sh_ok hi_22).2.2) (sh_ok hi_22).1 rfl ?_
                refine gc_iload_n dX8_copy_100 rfl ?_
                refine gc_aload dX8_copy_101 rfl ?_
                refine go_getR dX8_copy_103 lg_X8_238 (sz_lt (sh_ok hi_30).2.2) (sh_ok hi_30).1 rfl ?_
                refine gc_iload dX8_copy_106 rfl ?_
                refine gc_iload dX8_copy_108 rfl ?_
                obtain ⟨a_110, b_110, c_110, hx_110, hy_110, hz_110, h1_110, h2_110, h⟩ := h
                refine go_acopy a_110 b_110 c_110 dX8_copy_110 lac_X8_305 (by decide) (sh_ok hi_22).2.1 (sh_ok hi_30).2.1 hx_110 hy_110 hz_110 h1_110 h2_110 (by omega) (Nat.le_of_ble_eq_true rfl) (fun m_110 em_110 => ?_)
                have h := h m_110 em_110
                refine gc_iload dX8_copy_113 rfl ?_
                exact go_iret dX8_copy_115 rfl (Nat.le_refl _) (Nat.le_refl _) ⟨_, rfl, h⟩
              · have h := h.2 hc
                refine gc_ldcw (v := (-1000000013)) dX8_copy_91 lk_X8_292 ?_
                exact go_iret dX8_copy_94 rfl (Nat.le_refl _) (Nat.le_refl _) ⟨_, rfl, h⟩
          · have h := h.2 hc
            refine gc_ldc (v := (-1000000012)) dX8_copy_65 lk_X8_125 ?_
            exact go_iret dX8_copy_67 rfl (Nat.le_refl _) (Nat.le_refl _) ⟨_, rfl, h⟩
        · have h := h.2 hc
          refine gc_ldc (v := (-1000000011)) dX8_copy_49 lk_X8_223 ?_
          exact go_iret dX8_copy_51 rfl (Nat.le_refl _) (Nat.le_refl _) ⟨_, rfl, h⟩
    · have h := h.2 hc
      refine gc_ldc (v := (-1000000001)) dX8_copy_14 lk_X8_74 ?_
      exact go_iret dX8_copy_16 rfl (Nat.le_refl _) (Nat.le_refl _) ⟨_, rfl, h⟩
def W_X8_isSlot (p0 : Int32) (mem : Mm) (K : Bool → Mm → Prop) : Prop := W_X8_isWithin p0 0 4 mem (fun v_3 m_3 => K v_3 m_3)
set_option maxRecDepth 100000 in
set_option maxHeartbeats 4000000 in
theorem w_X8_isSlot (X : CX) (p0 : Int32) (mem : Mm) (K : Bool → Mm → Prop) (h : W_X8_isSlot p0 mem K) : CallsZ X 1 M_X8_isSlot [.int p0] mem K := by
  unfold W_X8_isSlot at h
  refine CallsC.ofP 0 (by decide) rfl (Nat.le_of_ble_eq_true rfl) ?_
  refine gc_iload_n dX8_isSlot_0 rfl ?_
  refine gc_iconst (v := 0) dX8_isSlot_1 (by decide) ?_
  refine gc_iconst (v := 4) dX8_isSlot_2 (by decide) ?_
  refine go_cSZ (y := M_X8_isWithin) (As := [.int p0, .int 0, .int 4]) (rest := []) dX8_isSlot_3 lm_X8_70 ok_X8_isWithin (by decide) (w_X8_isWithin X p0 0 4 mem _ h) rfl (Nat.le_of_ble_eq_true rfl) (fun v_3 m_3 h => ?_)
  exact go_zret dX8_isSlot_6 rfl (bZ_01 _) (Nat.le_refl _) (Nat.le_refl _) ⟨_, rfl, h⟩
def W_X3_becomeAs (a0 : Nat) (a1 : Nat) (mem : Mm) (K : Mm → Prop) : Prop := ∀ m_5 : Mm, m_5 = mu mem a0 0 (mem a1 0) → (∀ m_13 : Mm, m_13 = mu m_5 a0 1 (m_5 a1 1) → (∃ (a_28 b_28 c_28 : Nat), 0 = nI a_28 ∧ 0 = nI b_28 ∧ 24 = nI c_28 ∧ a_28 + c_28 ≤ 24 ∧ b_28 + c_28 ≤ 24 ∧ (∀ m_28 : Mm, m_28 = muC m_13 (a1 + 1) (a0 + 1) a_28 b_28 c_28 → (K m_28))))
set_option maxRecDepth 100000 in
set_option maxHeartbeats 4000000 in
theorem w_X3_becomeAs (X : CX) (a0 : Nat) (ha0 : isSh a0) (a1 : Nat) (ha1 : isSh a1) (mem : Mm) (K : Mm → Prop) (h : W_X3_becomeAs a0 a1 mem K) : CallsU X 1 M_X3_becomeAs [.ref (cx_n X + a0), .ref (cx_n X + a1)] mem K := by
  unfold W_X3_becomeAs at h
  refine CallsC.ofP 0 (by decide) rfl (Nat.le_of_ble_eq_true rfl) ?_
  refine gc_aload_n dX3_becomeAs_0 rfl ?_
  refine gc_aload_n dX3_becomeAs_1 rfl ?_
  refine go_getI dX3_becomeAs_2 lg_X3_11 (sz_lt ha1.2.2) ha1.1 rfl ?_
  refine go_putI_ dX3_becomeAs_5 lp_X3_11 (sz_lt ha0.2.2) ha0.1 rfl (fun m_5 em_5 => ?_)
  have h := h m_5 em_5
  refine gc_aload_n dX3_becomeAs_8 rfl ?_
  refine gc_aload_n dX3_becomeAs_9 rfl ?_
  refine go_getI dX3_becomeAs_10 lg_X3_15 (sz_lt ha1.2.2) ha1.1 rfl ?_
  refine go_putI_ dX3_becomeAs_13 lp_X3_15 (sz_lt ha0.2.2) ha0.1 rfl (fun m_13 em_13 => ?_)
  have h := h m_13 em_13
  refine gc_aload_n dX3_becomeAs_16 rfl ?_
  refine go_getR dX3_becomeAs_17 lg_X3_18 (sz_lt ha1.2.2) ha1.1 rfl ?_
  refine gc_iconst (v := 0) dX3_becomeAs_20 (by decide) ?_
  refine gc_aload_n dX3_becomeAs_21 rfl ?_
  refine go_getR dX3_becomeAs_22 lg_X3_18 (sz_lt ha0.2.2) ha0.1 rfl ?_
  refine gc_iconst (v := 0) dX3_becomeAs_25 (by decide) ?_
  refine gc_bipush (v := 24) dX3_becomeAs_26 (by decide) ?_
  obtain ⟨a_28, b_28, c_28, hx_28, hy_28, hz_28, h1_28, h2_28, h⟩ := h
  refine go_acopy a_28 b_28 c_28 dX3_becomeAs_28 lac_X3_28 (by decide) ha1.2.1 ha0.2.1 hx_28 hy_28 hz_28 h1_28 h2_28 (by omega) (Nat.le_of_ble_eq_true rfl) (fun m_28 em_28 => ?_)
  have h := h m_28 em_28
  exact go_vret dX3_becomeAs_31 rfl (Nat.le_refl _) (Nat.le_refl _) ⟨rfl, h⟩
def B_X8_lay_67 (p0 : Int32) (p1 : Int32) (p2 : Int32) (K : Int32 → Mm → Prop) (l1 : Int32) (l2 : Int32) (l3 : Int32) (mem : Mm) : Prop := ∃ i_72 : Nat, l1 = nI i_72 ∧ i_72 < 5 ∧ (∀ m_85 : Mm, m_85 = mu mem (62 + 4 * i_72) 0 l2 → ((l2 = 1 → (∃ i_129 : Nat, l3 = nI i_129 ∧ i_129 < 9 ∧ (W_X1_becomeAs ((62 + 4 * i_72) + 1) (1 + 4 + i_129) m_85 (fun m_130 => K (mem (62 + 4 * i_72) 0) m_130)))) ∧ (¬ l2 = 1 → ((l2 = 2 → (∃ i_146 : Nat, l3 = nI i_146 ∧ i_146 < 4 ∧ (W_X3_becomeAs ((62 + 4 * i_72) + 2) (54 + 2 * i_146) m_85 (fun m_147 => K (mem (62 + 4 * i_72) 0) m_147)))) ∧ (¬ l2 = 2 → (∀ m_156 : Mm, m_156 = mu m_85 (62 + 4 * i_72) 3 l3 → (K (mem (62 + 4 * i_72) 0) m_156)))))))
set_option maxRecDepth 100000 in
set_option maxHeartbeats 4000000 in
theorem b_X8_lay_67 (X : CX) (p0 : Int32) (p1 : Int32) (p2 : Int32)  (K : Int32 → Mm → Prop) (l1 : Int32) (l2 : Int32) (l3 : Int32) (mem : Mm)  (h : B_X8_lay_67 p0 p1 p2   K l1 l2 l3 mem) : GoC X 2 0 0 M_X8_lay 67 [some (.ref (cx_n X + 0)), some (.int l1), some (.int l2), some (.int l3), none, none] [] 0 0 (cellAt X mem) (sz mem) (qm X (fun r m => ∃ v : Int32, r = some (.int v) ∧ K v m)) := by
  unfold B_X8_lay_67 at h
  refine gc_aload_n dX8_lay_67 rfl ?_
  refine go_getR dX8_lay_68 lg_X8_53 (sz_lt (by decide)) kd_0 rfl ?_
  refine gc_iload_n dX8_lay_71 rfl ?_
  obtain ⟨i_72, hx_72, hi_72, h⟩ := h
  refine go_slots i_72 dX8_lay_72 hx_72 hi_72 ?_
  refine gc_astore dX8_lay_73 (by decide) ?_
  refine gc_aload dX8_lay_75 rfl ?_
  refine go_getI dX8_lay_77 lg_X8_314 (sz_lt (sl_ok hi_72).2.2.2) (sl_ok hi_72).1 rfl ?_
  refine gc_istore dX8_lay_80 (by decide) ?_
  refine gc_aload dX8_lay_82 rfl ?_
  refine gc_iload_n dX8_lay_84 rfl ?_
  refine go_putI_ dX8_lay_85 lp_X8_314 (sz_lt (sl_ok hi_72).2.2.2) (sl_ok hi_72).1 rfl (fun m_85 em_85 => ?_)
  have h := h m_85 em_85
  refine gc_iload_n dX8_lay_88 rfl ?_
  by_cases hn0 : l2 = 1
  · have h := h.1 hn0
    refine gc_lookup (off := 27) 116 dX8_lay_89 (by decide) (by rw [hn0]; rfl) (by decide) ?_
    refine gc_aload dX8_lay_116 rfl ?_
    refine go_getR dX8_lay_118 lg_X8_317 (sz_lt (sl_ok hi_72).2.2.2) (sl_ok hi_72).1 rfl ?_
    refine gc_aload_n dX8_lay_121 rfl ?_
    refine go_getR dX8_lay_122 lg_X8_10 (sz_lt (by decide)) kd_0 rfl ?_
    refine go_getR dX8_lay_125 lg_X8_87 (sz_lt (al_lt al_1)) (al_kd al_1) rfl ?_
    refine gc_iload_n dX8_lay_128 rfl ?_
    obtain ⟨i_129, hx_129, hi_129, h⟩ := h
    refine go_men i_129 al_1 dX8_lay_129 hx_129 hi_129 ?_
    refine go_cVU (y := M_X1_becomeAs) (As := [.ref (cx_n X + (1 + 4 + i_129))]) (rest := []) dX8_lay_130 lm_X8_321 ok_X1_becomeAs (by decide) (sz_lt ((sl_ok hi_72).2.1).2) ((sl_ok hi_72).2.1).1 rfl rfl (w_X1_becomeAs X ((62 + 4 * i_72) + 1) ((sl_ok hi_72).2.1) (1 + 4 + i_129) (al_man al_1 hi_129) m_85 _ h) rfl (Nat.le_of_ble_eq_true rfl) (fun m_130 h => ?_)
    refine gc_goto 159 dX8_lay_133 (by decide) ?_
    refine gc_iload dX8_lay_159 rfl ?_
    exact go_iret dX8_lay_161 rfl (Nat.le_refl _) (Nat.le_refl _) ⟨_, rfl, h⟩
  · have h := h.2 hn0
    have hq0 := tab_ne hn0 (a := 1) (by decide)
    by_cases hn1 : l2 = 2
    · have h := h.1 hn1
      refine gc_lookup (off := 47) 136 dX8_lay_89 (by decide) (by rw [hn1]; rfl) (by decide) ?_
      refine gc_aload dX8_lay_136 rfl ?_
      refine go_getR dX8_lay_138 lg_X8_324 (sz_lt (sl_ok hi_72).2.2.2) (sl_ok hi_72).1 rfl ?_
      refine gc_aload_n dX8_lay_141 rfl ?_
      refine go_getR dX8_lay_142 lg_X8_47 (sz_lt (by decide)) kd_0 rfl ?_
      refine gc_iload_n dX8_lay_145 rfl ?_
      obtain ⟨i_146, hx_146, hi_146, h⟩ := h
      refine go_sheets i_146 dX8_lay_146 hx_146 hi_146 ?_
      refine go_cVU (y := M_X3_becomeAs) (As := [.ref (cx_n X + (54 + 2 * i_146))]) (rest := []) dX8_lay_147 lm_X8_328 ok_X3_becomeAs (by decide) (sz_lt ((sl_ok hi_72).2.2.1).2.2) ((sl_ok hi_72).2.2.1).1 rfl rfl (w_X3_becomeAs X ((62 + 4 * i_72) + 2) ((sl_ok hi_72).2.2.1) (54 + 2 * i_146) (sh_ok hi_146) m_85 _ h) rfl (Nat.le_of_ble_eq_true rfl) (fun m_147 h => ?_)
      refine gc_goto 159 dX8_lay_150 (by decide) ?_
      refine gc_iload dX8_lay_159 rfl ?_
      exact go_iret dX8_lay_161 rfl (Nat.le_refl _) (Nat.le_refl _) ⟨_, rfl, h⟩
    · have h := h.2 hn1
      have hq1 := tab_ne hn1 (a := 2) (by decide)
      refine gc_lookup (off := 64) 153 dX8_lay_89 (by decide) (by show Op.lookupswitch.offset [(1, 27), (2, 47)] 64 _ = 64; rw [lv_osw (k := (1)) hn0 (by decide), lv_osw (k := (2)) hn1 (by decide)]; rfl) (by decide) ?_
      refine gc_aload dX8_lay_153 rfl ?_
      refine gc_iload_n dX8_lay_155 rfl ?_
      refine go_putI_ dX8_lay_156 lp_X8_330 (sz_lt (sl_ok hi_72).2.2.2) (sl_ok hi_72).1 rfl (fun m_156 em_156 => ?_)
      have h := h m_156 em_156
      refine gc_iload dX8_lay_159 rfl ?_
      exact go_iret dX8_lay_161 rfl (Nat.le_refl _) (Nat.le_refl _) ⟨_, rfl, h⟩
def B_X8_lay_32 (p0 : Int32) (p1 : Int32) (p2 : Int32) (K : Int32 → Mm → Prop) (l1 : Int32) (l2 : Int32) (l3 : Int32) (mem : Mm) : Prop := (¬ l2 = 2 → ((¬ l2 = 2 → (B_X8_lay_67 p0 p1 p2   K l1 l2 l3 mem)) ∧ (l2 = 2 → (∃ i_57 : Nat, l3 = nI i_57 ∧ i_57 < 4 ∧ (W_X3_isMissing (54 + 2 * i_57) mem (fun v_58 m_58 => ((bZ v_58) = 0 → (B_X8_lay_67 p0 p1 p2   K l1 l2 l3 m_58)) ∧ (¬ (bZ v_58) = 0 → (K (-1000000011) m_58)))))))) ∧ (l2 = 2 → (W_X8_isSheet l3 mem (fun v_38 m_38 => (¬ (bZ v_38) = 0 → ((¬ l2 = 2 → (B_X8_lay_67 p0 p1 p2   K l1 l2 l3 m_38)) ∧ (l2 = 2 → (∃ i_57 : Nat, l3 = nI i_57 ∧ i_57 < 4 ∧ (W_X3_isMissing (54 + 2 * i_57) m_38 (fun v_58 m_58 => ((bZ v_58) = 0 → (B_X8_lay_67 p0 p1 p2   K l1 l2 l3 m_58)) ∧ (¬ (bZ v_58) = 0 → (K (-1000000011) m_58)))))))) ∧ ((bZ v_38) = 0 → (K (-1000000001) m_38)))))
set_option maxRecDepth 100000 in
set_option maxHeartbeats 4000000 in
theorem b_X8_lay_32 (X : CX) (p0 : Int32) (p1 : Int32) (p2 : Int32)  (K : Int32 → Mm → Prop) (l1 : Int32) (l2 : Int32) (l3 : Int32) (mem : Mm)  (h : B_X8_lay_32 p0 p1 p2   K l1 l2 l3 mem) : GoC X 2 0 0 M_X8_lay 32 [some (.ref (cx_n X + 0)), some (.int l1), some (.int l2), some (.int l3), none, none] [] 0 0 (cellAt X mem) (sz mem) (qm X (fun r m => ∃ v : Int32, r = some (.int v) ∧ K v m)) := by
  unfold B_X8_lay_32 at h
  refine gc_iload_n dX8_lay_32 rfl ?_
  refine gc_iconst (v := 2) dX8_lay_33 (by decide) ?_
  refine gc_icmp_ne 47 dX8_lay_34 (by decide) (fun hc => ?_) (fun hc => ?_)
  · have h := h.1 hc
    refine gc_iload_n dX8_lay_47 rfl ?_
    refine gc_iconst (v := 2) dX8_lay_48 (by decide) ?_
    refine gc_icmp_ne 67 dX8_lay_49 (by decide) (fun hc => ?_) (fun hc => ?_)
    · have h := h.1 hc
      exact b_X8_lay_67 X p0 p1 p2    K   l1 l2 l3 mem  h
    · have h := h.2 hc
      refine gc_aload_n dX8_lay_52 rfl ?_
      refine go_getR dX8_lay_53 lg_X8_47 (sz_lt (by decide)) kd_0 rfl ?_
      refine gc_iload_n dX8_lay_56 rfl ?_
      obtain ⟨i_57, hx_57, hi_57, h⟩ := h
      refine go_sheets i_57 dX8_lay_57 hx_57 hi_57 ?_
      refine go_cVZ (y := M_X3_isMissing) (As := []) (rest := []) dX8_lay_58 lm_X8_219 ok_X3_isMissing (by decide) (sz_lt (sh_ok hi_57).2.2) (sh_ok hi_57).1 rfl rfl (w_X3_isMissing X (54 + 2 * i_57) (sh_ok hi_57) mem _ h) rfl (Nat.le_of_ble_eq_true rfl) (fun v_58 m_58 h => ?_)
      refine gc_if_eq 67 dX8_lay_61 (by decide) (fun hc => ?_) (fun hc => ?_)
      · have h := h.1 hc
        exact b_X8_lay_67 X p0 p1 p2    K   l1 l2 l3 m_58  h
      · have h := h.2 hc
        refine gc_ldc (v := (-1000000011)) dX8_lay_64 lk_X8_223 ?_
        exact go_iret dX8_lay_66 rfl (Nat.le_refl _) (Nat.le_refl _) ⟨_, rfl, h⟩
  · have h := h.2 hc
    refine gc_iload_n dX8_lay_37 rfl ?_
    refine go_cSZ (y := M_X8_isSheet) (As := [.int l3]) (rest := []) dX8_lay_38 lm_X8_216 ok_X8_isSheet (by decide) (w_X8_isSheet X l3 mem _ h) rfl (Nat.le_of_ble_eq_true rfl) (fun v_38 m_38 h => ?_)
    refine gc_if_ne 47 dX8_lay_41 (by decide) (fun hc => ?_) (fun hc => ?_)
    · have h := h.1 hc
      refine gc_iload_n dX8_lay_47 rfl ?_
      refine gc_iconst (v := 2) dX8_lay_48 (by decide) ?_
      refine gc_icmp_ne 67 dX8_lay_49 (by decide) (fun hc => ?_) (fun hc => ?_)
      · have h := h.1 hc
        exact b_X8_lay_67 X p0 p1 p2    K   l1 l2 l3 m_38  h
      · have h := h.2 hc
        refine gc_aload_n dX8_lay_52 rfl ?_
        refine go_getR dX8_lay_53 lg_X8_47 (sz_lt (by decide)) kd_0 rfl ?_
        refine gc_iload_n dX8_lay_56 rfl ?_
        obtain ⟨i_57, hx_57, hi_57, h⟩ := h
        refine go_sheets i_57 dX8_lay_57 hx_57 hi_57 ?_
        refine go_cVZ (y := M_X3_isMissing) (As := []) (rest := []) dX8_lay_58 lm_X8_219 ok_X3_isMissing (by decide) (sz_lt (sh_ok hi_57).2.2) (sh_ok hi_57).1 rfl rfl (w_X3_isMissing X (54 + 2 * i_57) (sh_ok hi_57) m_38 _ h) rfl (Nat.le_of_ble_eq_true rfl) (fun v_58 m_58 h => ?_)
        refine gc_if_eq 67 dX8_lay_61 (by decide) (fun hc => ?_) (fun hc => ?_)
        · have h := h.1 hc
          exact b_X8_lay_67 X p0 p1 p2    K   l1 l2 l3 m_58  h
        · have h := h.2 hc
          refine gc_ldc (v := (-1000000011)) dX8_lay_64 lk_X8_223 ?_
          exact go_iret dX8_lay_66 rfl (Nat.le_refl _) (Nat.le_refl _) ⟨_, rfl, h⟩
    · have h := h.2 hc
      refine gc_ldc (v := (-1000000001)) dX8_lay_44 lk_X8_74 ?_
      exact go_iret dX8_lay_46 rfl (Nat.le_refl _) (Nat.le_refl _) ⟨_, rfl, h⟩
def W_X8_lay (p0 : Int32) (p1 : Int32) (p2 : Int32) (mem : Mm) (K : Int32 → Mm → Prop) : Prop := W_X8_isSlot p0 mem (fun v_1 m_1 => ((bZ v_1) = 0 → (K (-1000000001) m_1)) ∧ (¬ (bZ v_1) = 0 → (W_X8_isWithin p1 0 3 m_1 (fun v_10 m_10 => ((bZ v_10) = 0 → (K (-1000000001) m_10)) ∧ (¬ (bZ v_10) = 0 → ((¬ p1 = 1 → (B_X8_lay_32 p0 p1 p2   K p0 p1 p2 m_10)) ∧ (p1 = 1 → (W_X0_has 1 p2 m_10 (fun v_26 m_26 => ((bZ v_26) = 0 → (K (-1000000001) m_26)) ∧ (¬ (bZ v_26) = 0 → (B_X8_lay_32 p0 p1 p2   K p0 p1 p2 m_26)))))))))))
set_option maxRecDepth 100000 in
set_option maxHeartbeats 4000000 in
theorem w_X8_lay (X : CX) (p0 : Int32) (p1 : Int32) (p2 : Int32) (mem : Mm) (K : Int32 → Mm → Prop) (h : W_X8_lay p0 p1 p2 mem K) : CallsI X 2 M_X8_lay [.ref (cx_n X + 0), .int p0, .int p1, .int p2] mem K := by
  unfold W_X8_lay at h
  refine CallsC.ofP 2 (by decide) rfl (Nat.le_of_ble_eq_true rfl) ?_
  refine gc_iload_n dX8_lay_0 rfl ?_
  refine go_cSZ (y := M_X8_isSlot) (As := [.int p0]) (rest := []) dX8_lay_1 lm_X8_311 ok_X8_isSlot (by decide) (w_X8_isSlot X p0 mem _ h) rfl (Nat.le_of_ble_eq_true rfl) (fun v_1 m_1 h => ?_)
  refine gc_if_eq 44 dX8_lay_4 (by decide) (fun hc => ?_) (fun hc => ?_)
  · have h := h.1 hc
    refine gc_ldc (v := (-1000000001)) dX8_lay_44 lk_X8_74 ?_
    exact go_iret dX8_lay_46 rfl (Nat.le_refl _) (Nat.le_refl _) ⟨_, rfl, h⟩
  · have h := h.2 hc
    refine gc_iload_n dX8_lay_7 rfl ?_
    refine gc_iconst (v := 0) dX8_lay_8 (by decide) ?_
    refine gc_iconst (v := 3) dX8_lay_9 (by decide) ?_
    refine go_cSZ (y := M_X8_isWithin) (As := [.int p1, .int 0, .int 3]) (rest := []) dX8_lay_10 lm_X8_70 ok_X8_isWithin (by decide) (w_X8_isWithin X p1 0 3 m_1 _ h) rfl (Nat.le_of_ble_eq_true rfl) (fun v_10 m_10 h => ?_)
    refine gc_if_eq 44 dX8_lay_13 (by decide) (fun hc => ?_) (fun hc => ?_)
    · have h := h.1 hc
      refine gc_ldc (v := (-1000000001)) dX8_lay_44 lk_X8_74 ?_
      exact go_iret dX8_lay_46 rfl (Nat.le_refl _) (Nat.le_refl _) ⟨_, rfl, h⟩
    · have h := h.2 hc
      refine gc_iload_n dX8_lay_16 rfl ?_
      refine gc_iconst (v := 1) dX8_lay_17 (by decide) ?_
      refine gc_icmp_ne 32 dX8_lay_18 (by decide) (fun hc => ?_) (fun hc => ?_)
      · have h := h.1 hc
        exact b_X8_lay_32 X p0 p1 p2    K   p0 p1 p2 m_10  h
      · have h := h.2 hc
        refine gc_aload_n dX8_lay_21 rfl ?_
        refine go_getR dX8_lay_22 lg_X8_10 (sz_lt (by decide)) kd_0 rfl ?_
        refine gc_iload_n dX8_lay_25 rfl ?_
        refine go_cVZ (y := M_X0_has) (As := [.int p2]) (rest := []) dX8_lay_26 lm_X8_83 ok_X0_has (by decide) (sz_lt (al_lt al_1)) (al_kd al_1) rfl rfl (w_X0_has X 1 al_1 p2 m_10 _ h) rfl (Nat.le_of_ble_eq_true rfl) (fun v_26 m_26 h => ?_)
        refine gc_if_eq 44 dX8_lay_29 (by decide) (fun hc => ?_) (fun hc => ?_)
        · have h := h.1 hc
          refine gc_ldc (v := (-1000000001)) dX8_lay_44 lk_X8_74 ?_
          exact go_iret dX8_lay_46 rfl (Nat.le_refl _) (Nat.le_refl _) ⟨_, rfl, h⟩
        · have h := h.2 hc
          exact b_X8_lay_32 X p0 p1 p2    K   p0 p1 p2 m_26  h
def W_X8_ask (p0 : Int32) (p1 : Int32) (mem : Mm) (K : Int32 → Mm → Prop) : Prop := W_X8_isSlot p0 mem (fun v_1 m_1 => ((bZ v_1) = 0 → (K (-1000000001) m_1)) ∧ (¬ (bZ v_1) = 0 → (W_X8_isWithin p1 0 5 m_1 (fun v_10 m_10 => (¬ (bZ v_10) = 0 → (∃ i_24 : Nat, p0 = nI i_24 ∧ i_24 < 5 ∧ ((¬ (m_10 (62 + 4 * i_24) 0) = 0 → ((¬ (m_10 (62 + 4 * i_24) 0) = 1 → (K (-1000000012) m_10)) ∧ ((m_10 (62 + 4 * i_24) 0) = 1 → (W_X1_isOf ((62 + 4 * i_24) + 1) p1 m_10 (fun v_49 m_49 => (¬ (bZ v_49) = 0 → (W_X1_worth ((62 + 4 * i_24) + 1) m_49 (fun v_62 m_62 => K v_62 m_62))) ∧ ((bZ v_49) = 0 → (K (-1000000012) m_49))))))) ∧ ((m_10 (62 + 4 * i_24) 0) = 0 → (K (-1000000011) m_10))))) ∧ ((bZ v_10) = 0 → (K (-1000000001) m_10))))))
set_option maxRecDepth 100000 in
set_option maxHeartbeats 4000000 in
theorem w_X8_ask (X : CX) (p0 : Int32) (p1 : Int32) (mem : Mm) (K : Int32 → Mm → Prop) (h : W_X8_ask p0 p1 mem K) : CallsI X 2 M_X8_ask [.ref (cx_n X + 0), .int p0, .int p1] mem K := by
  unfold W_X8_ask at h
  refine CallsC.ofP 1 (by decide) rfl (Nat.le_of_ble_eq_true rfl) ?_
  refine gc_iload_n dX8_ask_0 rfl ?_
  refine go_cSZ (y := M_X8_isSlot) (As := [.int p0]) (rest := []) dX8_ask_1 lm_X8_311 ok_X8_isSlot (by decide) (w_X8_isSlot X p0 mem _ h) rfl (Nat.le_of_ble_eq_true rfl) (fun v_1 m_1 h => ?_)
  refine gc_if_eq 16 dX8_ask_4 (by decide) (fun hc => ?_) (fun hc => ?_)
  · have h := h.1 hc
    refine gc_ldc (v := (-1000000001)) dX8_ask_16 lk_X8_74 ?_
    exact go_iret dX8_ask_18 rfl (Nat.le_refl _) (Nat.le_refl _) ⟨_, rfl, h⟩
  · have h := h.2 hc
    refine gc_iload_n dX8_ask_7 rfl ?_
    refine gc_iconst (v := 0) dX8_ask_8 (by decide) ?_
    refine gc_iconst (v := 5) dX8_ask_9 (by decide) ?_
    refine go_cSZ (y := M_X8_isWithin) (As := [.int p1, .int 0, .int 5]) (rest := []) dX8_ask_10 lm_X8_70 ok_X8_isWithin (by decide) (w_X8_isWithin X p1 0 5 m_1 _ h) rfl (Nat.le_of_ble_eq_true rfl) (fun v_10 m_10 h => ?_)
    refine gc_if_ne 19 dX8_ask_13 (by decide) (fun hc => ?_) (fun hc => ?_)
    · have h := h.1 hc
      refine gc_aload_n dX8_ask_19 rfl ?_
      refine go_getR dX8_ask_20 lg_X8_53 (sz_lt (by decide)) kd_0 rfl ?_
      refine gc_iload_n dX8_ask_23 rfl ?_
      obtain ⟨i_24, hx_24, hi_24, h⟩ := h
      refine go_slots i_24 dX8_ask_24 hx_24 hi_24 ?_
      refine gc_astore_n dX8_ask_25 (by decide) ?_
      refine gc_aload_n dX8_ask_26 rfl ?_
      refine go_getI dX8_ask_27 lg_X8_314 (sz_lt (sl_ok hi_24).2.2.2) (sl_ok hi_24).1 rfl ?_
      refine gc_if_ne 36 dX8_ask_30 (by decide) (fun hc => ?_) (fun hc => ?_)
      · have h := h.1 hc
        refine gc_aload_n dX8_ask_36 rfl ?_
        refine go_getI dX8_ask_37 lg_X8_314 (sz_lt (sl_ok hi_24).2.2.2) (sl_ok hi_24).1 rfl ?_
        refine gc_iconst (v := 1) dX8_ask_40 (by decide) ?_
        refine gc_icmp_ne 55 dX8_ask_41 (by decide) (fun hc => ?_) (fun hc => ?_)
        · have h := h.1 hc
          refine gc_ldc (v := (-1000000012)) dX8_ask_55 lk_X8_125 ?_
          exact go_iret dX8_ask_57 rfl (Nat.le_refl _) (Nat.le_refl _) ⟨_, rfl, h⟩
        · have h := h.2 hc
          refine gc_aload_n dX8_ask_44 rfl ?_
          refine go_getR dX8_ask_45 lg_X8_317 (sz_lt (sl_ok hi_24).2.2.2) (sl_ok hi_24).1 rfl ?_
          refine gc_iload_n dX8_ask_48 rfl ?_
          refine go_cVZ (y := M_X1_isOf) (As := [.int p1]) (rest := []) dX8_ask_49 lm_X8_122 ok_X1_isOf (by decide) (sz_lt ((sl_ok hi_24).2.1).2) ((sl_ok hi_24).2.1).1 rfl rfl (w_X1_isOf X ((62 + 4 * i_24) + 1) ((sl_ok hi_24).2.1) p1 m_10 _ h) rfl (Nat.le_of_ble_eq_true rfl) (fun v_49 m_49 h => ?_)
          refine gc_if_ne 58 dX8_ask_52 (by decide) (fun hc => ?_) (fun hc => ?_)
          · have h := h.1 hc
            refine gc_aload_n dX8_ask_58 rfl ?_
            refine go_getR dX8_ask_59 lg_X8_317 (sz_lt (sl_ok hi_24).2.2.2) (sl_ok hi_24).1 rfl ?_
            refine go_cVI (y := M_X1_worth) (As := []) (rest := []) dX8_ask_62 lm_X8_115 ok_X1_worth (by decide) (sz_lt ((sl_ok hi_24).2.1).2) ((sl_ok hi_24).2.1).1 rfl rfl (w_X1_worth X ((62 + 4 * i_24) + 1) ((sl_ok hi_24).2.1) m_49 _ h) rfl (Nat.le_of_ble_eq_true rfl) (fun v_62 m_62 h => ?_)
            exact go_iret dX8_ask_65 rfl (Nat.le_refl _) (Nat.le_refl _) ⟨_, rfl, h⟩
          · have h := h.2 hc
            refine gc_ldc (v := (-1000000012)) dX8_ask_55 lk_X8_125 ?_
            exact go_iret dX8_ask_57 rfl (Nat.le_refl _) (Nat.le_refl _) ⟨_, rfl, h⟩
      · have h := h.2 hc
        refine gc_ldc (v := (-1000000011)) dX8_ask_33 lk_X8_223 ?_
        exact go_iret dX8_ask_35 rfl (Nat.le_refl _) (Nat.le_refl _) ⟨_, rfl, h⟩
    · have h := h.2 hc
      refine gc_ldc (v := (-1000000001)) dX8_ask_16 lk_X8_74 ?_
      exact go_iret dX8_ask_18 rfl (Nat.le_refl _) (Nat.le_refl _) ⟨_, rfl, h⟩
def W_X8_item (p0 : Int32) (p1 : Int32) (mem : Mm) (K : Int32 → Mm → Prop) : Prop := W_X8_isSlot p0 mem (fun v_1 m_1 => (¬ (bZ v_1) = 0 → (∃ i_15 : Nat, p0 = nI i_15 ∧ i_15 < 5 ∧ ((¬ (m_1 (62 + 4 * i_15) 0) = 0 → (((m_1 (62 + 4 * i_15) 0) = 2 → (W_X3_has ((62 + 4 * i_15) + 2) p1 m_1 (fun v_43 m_43 => (¬ (bZ v_43) = 0 → (W_X3_isNumber ((62 + 4 * i_15) + 2) p1 m_43 (fun v_58 m_58 => ((bZ v_58) = 0 → (K (-1000000012) m_58)) ∧ (¬ (bZ v_58) = 0 → (∃ i_72 : Nat, p1 = nI i_72 ∧ i_72 < 24 ∧ (K (m_58 (((62 + 4 * i_15) + 2) + 1) i_72) m_58)))))) ∧ ((bZ v_43) = 0 → (K (-1000000013) m_43))))) ∧ (¬ (m_1 (62 + 4 * i_15) 0) = 2 → (K (-1000000012) m_1)))) ∧ ((m_1 (62 + 4 * i_15) 0) = 0 → (K (-1000000011) m_1))))) ∧ ((bZ v_1) = 0 → (K (-1000000001) m_1)))
set_option maxRecDepth 100000 in
set_option maxHeartbeats 4000000 in
theorem w_X8_item (X : CX) (p0 : Int32) (p1 : Int32) (mem : Mm) (K : Int32 → Mm → Prop) (h : W_X8_item p0 p1 mem K) : CallsI X 2 M_X8_item [.ref (cx_n X + 0), .int p0, .int p1] mem K := by
  unfold W_X8_item at h
  refine CallsC.ofP 1 (by decide) rfl (Nat.le_of_ble_eq_true rfl) ?_
  refine gc_iload_n dX8_item_0 rfl ?_
  refine go_cSZ (y := M_X8_isSlot) (As := [.int p0]) (rest := []) dX8_item_1 lm_X8_311 ok_X8_isSlot (by decide) (w_X8_isSlot X p0 mem _ h) rfl (Nat.le_of_ble_eq_true rfl) (fun v_1 m_1 h => ?_)
  refine gc_if_ne 10 dX8_item_4 (by decide) (fun hc => ?_) (fun hc => ?_)
  · have h := h.1 hc
    refine gc_aload_n dX8_item_10 rfl ?_
    refine go_getR dX8_item_11 lg_X8_53 (sz_lt (by decide)) kd_0 rfl ?_
    refine gc_iload_n dX8_item_14 rfl ?_
    obtain ⟨i_15, hx_15, hi_15, h⟩ := h
    refine go_slots i_15 dX8_item_15 hx_15 hi_15 ?_
    refine gc_astore_n dX8_item_16 (by decide) ?_
    refine gc_aload_n dX8_item_17 rfl ?_
    refine go_getI dX8_item_18 lg_X8_314 (sz_lt (sl_ok hi_15).2.2.2) (sl_ok hi_15).1 rfl ?_
    refine gc_if_ne 27 dX8_item_21 (by decide) (fun hc => ?_) (fun hc => ?_)
    · have h := h.1 hc
      refine gc_aload_n dX8_item_27 rfl ?_
      refine go_getI dX8_item_28 lg_X8_314 (sz_lt (sl_ok hi_15).2.2.2) (sl_ok hi_15).1 rfl ?_
      refine gc_iconst (v := 2) dX8_item_31 (by decide) ?_
      refine gc_icmp_eq 38 dX8_item_32 (by decide) (fun hc => ?_) (fun hc => ?_)
      · have h := h.1 hc
        refine gc_aload_n dX8_item_38 rfl ?_
        refine go_getR dX8_item_39 lg_X8_324 (sz_lt (sl_ok hi_15).2.2.2) (sl_ok hi_15).1 rfl ?_
        refine gc_iload_n dX8_item_42 rfl ?_
        refine go_cVZ (y := M_X3_has) (As := [.int p1]) (rest := []) dX8_item_43 lm_X8_291 ok_X3_has (by decide) (sz_lt ((sl_ok hi_15).2.2.1).2.2) ((sl_ok hi_15).2.2.1).1 rfl rfl (w_X3_has X ((62 + 4 * i_15) + 2) ((sl_ok hi_15).2.2.1) p1 m_1 _ h) rfl (Nat.le_of_ble_eq_true rfl) (fun v_43 m_43 h => ?_)
        refine gc_if_ne 53 dX8_item_46 (by decide) (fun hc => ?_) (fun hc => ?_)
        · have h := h.1 hc
          refine gc_aload_n dX8_item_53 rfl ?_
          refine go_getR dX8_item_54 lg_X8_324 (sz_lt (sl_ok hi_15).2.2.2) (sl_ok hi_15).1 rfl ?_
          refine gc_iload_n dX8_item_57 rfl ?_
          refine go_cVZ (y := M_X3_isNumber) (As := [.int p1]) (rest := []) dX8_item_58 lm_X8_235 ok_X3_isNumber (by decide) (sz_lt ((sl_ok hi_15).2.2.1).2.2) ((sl_ok hi_15).2.2.1).1 rfl rfl (w_X3_isNumber X ((62 + 4 * i_15) + 2) ((sl_ok hi_15).2.2.1) p1 m_43 _ h) rfl (Nat.le_of_ble_eq_true rfl) (fun v_58 m_58 h => ?_)
          refine gc_if_eq 76 dX8_item_61 (by decide) (fun hc => ?_) (fun hc => ?_)
          · have h := h.1 hc
            refine gc_ldc (v := (-1000000012)) dX8_item_76 lk_X8_125 ?_
            exact go_iret dX8_item_78 rfl (Nat.le_refl _) (Nat.le_refl _) ⟨_, rfl, h⟩
          · have h := h.2 hc
            refine gc_aload_n dX8_item_64 rfl ?_
            refine go_getR dX8_item_65 lg_X8_324 (sz_lt (sl_ok hi_15).2.2.2) (sl_ok hi_15).1 rfl ?_
            refine go_getR dX8_item_68 lg_X8_238 (sz_lt ((sl_ok hi_15).2.2.1).2.2) ((sl_ok hi_15).2.2.1).1 rfl ?_
            refine gc_iload_n dX8_item_71 rfl ?_
            obtain ⟨i_72, hx_72, hi_72, h⟩ := h
            refine go_iald i_72 dX8_item_72 ((sl_ok hi_15).2.2.1).2.1 hx_72 hi_72 ?_
            refine gc_goto 78 dX8_item_73 (by decide) ?_
            exact go_iret dX8_item_78 rfl (Nat.le_refl _) (Nat.le_refl _) ⟨_, rfl, h⟩
        · have h := h.2 hc
          refine gc_ldcw (v := (-1000000013)) dX8_item_49 lk_X8_292 ?_
          exact go_iret dX8_item_52 rfl (Nat.le_refl _) (Nat.le_refl _) ⟨_, rfl, h⟩
      · have h := h.2 hc
        refine gc_ldc (v := (-1000000012)) dX8_item_35 lk_X8_125 ?_
        exact go_iret dX8_item_37 rfl (Nat.le_refl _) (Nat.le_refl _) ⟨_, rfl, h⟩
    · have h := h.2 hc
      refine gc_ldc (v := (-1000000011)) dX8_item_24 lk_X8_223 ?_
      exact go_iret dX8_item_26 rfl (Nat.le_refl _) (Nat.le_refl _) ⟨_, rfl, h⟩
  · have h := h.2 hc
    refine gc_ldc (v := (-1000000001)) dX8_item_7 lk_X8_74 ?_
    exact go_iret dX8_item_9 rfl (Nat.le_refl _) (Nat.le_refl _) ⟨_, rfl, h⟩
def W_X8_rest (p0 : Int32) (p1 : Int32) (mem : Mm) (K : Int32 → Mm → Prop) : Prop := W_X8_isSlot p0 mem (fun v_1 m_1 => (¬ (bZ v_1) = 0 → (∃ i_15 : Nat, p0 = nI i_15 ∧ i_15 < 5 ∧ ((¬ (m_1 (62 + 4 * i_15) 0) = 0 → (((m_1 (62 + 4 * i_15) 0) = 3 → ((¬ p1 = 0 → (¬ p1 = 0 ∧ (K ((m_1 (62 + 4 * i_15) 3) - (m_1 (62 + 4 * i_15) 3) / p1 * p1) m_1))) ∧ (p1 = 0 → (K (-1000000002) m_1)))) ∧ (¬ (m_1 (62 + 4 * i_15) 0) = 3 → (K (-1000000012) m_1)))) ∧ ((m_1 (62 + 4 * i_15) 0) = 0 → (K (-1000000011) m_1))))) ∧ ((bZ v_1) = 0 → (K (-1000000001) m_1)))
set_option maxRecDepth 100000 in
set_option maxHeartbeats 4000000 in
theorem w_X8_rest (X : CX) (p0 : Int32) (p1 : Int32) (mem : Mm) (K : Int32 → Mm → Prop) (h : W_X8_rest p0 p1 mem K) : CallsI X 2 M_X8_rest [.ref (cx_n X + 0), .int p0, .int p1] mem K := by
  unfold W_X8_rest at h
  refine CallsC.ofP 1 (by decide) rfl (Nat.le_of_ble_eq_true rfl) ?_
  refine gc_iload_n dX8_rest_0 rfl ?_
  refine go_cSZ (y := M_X8_isSlot) (As := [.int p0]) (rest := []) dX8_rest_1 lm_X8_311 ok_X8_isSlot (by decide) (w_X8_isSlot X p0 mem _ h) rfl (Nat.le_of_ble_eq_true rfl) (fun v_1 m_1 h => ?_)
  refine gc_if_ne 10 dX8_rest_4 (by decide) (fun hc => ?_) (fun hc => ?_)
  · have h := h.1 hc
    refine gc_aload_n dX8_rest_10 rfl ?_
    refine go_getR dX8_rest_11 lg_X8_53 (sz_lt (by decide)) kd_0 rfl ?_
    refine gc_iload_n dX8_rest_14 rfl ?_
    obtain ⟨i_15, hx_15, hi_15, h⟩ := h
    refine go_slots i_15 dX8_rest_15 hx_15 hi_15 ?_
    refine gc_astore_n dX8_rest_16 (by decide) ?_
    refine gc_aload_n dX8_rest_17 rfl ?_
    refine go_getI dX8_rest_18 lg_X8_314 (sz_lt (sl_ok hi_15).2.2.2) (sl_ok hi_15).1 rfl ?_
    refine gc_if_ne 27 dX8_rest_21 (by decide) (fun hc => ?_) (fun hc => ?_)
    · have h := h.1 hc
      refine gc_aload_n dX8_rest_27 rfl ?_
      refine go_getI dX8_rest_28 lg_X8_314 (sz_lt (sl_ok hi_15).2.2.2) (sl_ok hi_15).1 rfl ?_
      refine gc_iconst (v := 3) dX8_rest_31 (by decide) ?_
      refine gc_icmp_eq 38 dX8_rest_32 (by decide) (fun hc => ?_) (fun hc => ?_)
      · have h := h.1 hc
        refine gc_iload_n dX8_rest_38 rfl ?_
        refine gc_if_ne 47 dX8_rest_39 (by decide) (fun hc => ?_) (fun hc => ?_)
        · have h := h.1 hc
          refine gc_aload_n dX8_rest_47 rfl ?_
          refine go_getI dX8_rest_48 lg_X8_330 (sz_lt (sl_ok hi_15).2.2.2) (sl_ok hi_15).1 rfl ?_
          refine gc_iload_n dX8_rest_51 rfl ?_
          obtain ⟨hne, h⟩ := h
          refine gc_irem dX8_rest_52 hne ?_
          exact go_iret dX8_rest_53 rfl (Nat.le_refl _) (Nat.le_refl _) ⟨_, rfl, h⟩
        · have h := h.2 hc
          refine gc_ldc (v := (-1000000002)) dX8_rest_42 lk_X8_136 ?_
          refine gc_goto 53 dX8_rest_44 (by decide) ?_
          exact go_iret dX8_rest_53 rfl (Nat.le_refl _) (Nat.le_refl _) ⟨_, rfl, h⟩
      · have h := h.2 hc
        refine gc_ldc (v := (-1000000012)) dX8_rest_35 lk_X8_125 ?_
        exact go_iret dX8_rest_37 rfl (Nat.le_refl _) (Nat.le_refl _) ⟨_, rfl, h⟩
    · have h := h.2 hc
      refine gc_ldc (v := (-1000000011)) dX8_rest_24 lk_X8_223 ?_
      exact go_iret dX8_rest_26 rfl (Nat.le_refl _) (Nat.le_refl _) ⟨_, rfl, h⟩
  · have h := h.2 hc
    refine gc_ldc (v := (-1000000001)) dX8_rest_7 lk_X8_74 ?_
    exact go_iret dX8_rest_9 rfl (Nat.le_refl _) (Nat.le_refl _) ⟨_, rfl, h⟩
def W_X8_tell (p0 : Int32) (mem : Mm) (K : Int32 → Mm → Prop) : Prop := ((mem 0 10) < 60 → (∃ i_21 : Nat, (mem 0 10) = nI i_21 ∧ i_21 < 60 ∧ (∀ m_21 : Mm, m_21 = mu mem 52 i_21 p0 → (∀ m_29 : Mm, m_29 = mu m_21 0 10 ((m_21 0 10) + 1) → (K (m_29 0 10) m_29))))) ∧ (¬ (mem 0 10) < 60 → (K (-1000000003) mem))
set_option maxRecDepth 100000 in
set_option maxHeartbeats 4000000 in
theorem w_X8_tell (X : CX) (p0 : Int32) (mem : Mm) (K : Int32 → Mm → Prop) (h : W_X8_tell p0 mem K) : CallsI X 0 M_X8_tell [.ref (cx_n X + 0), .int p0] mem K := by
  unfold W_X8_tell at h
  refine CallsC.ofP 0 (by decide) rfl (Nat.le_of_ble_eq_true rfl) ?_
  refine gc_aload_n dX8_tell_0 rfl ?_
  refine go_getI dX8_tell_1 lg_X8_61 (sz_lt (by decide)) kd_0 rfl ?_
  refine gc_bipush (v := 60) dX8_tell_4 (by decide) ?_
  refine gc_icmp_lt 12 dX8_tell_6 (by decide) (fun hc => ?_) (fun hc => ?_)
  · have h := h.1 hc
    refine gc_aload_n dX8_tell_12 rfl ?_
    refine go_getR dX8_tell_13 lg_X8_57 (sz_lt (by decide)) kd_0 rfl ?_
    refine gc_aload_n dX8_tell_16 rfl ?_
    refine go_getI dX8_tell_17 lg_X8_61 (sz_lt (by decide)) kd_0 rfl ?_
    refine gc_iload_n dX8_tell_20 rfl ?_
    obtain ⟨i_21, hx_21, hi_21, h⟩ := h
    refine go_iast_ i_21 dX8_tell_21 kd_52 hx_21 hi_21 (by decide) (fun m_21 em_21 => ?_)
    have h := h m_21 em_21
    refine gc_aload_n dX8_tell_22 rfl ?_
    refine gc_dup dX8_tell_23 rfl ?_
    refine go_getI dX8_tell_24 lg_X8_61 (sz_lt (by decide)) kd_0 rfl ?_
    refine gc_iconst (v := 1) dX8_tell_27 (by decide) ?_
    refine gc_iadd dX8_tell_28 ?_
    refine go_putI_ dX8_tell_29 lp_X8_61 (sz_lt (by decide)) kd_0 rfl (fun m_29 em_29 => ?_)
    have h := h m_29 em_29
    refine gc_aload_n dX8_tell_32 rfl ?_
    refine go_getI dX8_tell_33 lg_X8_61 (sz_lt (by decide)) kd_0 rfl ?_
    exact go_iret dX8_tell_36 rfl (Nat.le_refl _) (Nat.le_refl _) ⟨_, rfl, h⟩
  · have h := h.2 hc
    refine gc_ldc (v := (-1000000003)) dX8_tell_9 lk_X8_78 ?_
    exact go_iret dX8_tell_11 rfl (Nat.le_refl _) (Nat.le_refl _) ⟨_, rfl, h⟩
def W_X8_isTold (p0 : Int32) (p1 : Int32) (p2 : Int32) (mem : Mm) (K : Bool → Mm → Prop) : Prop := (p1 ≤ p0 → (K false mem)) ∧ (¬ p1 ≤ p0 → ((60 ≤ p0 → (K false mem)) ∧ (¬ 60 ≤ p0 → (∃ i_16 : Nat, p0 = nI i_16 ∧ i_16 < 60 ∧ ((¬ (mem 52 i_16) = p2 → (K false mem)) ∧ ((mem 52 i_16) = p2 → (K true mem)))))))
set_option maxRecDepth 100000 in
set_option maxHeartbeats 4000000 in
theorem w_X8_isTold (X : CX) (p0 : Int32) (p1 : Int32) (p2 : Int32) (mem : Mm) (K : Bool → Mm → Prop) (h : W_X8_isTold p0 p1 p2 mem K) : CallsZ X 0 M_X8_isTold [.ref (cx_n X + 0), .int p0, .int p1, .int p2] mem K := by
  unfold W_X8_isTold at h
  refine CallsC.ofP 0 (by decide) rfl (Nat.le_of_ble_eq_true rfl) ?_
  refine gc_iload_n dX8_isTold_0 rfl ?_
  refine gc_iload_n dX8_isTold_1 rfl ?_
  refine gc_icmp_ge 25 dX8_isTold_2 (by decide) (fun hc => ?_) (fun hc => ?_)
  · have h := h.1 hc
    refine gc_iconst (v := 0) dX8_isTold_25 (by decide) ?_
    exact go_zret dX8_isTold_26 rfl (by decide) (Nat.le_refl _) (Nat.le_refl _) ⟨false, rfl, h⟩
  · have h := h.2 hc
    refine gc_iload_n dX8_isTold_5 rfl ?_
    refine gc_bipush (v := 60) dX8_isTold_6 (by decide) ?_
    refine gc_icmp_ge 25 dX8_isTold_8 (by decide) (fun hc => ?_) (fun hc => ?_)
    · have h := h.1 hc
      refine gc_iconst (v := 0) dX8_isTold_25 (by decide) ?_
      exact go_zret dX8_isTold_26 rfl (by decide) (Nat.le_refl _) (Nat.le_refl _) ⟨false, rfl, h⟩
    · have h := h.2 hc
      refine gc_aload_n dX8_isTold_11 rfl ?_
      refine go_getR dX8_isTold_12 lg_X8_57 (sz_lt (by decide)) kd_0 rfl ?_
      refine gc_iload_n dX8_isTold_15 rfl ?_
      obtain ⟨i_16, hx_16, hi_16, h⟩ := h
      refine go_iald i_16 dX8_isTold_16 kd_52 hx_16 hi_16 ?_
      refine gc_iload_n dX8_isTold_17 rfl ?_
      refine gc_icmp_ne 25 dX8_isTold_18 (by decide) (fun hc => ?_) (fun hc => ?_)
      · have h := h.1 hc
        refine gc_iconst (v := 0) dX8_isTold_25 (by decide) ?_
        exact go_zret dX8_isTold_26 rfl (by decide) (Nat.le_refl _) (Nat.le_refl _) ⟨false, rfl, h⟩
      · have h := h.2 hc
        refine gc_iconst (v := 1) dX8_isTold_21 (by decide) ?_
        refine gc_goto 26 dX8_isTold_22 (by decide) ?_
        exact go_zret dX8_isTold_26 rfl (by decide) (Nat.le_refl _) (Nat.le_refl _) ⟨true, rfl, h⟩
def L_X8_check_66 (p0 : Int32) (K : Int32 → Mm → Prop) : Nat → Int32 → Int32 → Int32 → Int32 → Mm → Prop
  | 0, _, _, _, _, _ => False
  | n + 1, l2, l3, l4, l5, mem => (l3 ≤ l5 → ((l2 ≤ l4 → (K 0 mem)) ∧ (¬ l2 ≤ l4 → (K (1 + l4) mem)))) ∧ (¬ l3 ≤ l5 → (W_X0_goOnce 27 mem (fun m_76 => W_X8_isTold l4 l2 (m_76 27 2) m_76 (fun v_90 m_90 => (¬ (bZ v_90) = 0 → (W_X0_nerveOfAll 27 m_90 (fun v_112 m_112 => W_X8_isTold (l4 + 1) l2 v_112 m_112 (fun v_115 m_115 => (¬ (bZ v_115) = 0 → (L_X8_check_66 p0  K n l2 l3 ((l4 + 1) + 1) (l5 + 1) m_115)) ∧ ((bZ v_115) = 0 → (K (1 + (l4 + 1)) m_115)))))) ∧ ((bZ v_90) = 0 → (K (1 + l4) m_90))))))
set_option maxRecDepth 100000 in
set_option maxHeartbeats 4000000 in
theorem l_X8_check_66 (X : CX) (p0 : Int32)  (K : Int32 → Mm → Prop) : ∀ (n : Nat) (l2 : Int32) (l3 : Int32) (l4 : Int32) (l5 : Int32) (mem : Mm), L_X8_check_66 p0   K n l2 l3 l4 l5 mem → GoC X 18 0 0 M_X8_check 66 [some (.ref (cx_n X + 0)), none, some (.int l2), some (.int l3), some (.int l4), some (.int l5)] [] 0 0 (cellAt X mem) (sz mem) (qm X (fun r m => ∃ v : Int32, r = some (.int v) ∧ K v m))
  := by
  intro n
  induction n with
  | zero => intro l2 l3 l4 l5 mem h; exact h.elim
  | succ n ih =>
    intro l2 l3 l4 l5 mem h
    unfold L_X8_check_66 at h
    refine gc_iload dX8_check_66 rfl ?_
    refine gc_iload_n dX8_check_68 rfl ?_
    refine gc_icmp_ge 135 dX8_check_69 (by decide) (fun hc => ?_) (fun hc => ?_)
    · have h := h.1 hc
      refine gc_iload_n dX8_check_135 rfl ?_
      refine gc_iload dX8_check_136 rfl ?_
      refine gc_icmp_le 148 dX8_check_138 (by decide) (fun hc => ?_) (fun hc => ?_)
      · have h := h.1 hc
        refine gc_iconst (v := 0) dX8_check_148 (by decide) ?_
        exact go_iret dX8_check_149 rfl (Nat.le_refl _) (Nat.le_refl _) ⟨_, rfl, h⟩
      · have h := h.2 hc
        refine gc_iconst (v := 1) dX8_check_141 (by decide) ?_
        refine gc_iload dX8_check_142 rfl ?_
        refine gc_iadd dX8_check_144 ?_
        refine gc_goto 149 dX8_check_145 (by decide) ?_
        exact go_iret dX8_check_149 rfl (Nat.le_refl _) (Nat.le_refl _) ⟨_, rfl, h⟩
    · have h := h.2 hc
      refine gc_aload_n dX8_check_72 rfl ?_
      refine go_getR dX8_check_73 lg_X8_19 (sz_lt (by decide)) kd_0 rfl ?_
      refine go_cVU (y := M_X0_goOnce) (As := []) (rest := []) dX8_check_76 lm_X8_213 ok_X0_goOnce (by decide) (sz_lt (al_lt al_27)) (al_kd al_27) rfl rfl (w_X0_goOnce X 27 al_27 mem _ h) rfl (Nat.le_of_ble_eq_true rfl) (fun m_76 h => ?_)
      refine gc_aload_n dX8_check_79 rfl ?_
      refine gc_iload dX8_check_80 rfl ?_
      refine gc_iload_n dX8_check_82 rfl ?_
      refine gc_aload_n dX8_check_83 rfl ?_
      refine go_getR dX8_check_84 lg_X8_19 (sz_lt (by decide)) kd_0 rfl ?_
      refine go_getI dX8_check_87 lg_X8_137 (sz_lt (al_lt al_27)) (al_kd al_27) rfl ?_
      refine go_cVZ (y := M_X8_isTold) (As := [.int l4, .int l2, .int (m_76 27 2)]) (rest := []) dX8_check_90 lm_X8_333 ok_X8_isTold (by decide) (sz_lt (by decide)) kd_0 rfl rfl (w_X8_isTold X l4 l2 (m_76 27 2) m_76 _ h) rfl (Nat.le_of_ble_eq_true rfl) (fun v_90 m_90 h => ?_)
      refine gc_if_ne 101 dX8_check_93 (by decide) (fun hc => ?_) (fun hc => ?_)
      · have h := h.1 hc
        refine gc_iinc (v := l4 + 1) dX8_check_101 rfl rfl (by decide) ?_
        refine gc_aload_n dX8_check_104 rfl ?_
        refine gc_iload dX8_check_105 rfl ?_
        refine gc_iload_n dX8_check_107 rfl ?_
        refine gc_aload_n dX8_check_108 rfl ?_
        refine go_getR dX8_check_109 lg_X8_19 (sz_lt (by decide)) kd_0 rfl ?_
        refine go_cVI (y := M_X0_nerveOfAll) (As := []) (rest := [.int l2, .int (l4 + 1), .ref (cx_n X + 0)]) dX8_check_112 lm_X8_177 ok_X0_nerveOfAll (by decide) (sz_lt (al_lt al_27)) (al_kd al_27) rfl rfl (w_X0_nerveOfAll X 27 al_27 m_90 _ h) rfl (Nat.le_of_ble_eq_true rfl) (fun v_112 m_112 h => ?_)
        refine go_cVZ (y := M_X8_isTold) (As := [.int (l4 + 1), .int l2, .int v_112]) (rest := []) dX8_check_115 lm_X8_333 ok_X8_isTold (by decide) (sz_lt (by decide)) kd_0 rfl rfl (w_X8_isTold X (l4 + 1) l2 v_112 m_112 _ h) rfl (Nat.le_of_ble_eq_true rfl) (fun v_115 m_115 h => ?_)
        refine gc_if_ne 126 dX8_check_118 (by decide) (fun hc => ?_) (fun hc => ?_)
        · have h := h.1 hc
          refine gc_iinc (v := (l4 + 1) + 1) dX8_check_126 rfl rfl (by decide) ?_
          refine gc_iinc (v := l5 + 1) dX8_check_129 rfl rfl (by decide) ?_
          refine gc_goto 66 dX8_check_132 (by decide) ?_
          exact ih l2 l3 ((l4 + 1) + 1) (l5 + 1) m_115  h
        · have h := h.2 hc
          refine gc_iconst (v := 1) dX8_check_121 (by decide) ?_
          refine gc_iload dX8_check_122 rfl ?_
          refine gc_iadd dX8_check_124 ?_
          exact go_iret dX8_check_125 rfl (Nat.le_refl _) (Nat.le_refl _) ⟨_, rfl, h⟩
      · have h := h.2 hc
        refine gc_iconst (v := 1) dX8_check_96 (by decide) ?_
        refine gc_iload dX8_check_97 rfl ?_
        refine gc_iadd dX8_check_99 ?_
        exact go_iret dX8_check_100 rfl (Nat.le_refl _) (Nat.le_refl _) ⟨_, rfl, h⟩
def W_X8_check (p0 : Int32) (mem : Mm) (K : Int32 → Mm → Prop) : Prop := ∀ m_7 : Mm, m_7 = mu mem 0 10 0 → (W_X8_isWithin p0 1 30 m_7 (fun v_14 m_14 => (¬ (bZ v_14) = 0 → ((¬ (m_14 0 3) = 0 → (W_X0_becomeAs 27 14 m_14 (fun m_41 => ∀ y_59 : Int32, y_59 = (if (9999 - (m_41 14 5)) < p0 then (9999 - (m_41 14 5)) else p0) → (∃ nz : Nat, L_X8_check_66 p0   K nz (mem 0 10) y_59 0 0 m_41)))) ∧ ((m_14 0 3) = 0 → (K (-1000000002) m_14)))) ∧ ((bZ v_14) = 0 → (K (-1000000001) m_14))))
set_option maxRecDepth 100000 in
set_option maxHeartbeats 4000000 in
theorem w_X8_check (X : CX) (p0 : Int32) (mem : Mm) (K : Int32 → Mm → Prop) (h : W_X8_check p0 mem K) : CallsI X 18 M_X8_check [.ref (cx_n X + 0), .int p0] mem K := by
  unfold W_X8_check at h
  refine CallsC.ofP 4 (by decide) rfl (Nat.le_of_ble_eq_true rfl) ?_
  refine gc_aload_n dX8_check_0 rfl ?_
  refine go_getI dX8_check_1 lg_X8_61 (sz_lt (by decide)) kd_0 rfl ?_
  refine gc_istore_n dX8_check_4 (by decide) ?_
  refine gc_aload_n dX8_check_5 rfl ?_
  refine gc_iconst (v := 0) dX8_check_6 (by decide) ?_
  refine go_putI_ dX8_check_7 lp_X8_61 (sz_lt (by decide)) kd_0 rfl (fun m_7 em_7 => ?_)
  have h := h m_7 em_7
  refine gc_iload_n dX8_check_10 rfl ?_
  refine gc_iconst (v := 1) dX8_check_11 (by decide) ?_
  refine gc_bipush (v := 30) dX8_check_12 (by decide) ?_
  refine go_cSZ (y := M_X8_isWithin) (As := [.int p0, .int 1, .int 30]) (rest := []) dX8_check_14 lm_X8_70 ok_X8_isWithin (by decide) (w_X8_isWithin X p0 1 30 m_7 _ h) rfl (Nat.le_of_ble_eq_true rfl) (fun v_14 m_14 h => ?_)
  refine gc_if_ne 23 dX8_check_17 (by decide) (fun hc => ?_) (fun hc => ?_)
  · have h := h.1 hc
    refine gc_aload_n dX8_check_23 rfl ?_
    refine go_getI dX8_check_24 lg_X8_22 (sz_lt (by decide)) kd_0 rfl ?_
    refine gc_if_ne 33 dX8_check_27 (by decide) (fun hc => ?_) (fun hc => ?_)
    · have h := h.1 hc
      refine gc_aload_n dX8_check_33 rfl ?_
      refine go_getR dX8_check_34 lg_X8_19 (sz_lt (by decide)) kd_0 rfl ?_
      refine gc_aload_n dX8_check_37 rfl ?_
      refine go_getR dX8_check_38 lg_X8_16 (sz_lt (by decide)) kd_0 rfl ?_
      refine go_cVU (y := M_X0_becomeAs) (As := [.ref (cx_n X + 14)]) (rest := []) dX8_check_41 lm_X8_209 ok_X0_becomeAs (by decide) (sz_lt (al_lt al_27)) (al_kd al_27) rfl rfl (w_X0_becomeAs X 27 al_27 14 al_14 m_14 _ h) rfl (Nat.le_of_ble_eq_true rfl) (fun m_41 h => ?_)
      refine gc_iload_n dX8_check_44 rfl ?_
      refine gc_sipush (v := 9999) dX8_check_45 (by decide) ?_
      refine gc_aload_n dX8_check_48 rfl ?_
      refine go_getR dX8_check_49 lg_X8_16 (sz_lt (by decide)) kd_0 rfl ?_
      refine go_getI dX8_check_52 lg_X8_161 (sz_lt (al_lt al_14)) (al_kd al_14) rfl ?_
      refine gc_isub dX8_check_55 ?_
      refine gc_mmin dX8_check_56 lmm_X8_150 (by decide) (Nat.le_of_ble_eq_true rfl) (Nat.le_refl _) (Nat.le_refl _) ?_
      refine gc_name (fun y_59 ey_59 => ?_)
      have h := h y_59 ey_59
      refine gc_istore_n dX8_check_59 (by decide) ?_
      refine gc_iconst (v := 0) dX8_check_60 (by decide) ?_
      refine gc_istore dX8_check_61 (by decide) ?_
      refine gc_iconst (v := 0) dX8_check_63 (by decide) ?_
      refine gc_istore dX8_check_64 (by decide) ?_
      refine gc_forget 1 ?_
      obtain ⟨n9, h⟩ := h
      exact l_X8_check_66 X p0    K   n9 (mem 0 10) y_59 0 0 m_41  h
    · have h := h.2 hc
      refine gc_ldc (v := (-1000000002)) dX8_check_30 lk_X8_136 ?_
      exact go_iret dX8_check_32 rfl (Nat.le_refl _) (Nat.le_refl _) ⟨_, rfl, h⟩
  · have h := h.2 hc
    refine gc_ldc (v := (-1000000001)) dX8_check_20 lk_X8_74 ?_
    exact go_iret dX8_check_22 rfl (Nat.le_refl _) (Nat.le_refl _) ⟨_, rfl, h⟩
def W_X8_keep  (mem : Mm) (K : Int32 → Mm → Prop) : Prop := W_X0_becomeAs 14 1 mem (fun m_8 => ∀ m_13 : Mm, m_13 = mu m_8 0 3 1 → (K (m_13 1 1) m_13))
set_option maxRecDepth 100000 in
set_option maxHeartbeats 4000000 in
theorem w_X8_keep (X : CX)  (mem : Mm) (K : Int32 → Mm → Prop) (h : W_X8_keep  mem K) : CallsI X 2 M_X8_keep [.ref (cx_n X + 0)] mem K := by
  unfold W_X8_keep at h
  refine CallsC.ofP 0 (by decide) rfl (Nat.le_of_ble_eq_true rfl) ?_
  refine gc_aload_n dX8_keep_0 rfl ?_
  refine go_getR dX8_keep_1 lg_X8_16 (sz_lt (by decide)) kd_0 rfl ?_
  refine gc_aload_n dX8_keep_4 rfl ?_
  refine go_getR dX8_keep_5 lg_X8_10 (sz_lt (by decide)) kd_0 rfl ?_
  refine go_cVU (y := M_X0_becomeAs) (As := [.ref (cx_n X + 1)]) (rest := []) dX8_keep_8 lm_X8_209 ok_X0_becomeAs (by decide) (sz_lt (al_lt al_14)) (al_kd al_14) rfl rfl (w_X0_becomeAs X 14 al_14 1 al_1 mem _ h) rfl (Nat.le_of_ble_eq_true rfl) (fun m_8 h => ?_)
  refine gc_aload_n dX8_keep_11 rfl ?_
  refine gc_iconst (v := 1) dX8_keep_12 (by decide) ?_
  refine go_putZ_ dX8_keep_13 lp_X8_22 (sz_lt (by decide)) kd_0 rfl (by decide) (fun m_13 em_13 => ?_)
  have h := h m_13 em_13
  refine gc_aload_n dX8_keep_16 rfl ?_
  refine go_getR dX8_keep_17 lg_X8_10 (sz_lt (by decide)) kd_0 rfl ?_
  refine go_getI dX8_keep_20 lg_X8_75 (sz_lt (al_lt al_1)) (al_kd al_1) rfl ?_
  exact go_iret dX8_keep_23 rfl (Nat.le_refl _) (Nat.le_refl _) ⟨_, rfl, h⟩
def W_X8_back  (mem : Mm) (K : Int32 → Mm → Prop) : Prop := (¬ (mem 0 3) = 0 → (W_X0_becomeAs 1 14 mem (fun m_18 => K (m_18 1 1) m_18))) ∧ ((mem 0 3) = 0 → (K (-1000000002) mem))
set_option maxRecDepth 100000 in
set_option maxHeartbeats 4000000 in
theorem w_X8_back (X : CX)  (mem : Mm) (K : Int32 → Mm → Prop) (h : W_X8_back  mem K) : CallsI X 2 M_X8_back [.ref (cx_n X + 0)] mem K := by
  unfold W_X8_back at h
  refine CallsC.ofP 0 (by decide) rfl (Nat.le_of_ble_eq_true rfl) ?_
  refine gc_aload_n dX8_back_0 rfl ?_
  refine go_getI dX8_back_1 lg_X8_22 (sz_lt (by decide)) kd_0 rfl ?_
  refine gc_if_ne 10 dX8_back_4 (by decide) (fun hc => ?_) (fun hc => ?_)
  · have h := h.1 hc
    refine gc_aload_n dX8_back_10 rfl ?_
    refine go_getR dX8_back_11 lg_X8_10 (sz_lt (by decide)) kd_0 rfl ?_
    refine gc_aload_n dX8_back_14 rfl ?_
    refine go_getR dX8_back_15 lg_X8_16 (sz_lt (by decide)) kd_0 rfl ?_
    refine go_cVU (y := M_X0_becomeAs) (As := [.ref (cx_n X + 14)]) (rest := []) dX8_back_18 lm_X8_209 ok_X0_becomeAs (by decide) (sz_lt (al_lt al_1)) (al_kd al_1) rfl rfl (w_X0_becomeAs X 1 al_1 14 al_14 mem _ h) rfl (Nat.le_of_ble_eq_true rfl) (fun m_18 h => ?_)
    refine gc_aload_n dX8_back_21 rfl ?_
    refine go_getR dX8_back_22 lg_X8_10 (sz_lt (by decide)) kd_0 rfl ?_
    refine go_getI dX8_back_25 lg_X8_75 (sz_lt (al_lt al_1)) (al_kd al_1) rfl ?_
    exact go_iret dX8_back_28 rfl (Nat.le_refl _) (Nat.le_refl _) ⟨_, rfl, h⟩
  · have h := h.2 hc
    refine gc_ldc (v := (-1000000002)) dX8_back_7 lk_X8_136 ?_
    exact go_iret dX8_back_9 rfl (Nat.le_refl _) (Nat.le_refl _) ⟨_, rfl, h⟩
def W_X8_count (p0 : Int32) (mem : Mm) (K : Int32 → Mm → Prop) : Prop := (p0 = 0 → (K (mem 1 1) mem)) ∧ (¬ p0 = 0 → ((p0 = 1 → (K (mem 1 5) mem)) ∧ (¬ p0 = 1 → ((p0 = 2 → (W_X0_standing 1 mem (fun v_64 m_64 => K v_64 m_64))) ∧ (¬ p0 = 2 → ((p0 = 3 → (K (mem 1 8) mem)) ∧ (¬ p0 = 3 → ((p0 = 4 → (K (mem 0 10) mem)) ∧ (¬ p0 = 4 → ((p0 = 5 → (K (mem 46 1) mem)) ∧ (¬ p0 = 5 → ((p0 = 6 → (K (mem 1 6) mem)) ∧ (¬ p0 = 6 → (K (-1000000001) mem))))))))))))))
set_option maxRecDepth 100000 in
set_option maxHeartbeats 4000000 in
theorem w_X8_count (X : CX) (p0 : Int32) (mem : Mm) (K : Int32 → Mm → Prop) (h : W_X8_count p0 mem K) : CallsI X 2 M_X8_count [.ref (cx_n X + 0), .int p0] mem K := by
  unfold W_X8_count at h
  refine CallsC.ofP 0 (by decide) rfl (Nat.le_of_ble_eq_true rfl) ?_
  refine gc_iload_n dX8_count_0 rfl ?_
  by_cases hn0 : p0 = 0
  · have h := h.1 hn0
    refine gc_tabIn (off := 43) 44 dX8_count_1 (by rw [hn0]; decide) (by rw [hn0]; decide) (by rw [hn0]; rfl) (by decide) ?_
    refine gc_aload_n dX8_count_44 rfl ?_
    refine go_getR dX8_count_45 lg_X8_10 (sz_lt (by decide)) kd_0 rfl ?_
    refine go_getI dX8_count_48 lg_X8_75 (sz_lt (al_lt al_1)) (al_kd al_1) rfl ?_
    exact go_iret dX8_count_51 rfl (Nat.le_refl _) (Nat.le_refl _) ⟨_, rfl, h⟩
  · have h := h.2 hn0
    have hq0 := tab_ne hn0 (a := 0) (by decide)
    by_cases hn1 : p0 = 1
    · have h := h.1 hn1
      refine gc_tabIn (off := 51) 52 dX8_count_1 (by rw [hn1]; decide) (by rw [hn1]; decide) (by rw [hn1]; rfl) (by decide) ?_
      refine gc_aload_n dX8_count_52 rfl ?_
      refine go_getR dX8_count_53 lg_X8_10 (sz_lt (by decide)) kd_0 rfl ?_
      refine go_getI dX8_count_56 lg_X8_161 (sz_lt (al_lt al_1)) (al_kd al_1) rfl ?_
      exact go_iret dX8_count_59 rfl (Nat.le_refl _) (Nat.le_refl _) ⟨_, rfl, h⟩
    · have h := h.2 hn1
      have hq1 := tab_ne hn1 (a := 1) (by decide)
      by_cases hn2 : p0 = 2
      · have h := h.1 hn2
        refine gc_tabIn (off := 59) 60 dX8_count_1 (by rw [hn2]; decide) (by rw [hn2]; decide) (by rw [hn2]; rfl) (by decide) ?_
        refine gc_aload_n dX8_count_60 rfl ?_
        refine go_getR dX8_count_61 lg_X8_10 (sz_lt (by decide)) kd_0 rfl ?_
        refine go_cVI (y := M_X0_standing) (As := []) (rest := []) dX8_count_64 lm_X8_144 ok_X0_standing (by decide) (sz_lt (al_lt al_1)) (al_kd al_1) rfl rfl (w_X0_standing X 1 al_1 mem _ h) rfl (Nat.le_of_ble_eq_true rfl) (fun v_64 m_64 h => ?_)
        exact go_iret dX8_count_67 rfl (Nat.le_refl _) (Nat.le_refl _) ⟨_, rfl, h⟩
      · have h := h.2 hn2
        have hq2 := tab_ne hn2 (a := 2) (by decide)
        by_cases hn3 : p0 = 3
        · have h := h.1 hn3
          refine gc_tabIn (off := 67) 68 dX8_count_1 (by rw [hn3]; decide) (by rw [hn3]; decide) (by rw [hn3]; rfl) (by decide) ?_
          refine gc_aload_n dX8_count_68 rfl ?_
          refine go_getR dX8_count_69 lg_X8_10 (sz_lt (by decide)) kd_0 rfl ?_
          refine go_getI dX8_count_72 lg_X8_262 (sz_lt (al_lt al_1)) (al_kd al_1) rfl ?_
          exact go_iret dX8_count_75 rfl (Nat.le_refl _) (Nat.le_refl _) ⟨_, rfl, h⟩
        · have h := h.2 hn3
          have hq3 := tab_ne hn3 (a := 3) (by decide)
          by_cases hn4 : p0 = 4
          · have h := h.1 hn4
            refine gc_tabIn (off := 75) 76 dX8_count_1 (by rw [hn4]; decide) (by rw [hn4]; decide) (by rw [hn4]; rfl) (by decide) ?_
            refine gc_aload_n dX8_count_76 rfl ?_
            refine go_getI dX8_count_77 lg_X8_61 (sz_lt (by decide)) kd_0 rfl ?_
            exact go_iret dX8_count_80 rfl (Nat.le_refl _) (Nat.le_refl _) ⟨_, rfl, h⟩
          · have h := h.2 hn4
            have hq4 := tab_ne hn4 (a := 4) (by decide)
            by_cases hn5 : p0 = 5
            · have h := h.1 hn5
              refine gc_tabIn (off := 80) 81 dX8_count_1 (by rw [hn5]; decide) (by rw [hn5]; decide) (by rw [hn5]; rfl) (by decide) ?_
              refine gc_aload_n dX8_count_81 rfl ?_
              refine go_getR dX8_count_82 lg_X8_44 (sz_lt (by decide)) kd_0 rfl ?_
              refine go_getI dX8_count_85 lg_X8_253 (sz_lt (by decide)) kd_46 rfl ?_
              exact go_iret dX8_count_88 rfl (Nat.le_refl _) (Nat.le_refl _) ⟨_, rfl, h⟩
            · have h := h.2 hn5
              have hq5 := tab_ne hn5 (a := 5) (by decide)
              by_cases hn6 : p0 = 6
              · have h := h.1 hn6
                refine gc_tabIn (off := 88) 89 dX8_count_1 (by rw [hn6]; decide) (by rw [hn6]; decide) (by rw [hn6]; rfl) (by decide) ?_
                refine gc_aload_n dX8_count_89 rfl ?_
                refine go_getR dX8_count_90 lg_X8_10 (sz_lt (by decide)) kd_0 rfl ?_
                refine go_getI dX8_count_93 lg_X8_158 (sz_lt (al_lt al_1)) (al_kd al_1) rfl ?_
                exact go_iret dX8_count_96 rfl (Nat.le_refl _) (Nat.le_refl _) ⟨_, rfl, h⟩
              · have h := h.2 hn6
                have hq6 := tab_ne hn6 (a := 6) (by decide)
                refine gc_tabOut 97 dX8_count_1 (by have q := tab_out (x := p0) (lo := 0) (hi := 6) (fun j h1 h2 => by rcases (show j = 0 ∨ j = 1 ∨ j = 2 ∨ j = 3 ∨ j = 4 ∨ j = 5 ∨ j = 6 by omega) with rfl | rfl | rfl | rfl | rfl | rfl | rfl <;> assumption); exact q) (by decide) ?_
                refine gc_ldc (v := (-1000000001)) dX8_count_97 lk_X8_74 ?_
                exact go_iret dX8_count_99 rfl (Nat.le_refl _) (Nat.le_refl _) ⟨_, rfl, h⟩
