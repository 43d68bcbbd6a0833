def B_X0_hit_95 (a0 : Nat) (p0 : Int32) (p1 : Int32) (p2 : Int32) (p3 : Int32) (p4 : Int32) (rc : Int32 → Int32 → Int32 → Int32 → Int32 → Mm → (Mm → Prop) → Prop) (K : Mm → Prop) (l1 : Int32) (l2 : Int32) (l4 : Int32) (l5 : Int32) (l6 : Nat) (mem : Mm) : Prop := (l4 = (-1) → (K mem)) ∧ (¬ l4 = (-1) → (∃ i_106 : Nat, l1 = nI i_106 ∧ i_106 < 9 ∧ (W_X1_pushing l6 mem (fun v_110 m_110 => rc ((st_F 1).getD i_106 0) l2 v_110 l4 (l5 + 1) m_110 (fun m_119 => K m_119)))))
set_option maxRecDepth 100000 in
set_option maxHeartbeats 4000000 in
theorem b_X0_hit_95 (X : CX) (a0 : Nat) (p0 : Int32) (p1 : Int32) (p2 : Int32) (p3 : Int32) (p4 : Int32) (ha0 : isAl a0) (rc : Int32 → Int32 → Int32 → Int32 → Int32 → Mm → (Mm → Prop) → Prop) (K : Mm → Prop) (n : Nat) (hrc : ∀ (q0 q1 q2 q3 q4 : Int32) (mem : Mm) (K : Mm → Prop), rc q0 q1 q2 q3 q4 mem K → CallsU X (4 + n) M_X0_hit [.ref (cx_n X + a0), .int q0, .int q1, .int q2, .int q3, .int q4] mem K) (l1 : Int32) (l2 : Int32) (l4 : Int32) (l5 : Int32) (l6 : Nat) (mem : Mm) (hl6 : isMan l6) (h : B_X0_hit_95 a0 p0 p1 p2 p3 p4 rc  K l1 l2 l4 l5 l6 mem) : GoC X (4 + n + 1) 0 0 M_X0_hit 95 [some (.ref (cx_n X + a0)), some (.int l1), some (.int l2), none, some (.int l4), some (.int l5), some (.ref (cx_n X + l6))] [] 0 0 (cellAt X mem) (sz mem) (qm X (fun r m => r = none ∧ K m)) := by
  unfold B_X0_hit_95 at h
  refine gc_iload dX0_hit_95 rfl ?_
  refine gc_iconst (v := (-1)) dX0_hit_97 (by decide) ?_
  refine gc_icmp_eq 122 dX0_hit_98 (by decide) (fun hc => ?_) (fun hc => ?_)
  · have h := h.1 hc
    exact go_vret dX0_hit_122 rfl (Nat.le_refl _) (Nat.le_refl _) ⟨rfl, h⟩
  · have h := h.2 hc
    refine gc_aload_n dX0_hit_101 rfl ?_
    refine gc_gets 1 (by decide) dX0_hit_102 ls_X0_157 ?_
    refine gc_iload_n dX0_hit_105 rfl ?_
    obtain ⟨i_106, hx_106, hi_106, h⟩ := h
    refine gc_sald 1 i_106 (by decide) dX0_hit_106 hx_106 hi_106 ?_
    refine gc_iload_n dX0_hit_107 rfl ?_
    refine gc_aload dX0_hit_108 rfl ?_
    refine go_cVI (y := M_X1_pushing) (As := []) (rest := [.int l2, .int ((st_F 1).getD i_106 0), .ref (cx_n X + a0)]) dX0_hit_110 lm_X0_150 ok_X1_pushing (by omega) (sz_lt hl6.2) hl6.1 rfl rfl (w_X1_pushing X l6 hl6 mem _ h) rfl (Nat.le_of_ble_eq_true rfl) (fun v_110 m_110 h => ?_)
    refine gc_iload dX0_hit_113 rfl ?_
    refine gc_iload dX0_hit_115 rfl ?_
    refine gc_iconst (v := 1) dX0_hit_117 (by decide) ?_
    refine gc_iadd dX0_hit_118 ?_
    refine go_cVU (y := M_X0_hit) (As := [.int ((st_F 1).getD i_106 0), .int l2, .int v_110, .int l4, .int (l5 + 1)]) (rest := []) dX0_hit_119 lm_X0_153 ok_X0_hit (Nat.le_refl _) (sz_lt (al_lt ha0)) (al_kd ha0) rfl rfl (hrc ((st_F 1).getD i_106 0) l2 v_110 l4 (l5 + 1) m_110 _ h) rfl (Nat.le_of_ble_eq_true rfl) (fun m_119 h => ?_)
    exact go_vret dX0_hit_122 rfl (Nat.le_refl _) (Nat.le_refl _) ⟨rfl, h⟩
def W_X0_hit (a0 : Nat) : Nat → Int32 → Int32 → Int32 → Int32 → Int32 → Mm → (Mm → Prop) → Prop
  | 0, _, _, _, _, _, _, _ => False
  | n + 1, p0, p1, p2, p3, p4, mem, K => (9 < p4 → (K mem)) ∧ (¬ 9 < p4 → (W_X0_stands a0 p0 mem (fun v_9 m_9 => ((bZ v_9) = 0 → (K m_9)) ∧ (¬ (bZ v_9) = 0 → (W_X0_bearing a0 p0 p1 m_9 (fun v_18 m_18 => (v_18 < p2 → (∃ i_31 : Nat, p0 = nI i_31 ∧ i_31 < 9 ∧ (∀ m_37 : Mm, m_37 = mu m_18 (a0 + 4 + i_31) 5 1 → (∀ m_55 : Mm, m_55 = mu m_37 (a0 + 4 + i_31) 4 (if 9999 < ((m_37 (a0 + 4 + i_31) 4) + 1) then 9999 else ((m_37 (a0 + 4 + i_31) 4) + 1)) → (∀ m_65 : Mm, m_65 = mu m_55 a0 2 ((m_55 a0 2) + 1) → ((p3 = 1 → (B_X0_hit_95 a0 p0 p1 p2 p3 p4 (W_X0_hit a0 n)  K p0 p1 p3 p4 (a0 + 4 + i_31) m_65)) ∧ (¬ p3 = 1 → (∃ i_79 : Nat, p0 = nI i_79 ∧ i_79 < 9 ∧ (W_X1_pushing (a0 + 4 + i_31) m_65 (fun v_83 m_83 => (W_X0_hit a0 n) ((st_F 0).getD i_79 0) p1 v_83 p3 (p4 + 1) m_83 (fun m_92 => B_X0_hit_95 a0 p0 p1 p2 p3 p4 (W_X0_hit a0 n)  K p0 p1 p3 p4 (a0 + 4 + i_31) m_92))))))))))) ∧ (¬ v_18 < p2 → (K m_18))))))))
set_option maxRecDepth 100000 in
set_option maxHeartbeats 4000000 in
theorem w_X0_hit (X : CX) (a0 : Nat) (ha0 : isAl a0) : ∀ (n : Nat) (p0 p1 p2 p3 p4 : Int32) (mem : Mm) (K : Mm → Prop) (h : W_X0_hit a0 n p0 p1 p2 p3 p4 mem K), CallsU X (4 + n) M_X0_hit [.ref (cx_n X + a0), .int p0, .int p1, .int p2, .int p3, .int p4] mem K := by
  intro n
  induction n with
  | zero => intro p0 p1 p2 p3 p4 mem K h; exact h.elim
  | succ n ih =>
    intro p0 p1 p2 p3 p4 mem K h
    unfold W_X0_hit at h
    refine CallsC.ofP 1 (by decide) rfl (Nat.le_of_ble_eq_true rfl) ?_
    refine gc_iload dX0_hit_0 rfl ?_
    refine gc_bipush (v := 9) dX0_hit_2 (by decide) ?_
    refine gc_icmp_gt 25 dX0_hit_4 (by decide) (fun hc => ?_) (fun hc => ?_)
    · have h := h.1 hc
      exact go_vret dX0_hit_25 rfl (Nat.le_refl _) (Nat.le_refl _) ⟨rfl, h⟩
    · have h := h.2 hc
      refine gc_aload_n dX0_hit_7 rfl ?_
      refine gc_iload_n dX0_hit_8 rfl ?_
      refine go_cVZ (y := M_X0_stands) (As := [.int p0]) (rest := []) dX0_hit_9 lm_X0_137 ok_X0_stands (by omega) (sz_lt (al_lt ha0)) (al_kd ha0) rfl rfl (w_X0_stands X a0 ha0 p0 mem _ h) rfl (Nat.le_of_ble_eq_true rfl) (fun v_9 m_9 h => ?_)
      refine gc_if_eq 25 dX0_hit_12 (by decide) (fun hc => ?_) (fun hc => ?_)
      · have h := h.1 hc
        exact go_vret dX0_hit_25 rfl (Nat.le_refl _) (Nat.le_refl _) ⟨rfl, h⟩
      · have h := h.2 hc
        refine gc_aload_n dX0_hit_15 rfl ?_
        refine gc_iload_n dX0_hit_16 rfl ?_
        refine gc_iload_n dX0_hit_17 rfl ?_
        refine go_cVI (y := M_X0_bearing) (As := [.int p0, .int p1]) (rest := []) dX0_hit_18 lm_X0_140 ok_X0_bearing (by omega) (sz_lt (al_lt ha0)) (al_kd ha0) rfl rfl (w_X0_bearing X a0 ha0 p0 p1 m_9 _ h) rfl (Nat.le_of_ble_eq_true rfl) (fun v_18 m_18 h => ?_)
        refine gc_iload_n dX0_hit_21 rfl ?_
        refine gc_icmp_lt 26 dX0_hit_22 (by decide) (fun hc => ?_) (fun hc => ?_)
        · have h := h.1 hc
          refine gc_aload_n dX0_hit_26 rfl ?_
          refine go_getR dX0_hit_27 lg_X0_11 (sz_lt (al_lt ha0)) (al_kd ha0) rfl ?_
          refine gc_iload_n dX0_hit_30 rfl ?_
          obtain ⟨i_31, hx_31, hi_31, h⟩ := h
          refine go_men i_31 ha0 dX0_hit_31 hx_31 hi_31 ?_
          refine gc_astore dX0_hit_32 (by decide) ?_
          refine gc_aload dX0_hit_34 rfl ?_
          refine gc_iconst (v := 1) dX0_hit_36 (by decide) ?_
          refine go_putZ_ dX0_hit_37 lp_X0_71 (sz_lt (al_man ha0 hi_31).2) (al_man ha0 hi_31).1 rfl (by decide) (fun m_37 em_37 => ?_)
          have h := h m_37 em_37
          refine gc_aload dX0_hit_40 rfl ?_
          refine gc_aload dX0_hit_42 rfl ?_
          refine go_getI dX0_hit_44 lg_X0_88 (sz_lt (al_man ha0 hi_31).2) (al_man ha0 hi_31).1 rfl ?_
          refine gc_iconst (v := 1) dX0_hit_47 (by decide) ?_
          refine gc_iadd dX0_hit_48 ?_
          refine gc_sipush (v := 9999) dX0_hit_49 (by decide) ?_
          refine gc_mmin dX0_hit_52 lmm_X0_142 (by omega) (Nat.le_of_ble_eq_true rfl) (Nat.le_refl _) (Nat.le_refl _) ?_
          refine go_putI_ dX0_hit_55 lp_X0_88 (sz_lt (al_man ha0 hi_31).2) (al_man ha0 hi_31).1 rfl (fun m_55 em_55 => ?_)
          have h := h m_55 em_55
          refine gc_aload_n dX0_hit_58 rfl ?_
          refine gc_dup dX0_hit_59 rfl ?_
          refine go_getI dX0_hit_60 lg_X0_21 (sz_lt (al_lt ha0)) (al_kd ha0) rfl ?_
          refine gc_iconst (v := 1) dX0_hit_63 (by decide) ?_
          refine gc_iadd dX0_hit_64 ?_
          refine go_putI_ dX0_hit_65 lp_X0_21 (sz_lt (al_lt ha0)) (al_kd ha0) rfl (fun m_65 em_65 => ?_)
          have h := h m_65 em_65
          refine gc_iload dX0_hit_68 rfl ?_
          refine gc_iconst (v := 1) dX0_hit_70 (by decide) ?_
          refine gc_icmp_eq 95 dX0_hit_71 (by decide) (fun hc => ?_) (fun hc => ?_)
          · have h := h.1 hc
            refine gc_forget 3 ?_
            exact b_X0_hit_95 X a0 p0 p1 p2 p3 p4 ha0 (W_X0_hit a0 n)  K n ih  p0 p1 p3 p4 (a0 + 4 + i_31) m_65 (al_man ha0 hi_31) h
          · have h := h.2 hc
            refine gc_aload_n dX0_hit_74 rfl ?_
            refine gc_gets 0 (by decide) dX0_hit_75 ls_X0_147 ?_
            refine gc_iload_n dX0_hit_78 rfl ?_
            obtain ⟨i_79, hx_79, hi_79, h⟩ := h
            refine gc_sald 0 i_79 (by decide) dX0_hit_79 hx_79 hi_79 ?_
            refine gc_iload_n dX0_hit_80 rfl ?_
            refine gc_aload dX0_hit_81 rfl ?_
            refine go_cVI (y := M_X1_pushing) (As := []) (rest := [.int p1, .int ((st_F 0).getD i_79 0), .ref (cx_n X + a0)]) dX0_hit_83 lm_X0_150 ok_X1_pushing (by omega) (sz_lt (al_man ha0 hi_31).2) (al_man ha0 hi_31).1 rfl rfl (w_X1_pushing X (a0 + 4 + i_31) (al_man ha0 hi_31) m_65 _ h) rfl (Nat.le_of_ble_eq_true rfl) (fun v_83 m_83 h => ?_)
            refine gc_iload dX0_hit_86 rfl ?_
            refine gc_iload dX0_hit_88 rfl ?_
            refine gc_iconst (v := 1) dX0_hit_90 (by decide) ?_
            refine gc_iadd dX0_hit_91 ?_
            refine go_cVU (y := M_X0_hit) (As := [.int ((st_F 0).getD i_79 0), .int p1, .int v_83, .int p3, .int (p4 + 1)]) (rest := []) dX0_hit_92 lm_X0_153 ok_X0_hit (Nat.le_refl _) (sz_lt (al_lt ha0)) (al_kd ha0) rfl rfl (ih ((st_F 0).getD i_79 0) p1 v_83 p3 (p4 + 1) m_83 _ h) rfl (Nat.le_of_ble_eq_true rfl) (fun m_92 h => ?_)
            refine gc_forget 3 ?_
            exact b_X0_hit_95 X a0 p0 p1 p2 p3 p4 ha0 (W_X0_hit a0 n)  K n ih  p0 p1 p3 p4 (a0 + 4 + i_31) m_92 (al_man ha0 hi_31) h
        · have h := h.2 hc
          exact go_vret dX0_hit_25 rfl (Nat.le_refl _) (Nat.le_refl _) ⟨rfl, h⟩
def W_X8_says (p0 : Int32) (p1 : Int32) (p2 : Int32) (p3 : Int32) (mem : Mm) (K : Int32 → Mm → Prop) : Prop := W_X0_has 1 p0 mem (fun v_5 m_5 => ((bZ v_5) = 0 → (K (-1000000001) m_5)) ∧ (¬ (bZ v_5) = 0 → (W_X8_isWithin p1 0 7 m_5 (fun v_15 m_15 => ((bZ v_15) = 0 → (K (-1000000001) m_15)) ∧ (¬ (bZ v_15) = 0 → (W_X8_isWithin p2 0 99 m_15 (fun v_25 m_25 => ((bZ v_25) = 0 → (K (-1000000001) m_25)) ∧ (¬ (bZ v_25) = 0 → (W_X8_isWithin p3 (-1) 1 m_25 (fun v_35 m_35 => (¬ (bZ v_35) = 0 → (W_X0_stands 1 p0 m_35 (fun v_49 m_49 => (¬ (bZ v_49) = 0 → (W_X0_hit 1 12 p0 p1 p2 p3 0 m_49 (fun m_77 => K ((m_77 1 2) - (m_49 1 2)) m_77))) ∧ ((bZ v_49) = 0 → (K (-1000000002) m_49))))) ∧ ((bZ v_35) = 0 → (K (-1000000001) m_35))))))))))))
set_option maxRecDepth 100000 in
set_option maxHeartbeats 4000000 in
theorem w_X8_says (X : CX) (p0 : Int32) (p1 : Int32) (p2 : Int32) (p3 : Int32) (mem : Mm) (K : Int32 → Mm → Prop) (h : W_X8_says p0 p1 p2 p3 mem K) : CallsI X 17 M_X8_says [.ref (cx_n X + 0), .int p0, .int p1, .int p2, .int p3] mem K := by
  unfold W_X8_says at h
  refine CallsC.ofP 1 (by decide) rfl (Nat.le_of_ble_eq_true rfl) ?_
  refine gc_aload_n dX8_says_0 rfl ?_
  refine go_getR dX8_says_1 lg_X8_10 (sz_lt (by decide)) kd_0 rfl ?_
  refine gc_iload_n dX8_says_4 rfl ?_
  refine go_cVZ (y := M_X0_has) (As := [.int p0]) (rest := []) dX8_says_5 lm_X8_83 ok_X0_has (by decide) (sz_lt (al_lt al_1)) (al_kd al_1) rfl rfl (w_X0_has X 1 al_1 p0 mem _ h) rfl (Nat.le_of_ble_eq_true rfl) (fun v_5 m_5 h => ?_)
  refine gc_if_eq 41 dX8_says_8 (by decide) (fun hc => ?_) (fun hc => ?_)
  · have h := h.1 hc
    refine gc_ldc (v := (-1000000001)) dX8_says_41 lk_X8_74 ?_
    exact go_iret dX8_says_43 rfl (Nat.le_refl _) (Nat.le_refl _) ⟨_, rfl, h⟩
  · have h := h.2 hc
    refine gc_iload_n dX8_says_11 rfl ?_
    refine gc_iconst (v := 0) dX8_says_12 (by decide) ?_
    refine gc_bipush (v := 7) dX8_says_13 (by decide) ?_
    refine go_cSZ (y := M_X8_isWithin) (As := [.int p1, .int 0, .int 7]) (rest := []) dX8_says_15 lm_X8_70 ok_X8_isWithin (by decide) (w_X8_isWithin X p1 0 7 m_5 _ h) rfl (Nat.le_of_ble_eq_true rfl) (fun v_15 m_15 h => ?_)
    refine gc_if_eq 41 dX8_says_18 (by decide) (fun hc => ?_) (fun hc => ?_)
    · have h := h.1 hc
      refine gc_ldc (v := (-1000000001)) dX8_says_41 lk_X8_74 ?_
      exact go_iret dX8_says_43 rfl (Nat.le_refl _) (Nat.le_refl _) ⟨_, rfl, h⟩
    · have h := h.2 hc
      refine gc_iload_n dX8_says_21 rfl ?_
      refine gc_iconst (v := 0) dX8_says_22 (by decide) ?_
      refine gc_bipush (v := 99) dX8_says_23 (by decide) ?_
      refine go_cSZ (y := M_X8_isWithin) (As := [.int p2, .int 0, .int 99]) (rest := []) dX8_says_25 lm_X8_70 ok_X8_isWithin (by decide) (w_X8_isWithin X p2 0 99 m_15 _ h) rfl (Nat.le_of_ble_eq_true rfl) (fun v_25 m_25 h => ?_)
      refine gc_if_eq 41 dX8_says_28 (by decide) (fun hc => ?_) (fun hc => ?_)
      · have h := h.1 hc
        refine gc_ldc (v := (-1000000001)) dX8_says_41 lk_X8_74 ?_
        exact go_iret dX8_says_43 rfl (Nat.le_refl _) (Nat.le_refl _) ⟨_, rfl, h⟩
      · have h := h.2 hc
        refine gc_iload dX8_says_31 rfl ?_
        refine gc_iconst (v := (-1)) dX8_says_33 (by decide) ?_
        refine gc_iconst (v := 1) dX8_says_34 (by decide) ?_
        refine go_cSZ (y := M_X8_isWithin) (As := [.int p3, .int (-1), .int 1]) (rest := []) dX8_says_35 lm_X8_70 ok_X8_isWithin (by decide) (w_X8_isWithin X p3 (-1) 1 m_25 _ h) rfl (Nat.le_of_ble_eq_true rfl) (fun v_35 m_35 h => ?_)
        refine gc_if_ne 44 dX8_says_38 (by decide) (fun hc => ?_) (fun hc => ?_)
        · have h := h.1 hc
          refine gc_aload_n dX8_says_44 rfl ?_
          refine go_getR dX8_says_45 lg_X8_10 (sz_lt (by decide)) kd_0 rfl ?_
          refine gc_iload_n dX8_says_48 rfl ?_
          refine go_cVZ (y := M_X0_stands) (As := [.int p0]) (rest := []) dX8_says_49 lm_X8_133 ok_X0_stands (by decide) (sz_lt (al_lt al_1)) (al_kd al_1) rfl rfl (w_X0_stands X 1 al_1 p0 m_35 _ h) rfl (Nat.le_of_ble_eq_true rfl) (fun v_49 m_49 h => ?_)
          refine gc_if_ne 58 dX8_says_52 (by decide) (fun hc => ?_) (fun hc => ?_)
          · have h := h.1 hc
            refine gc_aload_n dX8_says_58 rfl ?_
            refine go_getR dX8_says_59 lg_X8_10 (sz_lt (by decide)) kd_0 rfl ?_
            refine go_getI dX8_says_62 lg_X8_137 (sz_lt (al_lt al_1)) (al_kd al_1) rfl ?_
            refine gc_istore dX8_says_65 (by decide) ?_
            refine gc_aload_n dX8_says_67 rfl ?_
            refine go_getR dX8_says_68 lg_X8_10 (sz_lt (by decide)) kd_0 rfl ?_
            refine gc_iload_n dX8_says_71 rfl ?_
            refine gc_iload_n dX8_says_72 rfl ?_
            refine gc_iload_n dX8_says_73 rfl ?_
            refine gc_iload dX8_says_74 rfl ?_
            refine gc_iconst (v := 0) dX8_says_76 (by decide) ?_
            refine go_cVU (y := M_X0_hit) (As := [.int p0, .int p1, .int p2, .int p3, .int 0]) (rest := []) dX8_says_77 lm_X8_140 ok_X0_hit (by decide) (sz_lt (al_lt al_1)) (al_kd al_1) rfl rfl (w_X0_hit X 1 al_1 12 p0 p1 p2 p3 0 m_49 _ h) rfl (Nat.le_of_ble_eq_true rfl) (fun m_77 h => ?_)
            refine gc_aload_n dX8_says_80 rfl ?_
            refine go_getR dX8_says_81 lg_X8_10 (sz_lt (by decide)) kd_0 rfl ?_
            refine go_getI dX8_says_84 lg_X8_137 (sz_lt (al_lt al_1)) (al_kd al_1) rfl ?_
            refine gc_iload dX8_says_87 rfl ?_
            refine gc_isub dX8_says_89 ?_
            exact go_iret dX8_says_90 rfl (Nat.le_refl _) (Nat.le_refl _) ⟨_, rfl, h⟩
          · have h := h.2 hc
            refine gc_ldc (v := (-1000000002)) dX8_says_55 lk_X8_136 ?_
            exact go_iret dX8_says_57 rfl (Nat.le_refl _) (Nat.le_refl _) ⟨_, rfl, h⟩
        · have h := h.2 hc
          refine gc_ldc (v := (-1000000001)) dX8_says_41 lk_X8_74 ?_
          exact go_iret dX8_says_43 rfl (Nat.le_refl _) (Nat.le_refl _) ⟨_, rfl, h⟩
def L_X0_setUp_2 (a0 : Nat) (K : Mm → Prop) : Nat → Int32 → Mm → Prop
  | 0, _, _ => False
  | n + 1, l1, mem => ((mem a0 1) ≤ l1 → (∀ m_28 : Mm, m_28 = mu mem a0 4 0 → (∀ m_38 : Mm, m_38 = mu m_28 a0 3 ((m_28 a0 3) + 1) → (K m_38)))) ∧ (¬ (mem a0 1) ≤ l1 → (∃ i_15 : Nat, l1 = nI i_15 ∧ i_15 < 9 ∧ (∀ m_17 : Mm, m_17 = mu mem (a0 + 4 + i_15) 5 0 → (L_X0_setUp_2 a0  K n (l1 + 1) m_17))))
set_option maxRecDepth 100000 in
set_option maxHeartbeats 4000000 in
theorem l_X0_setUp_2 (X : CX) (a0 : Nat) (ha0 : isAl a0) (K : Mm → Prop) : ∀ (n : Nat) (l1 : Int32) (mem : Mm), L_X0_setUp_2 a0   K n l1 mem → GoC X 0 0 0 M_X0_setUp 2 [some (.ref (cx_n X + a0)), some (.int l1)] [] 0 0 (cellAt X mem) (sz mem) (qm X (fun r m => r = none ∧ K m))
  := by
  intro n
  induction n with
  | zero => intro l1 mem h; exact h.elim
  | succ n ih =>
    intro l1 mem h
    unfold L_X0_setUp_2 at h
    refine gc_iload_n dX0_setUp_2 rfl ?_
    refine gc_aload_n dX0_setUp_3 rfl ?_
    refine go_getI dX0_setUp_4 lg_X0_17 (sz_lt (al_lt ha0)) (al_kd ha0) rfl ?_
    refine gc_icmp_ge 26 dX0_setUp_7 (by decide) (fun hc => ?_) (fun hc => ?_)
    · have h := h.1 hc
      refine gc_aload_n dX0_setUp_26 rfl ?_
      refine gc_iconst (v := 0) dX0_setUp_27 (by decide) ?_
      refine go_putI_ dX0_setUp_28 lp_X0_27 (sz_lt (al_lt ha0)) (al_kd ha0) rfl (fun m_28 em_28 => ?_)
      have h := h m_28 em_28
      refine gc_aload_n dX0_setUp_31 rfl ?_
      refine gc_dup dX0_setUp_32 rfl ?_
      refine go_getI dX0_setUp_33 lg_X0_24 (sz_lt (al_lt ha0)) (al_kd ha0) rfl ?_
      refine gc_iconst (v := 1) dX0_setUp_36 (by decide) ?_
      refine gc_iadd dX0_setUp_37 ?_
      refine go_putI_ dX0_setUp_38 lp_X0_24 (sz_lt (al_lt ha0)) (al_kd ha0) rfl (fun m_38 em_38 => ?_)
      have h := h m_38 em_38
      exact go_vret dX0_setUp_41 rfl (Nat.le_refl _) (Nat.le_refl _) ⟨rfl, h⟩
    · have h := h.2 hc
      refine gc_aload_n dX0_setUp_10 rfl ?_
      refine go_getR dX0_setUp_11 lg_X0_11 (sz_lt (al_lt ha0)) (al_kd ha0) rfl ?_
      refine gc_iload_n dX0_setUp_14 rfl ?_
      obtain ⟨i_15, hx_15, hi_15, h⟩ := h
      refine go_men i_15 ha0 dX0_setUp_15 hx_15 hi_15 ?_
      refine gc_iconst (v := 0) dX0_setUp_16 (by decide) ?_
      refine go_putZ_ dX0_setUp_17 lp_X0_71 (sz_lt (al_man ha0 hi_15).2) (al_man ha0 hi_15).1 rfl (by decide) (fun m_17 em_17 => ?_)
      have h := h m_17 em_17
      refine gc_iinc (v := l1 + 1) dX0_setUp_20 rfl rfl (by decide) ?_
      refine gc_goto 2 dX0_setUp_23 (by decide) ?_
      exact ih (l1 + 1) m_17  h
def W_X0_setUp (a0 : Nat) (mem : Mm) (K : Mm → Prop) : Prop := ∃ nz : Nat, L_X0_setUp_2 a0   K nz 0 mem
set_option maxRecDepth 100000 in
set_option maxHeartbeats 4000000 in
theorem w_X0_setUp (X : CX) (a0 : Nat) (ha0 : isAl a0) (mem : Mm) (K : Mm → Prop) (h : W_X0_setUp a0 mem K) : CallsU X 0 M_X0_setUp [.ref (cx_n X + a0)] mem K := by
  unfold W_X0_setUp at h
  refine CallsC.ofP 1 (by decide) rfl (Nat.le_of_ble_eq_true rfl) ?_
  refine gc_iconst (v := 0) dX0_setUp_0 (by decide) ?_
  refine gc_istore_n dX0_setUp_1 (by decide) ?_
  obtain ⟨n9, h⟩ := h
  exact l_X0_setUp_2 X a0 ha0   K   n9 0 mem  h
def W_X8_sets  (mem : Mm) (K : Int32 → Mm → Prop) : Prop := W_X0_standing 1 mem (fun v_11 m_11 => W_X0_setUp 1 m_11 (fun m_20 => K ((mem 1 1) - v_11) m_20))
set_option maxRecDepth 100000 in
set_option maxHeartbeats 4000000 in
theorem w_X8_sets (X : CX)  (mem : Mm) (K : Int32 → Mm → Prop) (h : W_X8_sets  mem K) : CallsI X 2 M_X8_sets [.ref (cx_n X + 0)] mem K := by
  unfold W_X8_sets at h
  refine CallsC.ofP 1 (by decide) rfl (Nat.le_of_ble_eq_true rfl) ?_
  refine gc_aload_n dX8_sets_0 rfl ?_
  refine go_getR dX8_sets_1 lg_X8_10 (sz_lt (by decide)) kd_0 rfl ?_
  refine go_getI dX8_sets_4 lg_X8_75 (sz_lt (al_lt al_1)) (al_kd al_1) rfl ?_
  refine gc_aload_n dX8_sets_7 rfl ?_
  refine go_getR dX8_sets_8 lg_X8_10 (sz_lt (by decide)) kd_0 rfl ?_
  refine go_cVI (y := M_X0_standing) (As := []) (rest := [.int (mem 1 1)]) dX8_sets_11 lm_X8_144 ok_X0_standing (by decide) (sz_lt (al_lt al_1)) (al_kd al_1) rfl rfl (w_X0_standing X 1 al_1 mem _ h) rfl (Nat.le_of_ble_eq_true rfl) (fun v_11 m_11 h => ?_)
  refine gc_isub dX8_sets_14 ?_
  refine gc_istore_n dX8_sets_15 (by decide) ?_
  refine gc_aload_n dX8_sets_16 rfl ?_
  refine go_getR dX8_sets_17 lg_X8_10 (sz_lt (by decide)) kd_0 rfl ?_
  refine go_cVU (y := M_X0_setUp) (As := []) (rest := []) dX8_sets_20 lm_X8_147 ok_X0_setUp (by decide) (sz_lt (al_lt al_1)) (al_kd al_1) rfl rfl (w_X0_setUp X 1 al_1 m_11 _ h) rfl (Nat.le_of_ble_eq_true rfl) (fun m_20 h => ?_)
  refine gc_iload_n dX8_sets_23 rfl ?_
  exact go_iret dX8_sets_24 rfl (Nat.le_refl _) (Nat.le_refl _) ⟨_, rfl, h⟩
def W_X0_draw (a0 : Nat) (mem : Mm) (K : Int32 → Mm → Prop) : Prop := ∀ m_12 : Mm, m_12 = mu mem a0 6 (((mem a0 6) * 1103515245) + 12345) → (K (((m_12 a0 6).toUInt32 >>> (Int32.toUInt32 8 &&& Int32.toUInt32 31)).toInt32) m_12)
set_option maxRecDepth 100000 in
set_option maxHeartbeats 4000000 in
theorem w_X0_draw (X : CX) (a0 : Nat) (ha0 : isAl a0) (mem : Mm) (K : Int32 → Mm → Prop) (h : W_X0_draw a0 mem K) : CallsI X 0 M_X0_draw [.ref (cx_n X + a0)] mem K := by
  unfold W_X0_draw at h
  refine CallsC.ofP 0 (by decide) rfl (Nat.le_of_ble_eq_true rfl) ?_
  refine gc_aload_n dX0_draw_0 rfl ?_
  refine gc_aload_n dX0_draw_1 rfl ?_
  refine go_getI dX0_draw_2 lg_X0_33 (sz_lt (al_lt ha0)) (al_kd ha0) rfl ?_
  refine gc_ldc (v := 1103515245) dX0_draw_5 lk_X0_91 ?_
  refine gc_imul dX0_draw_7 ?_
  refine gc_sipush (v := 12345) dX0_draw_8 (by decide) ?_
  refine gc_iadd dX0_draw_11 ?_
  refine go_putI_ dX0_draw_12 lp_X0_33 (sz_lt (al_lt ha0)) (al_kd ha0) rfl (fun m_12 em_12 => ?_)
  have h := h m_12 em_12
  refine gc_aload_n dX0_draw_15 rfl ?_
  refine go_getI dX0_draw_16 lg_X0_33 (sz_lt (al_lt ha0)) (al_kd ha0) rfl ?_
  refine gc_bipush (v := 8) dX0_draw_19 (by decide) ?_
  refine gc_iushr dX0_draw_21 ?_
  exact go_iret dX0_draw_22 rfl (Nat.le_refl _) (Nat.le_refl _) ⟨_, rfl, h⟩
def W_X0_takeByLot (a0 : Nat) (mem : Mm) (K : Mm → Prop) : Prop := W_X0_draw a0 mem (fun v_1 m_1 => W_X0_draw a0 m_1 (fun v_9 m_9 => W_X0_draw a0 m_9 (fun v_17 m_17 => W_X0_draw a0 m_17 (fun v_29 m_29 => W_X0_take a0 (v_1 - v_1 / 6 * 6) (v_9 - v_9 / 100 * 100) (v_17 - v_17 / 100 * 100) (v_29 - v_29 / 8 * 8) m_29 (fun v_35 m_35 => K m_35)))))
set_option maxRecDepth 100000 in
set_option maxHeartbeats 4000000 in
theorem w_X0_takeByLot (X : CX) (a0 : Nat) (ha0 : isAl a0) (mem : Mm) (K : Mm → Prop) (h : W_X0_takeByLot a0 mem K) : CallsU X 1 M_X0_takeByLot [.ref (cx_n X + a0)] mem K := by
  unfold W_X0_takeByLot at h
  refine CallsC.ofP 3 (by decide) rfl (Nat.le_of_ble_eq_true rfl) ?_
  refine gc_aload_n dX0_takeByLot_0 rfl ?_
  refine go_cVI (y := M_X0_draw) (As := []) (rest := []) dX0_takeByLot_1 lm_X0_92 ok_X0_draw (by decide) (sz_lt (al_lt ha0)) (al_kd ha0) rfl rfl (w_X0_draw X a0 ha0 mem _ h) rfl (Nat.le_of_ble_eq_true rfl) (fun v_1 m_1 h => ?_)
  refine gc_bipush (v := 6) dX0_takeByLot_4 (by decide) ?_
  refine gc_irem dX0_takeByLot_6 (by decide) ?_
  refine gc_istore_n dX0_takeByLot_7 (by decide) ?_
  refine gc_aload_n dX0_takeByLot_8 rfl ?_
  refine go_cVI (y := M_X0_draw) (As := []) (rest := []) dX0_takeByLot_9 lm_X0_92 ok_X0_draw (by decide) (sz_lt (al_lt ha0)) (al_kd ha0) rfl rfl (w_X0_draw X a0 ha0 m_1 _ h) rfl (Nat.le_of_ble_eq_true rfl) (fun v_9 m_9 h => ?_)
  refine gc_bipush (v := 100) dX0_takeByLot_12 (by decide) ?_
  refine gc_irem dX0_takeByLot_14 (by decide) ?_
  refine gc_istore_n dX0_takeByLot_15 (by decide) ?_
  refine gc_aload_n dX0_takeByLot_16 rfl ?_
  refine go_cVI (y := M_X0_draw) (As := []) (rest := []) dX0_takeByLot_17 lm_X0_92 ok_X0_draw (by decide) (sz_lt (al_lt ha0)) (al_kd ha0) rfl rfl (w_X0_draw X a0 ha0 m_9 _ h) rfl (Nat.le_of_ble_eq_true rfl) (fun v_17 m_17 h => ?_)
  refine gc_bipush (v := 100) dX0_takeByLot_20 (by decide) ?_
  refine gc_irem dX0_takeByLot_22 (by decide) ?_
  refine gc_istore_n dX0_takeByLot_23 (by decide) ?_
  refine gc_aload_n dX0_takeByLot_24 rfl ?_
  refine gc_iload_n dX0_takeByLot_25 rfl ?_
  refine gc_iload_n dX0_takeByLot_26 rfl ?_
  refine gc_iload_n dX0_takeByLot_27 rfl ?_
  refine gc_aload_n dX0_takeByLot_28 rfl ?_
  refine go_cVI (y := M_X0_draw) (As := []) (rest := [.int (v_17 - v_17 / 100 * 100), .int (v_9 - v_9 / 100 * 100), .int (v_1 - v_1 / 6 * 6), .ref (cx_n X + a0)]) dX0_takeByLot_29 lm_X0_92 ok_X0_draw (by decide) (sz_lt (al_lt ha0)) (al_kd ha0) rfl rfl (w_X0_draw X a0 ha0 m_17 _ h) rfl (Nat.le_of_ble_eq_true rfl) (fun v_29 m_29 h => ?_)
  refine gc_bipush (v := 8) dX0_takeByLot_32 (by decide) ?_
  refine gc_irem dX0_takeByLot_34 (by decide) ?_
  refine go_cVI (y := M_X0_take) (As := [.int (v_1 - v_1 / 6 * 6), .int (v_9 - v_9 / 100 * 100), .int (v_17 - v_17 / 100 * 100), .int (v_29 - v_29 / 8 * 8)]) (rest := []) dX0_takeByLot_35 lm_X0_95 ok_X0_take (by decide) (sz_lt (al_lt ha0)) (al_kd ha0) rfl rfl (w_X0_take X a0 ha0 (v_1 - v_1 / 6 * 6) (v_9 - v_9 / 100 * 100) (v_17 - v_17 / 100 * 100) (v_29 - v_29 / 8 * 8) m_29 _ h) rfl (Nat.le_of_ble_eq_true rfl) (fun v_35 m_35 h => ?_)
  refine gc_pop dX0_takeByLot_38 rfl ?_
  exact go_vret dX0_takeByLot_39 rfl (Nat.le_refl _) (Nat.le_refl _) ⟨rfl, h⟩
def L_X8_deal_30 (p0 : Int32) (K : Int32 → Mm → Prop) : Nat → Int32 → Int32 → Mm → Prop
  | 0, _, _, _ => False
  | n + 1, l2, l3, mem => (l2 ≤ l3 → (K l2 mem)) ∧ (¬ l2 ≤ l3 → (W_X0_takeByLot 1 mem (fun m_39 => L_X8_deal_30 p0  K n l2 (l3 + 1) m_39)))
set_option maxRecDepth 100000 in
set_option maxHeartbeats 4000000 in
theorem l_X8_deal_30 (X : CX) (p0 : Int32)  (K : Int32 → Mm → Prop) : ∀ (n : Nat) (l2 : Int32) (l3 : Int32) (mem : Mm), L_X8_deal_30 p0   K n l2 l3 mem → GoC X 2 0 0 M_X8_deal 30 [some (.ref (cx_n X + 0)), none, some (.int l2), some (.int l3)] [] 0 0 (cellAt X mem) (sz mem) (qm X (fun r m => ∃ v : Int32, r = some (.int v) ∧ K v m))
  := by
  intro n
  induction n with
  | zero => intro l2 l3 mem h; exact h.elim
  | succ n ih =>
    intro l2 l3 mem h
    unfold L_X8_deal_30 at h
    refine gc_iload_n dX8_deal_30 rfl ?_
    refine gc_iload_n dX8_deal_31 rfl ?_
    refine gc_icmp_ge 48 dX8_deal_32 (by decide) (fun hc => ?_) (fun hc => ?_)
    · have h := h.1 hc
      refine gc_iload_n dX8_deal_48 rfl ?_
      exact go_iret dX8_deal_49 rfl (Nat.le_refl _) (Nat.le_refl _) ⟨_, rfl, h⟩
    · have h := h.2 hc
      refine gc_aload_n dX8_deal_35 rfl ?_
      refine go_getR dX8_deal_36 lg_X8_10 (sz_lt (by decide)) kd_0 rfl ?_
      refine go_cVU (y := M_X0_takeByLot) (As := []) (rest := []) dX8_deal_39 lm_X8_155 ok_X0_takeByLot (by decide) (sz_lt (al_lt al_1)) (al_kd al_1) rfl rfl (w_X0_takeByLot X 1 al_1 mem _ h) rfl (Nat.le_of_ble_eq_true rfl) (fun m_39 h => ?_)
      refine gc_iinc (v := l3 + 1) dX8_deal_42 rfl rfl (by decide) ?_
      refine gc_goto 30 dX8_deal_45 (by decide) ?_
      exact ih l2 (l3 + 1) m_39  h
def W_X8_deal (p0 : Int32) (mem : Mm) (K : Int32 → Mm → Prop) : Prop := W_X8_isWithin p0 1 9 mem (fun v_4 m_4 => (¬ (bZ v_4) = 0 → (∀ y_27 : Int32, y_27 = (if (9 - (m_4 1 1)) < p0 then (9 - (m_4 1 1)) else p0) → (∃ nz : Nat, L_X8_deal_30 p0   K nz y_27 0 m_4))) ∧ ((bZ v_4) = 0 → (K (-1000000001) m_4)))
set_option maxRecDepth 100000 in
set_option maxHeartbeats 4000000 in
theorem w_X8_deal (X : CX) (p0 : Int32) (mem : Mm) (K : Int32 → Mm → Prop) (h : W_X8_deal p0 mem K) : CallsI X 2 M_X8_deal [.ref (cx_n X + 0), .int p0] mem K := by
  unfold W_X8_deal at h
  refine CallsC.ofP 2 (by decide) rfl (Nat.le_of_ble_eq_true rfl) ?_
  refine gc_iload_n dX8_deal_0 rfl ?_
  refine gc_iconst (v := 1) dX8_deal_1 (by decide) ?_
  refine gc_bipush (v := 9) dX8_deal_2 (by decide) ?_
  refine go_cSZ (y := M_X8_isWithin) (As := [.int p0, .int 1, .int 9]) (rest := []) dX8_deal_4 lm_X8_70 ok_X8_isWithin (by decide) (w_X8_isWithin X p0 1 9 mem _ h) rfl (Nat.le_of_ble_eq_true rfl) (fun v_4 m_4 h => ?_)
  refine gc_if_ne 13 dX8_deal_7 (by decide) (fun hc => ?_) (fun hc => ?_)
  · have h := h.1 hc
    refine gc_iload_n dX8_deal_13 rfl ?_
    refine gc_bipush (v := 9) dX8_deal_14 (by decide) ?_
    refine gc_aload_n dX8_deal_16 rfl ?_
    refine go_getR dX8_deal_17 lg_X8_10 (sz_lt (by decide)) kd_0 rfl ?_
    refine go_getI dX8_deal_20 lg_X8_75 (sz_lt (al_lt al_1)) (al_kd al_1) rfl ?_
    refine gc_isub dX8_deal_23 ?_
    refine gc_mmin dX8_deal_24 lmm_X8_150 (by decide) (Nat.le_of_ble_eq_true rfl) (Nat.le_refl _) (Nat.le_refl _) ?_
    refine gc_name (fun y_27 ey_27 => ?_)
    have h := h y_27 ey_27
    refine gc_istore_n dX8_deal_27 (by decide) ?_
    refine gc_iconst (v := 0) dX8_deal_28 (by decide) ?_
    refine gc_istore_n dX8_deal_29 (by decide) ?_
    refine gc_forget 1 ?_
    obtain ⟨n9, h⟩ := h
    exact l_X8_deal_30 X p0    K   n9 y_27 0 m_4  h
  · have h := h.2 hc
    refine gc_ldc (v := (-1000000001)) dX8_deal_10 lk_X8_74 ?_
    exact go_iret dX8_deal_12 rfl (Nat.le_refl _) (Nat.le_refl _) ⟨_, rfl, h⟩
def W_X8_seed (p0 : Int32) (mem : Mm) (K : Int32 → Mm → Prop) : Prop := ∀ m_13 : Mm, m_13 = mu mem 1 6 p0 → (K (mem 1 6) m_13)
set_option maxRecDepth 100000 in
set_option maxHeartbeats 4000000 in
theorem w_X8_seed (X : CX) (p0 : Int32) (mem : Mm) (K : Int32 → Mm → Prop) (h : W_X8_seed p0 mem K) : CallsI X 0 M_X8_seed [.ref (cx_n X + 0), .int p0] mem K := by
  unfold W_X8_seed at h
  refine CallsC.ofP 1 (by decide) rfl (Nat.le_of_ble_eq_true rfl) ?_
  refine gc_aload_n dX8_seed_0 rfl ?_
  refine go_getR dX8_seed_1 lg_X8_10 (sz_lt (by decide)) kd_0 rfl ?_
  refine go_getI dX8_seed_4 lg_X8_158 (sz_lt (al_lt al_1)) (al_kd al_1) rfl ?_
  refine gc_istore_n dX8_seed_7 (by decide) ?_
  refine gc_aload_n dX8_seed_8 rfl ?_
  refine go_getR dX8_seed_9 lg_X8_10 (sz_lt (by decide)) kd_0 rfl ?_
  refine gc_iload_n dX8_seed_12 rfl ?_
  refine go_putI_ dX8_seed_13 lp_X8_158 (sz_lt (al_lt al_1)) (al_kd al_1) rfl (fun m_13 em_13 => ?_)
  have h := h m_13 em_13
  refine gc_iload_n dX8_seed_16 rfl ?_
  exact go_iret dX8_seed_17 rfl (Nat.le_refl _) (Nat.le_refl _) ⟨_, rfl, h⟩
def L_X0_firstStandingFrom_2 (a0 : Nat) (p0 : Int32) (K : Int32 → Mm → Prop) : Nat → Int32 → Int32 → Mm → Prop
  | 0, _, _, _ => False
  | n + 1, l1, l2, mem => ((mem a0 1) ≤ l2 → (K (-1) mem)) ∧ (¬ (mem a0 1) ≤ l2 → (¬ (mem a0 1) = 0 ∧ (∀ y_18 : Int32, y_18 = (l1 + l2) - (l1 + l2) / (mem a0 1) * (mem a0 1) → (W_X0_stands a0 y_18 mem (fun v_21 m_21 => ((bZ v_21) = 0 → (L_X0_firstStandingFrom_2 a0 p0  K n l1 (l2 + 1) m_21)) ∧ (¬ (bZ v_21) = 0 → (K y_18 m_21)))))))
set_option maxRecDepth 100000 in
set_option maxHeartbeats 4000000 in
theorem l_X0_firstStandingFrom_2 (X : CX) (a0 : Nat) (p0 : Int32) (ha0 : isAl a0) (K : Int32 → Mm → Prop) : ∀ (n : Nat) (l1 : Int32) (l2 : Int32) (mem : Mm), L_X0_firstStandingFrom_2 a0 p0   K n l1 l2 mem → GoC X 2 0 0 M_X0_firstStandingFrom 2 [some (.ref (cx_n X + a0)), some (.int l1), some (.int l2), none] [] 0 0 (cellAt X mem) (sz mem) (qm X (fun r m => ∃ v : Int32, r = some (.int v) ∧ K v m))
  := by
  intro n
  induction n with
  | zero => intro l1 l2 mem h; exact h.elim
  | succ n ih =>
    intro l1 l2 mem h
    unfold L_X0_firstStandingFrom_2 at h
    refine gc_iload_n dX0_firstStandingFrom_2 rfl ?_
    refine gc_aload_n dX0_firstStandingFrom_3 rfl ?_
    refine go_getI dX0_firstStandingFrom_4 lg_X0_17 (sz_lt (al_lt ha0)) (al_kd ha0) rfl ?_
    refine gc_icmp_ge 35 dX0_firstStandingFrom_7 (by decide) (fun hc => ?_) (fun hc => ?_)
    · have h := h.1 hc
      refine gc_iconst (v := (-1)) dX0_firstStandingFrom_35 (by decide) ?_
      exact go_iret dX0_firstStandingFrom_36 rfl (Nat.le_refl _) (Nat.le_refl _) ⟨_, rfl, h⟩
    · have h := h.2 hc
      refine gc_iload_n dX0_firstStandingFrom_10 rfl ?_
      refine gc_iload_n dX0_firstStandingFrom_11 rfl ?_
      refine gc_iadd dX0_firstStandingFrom_12 ?_
      refine gc_aload_n dX0_firstStandingFrom_13 rfl ?_
      refine go_getI dX0_firstStandingFrom_14 lg_X0_17 (sz_lt (al_lt ha0)) (al_kd ha0) rfl ?_
      obtain ⟨hne, h⟩ := h
      refine gc_irem dX0_firstStandingFrom_17 hne ?_
      refine gc_name (fun y_18 ey_18 => ?_)
      have h := h y_18 ey_18
      refine gc_istore_n dX0_firstStandingFrom_18 (by decide) ?_
      refine gc_aload_n dX0_firstStandingFrom_19 rfl ?_
      refine gc_iload_n dX0_firstStandingFrom_20 rfl ?_
      refine go_cVZ (y := M_X0_stands) (As := [.int y_18]) (rest := []) dX0_firstStandingFrom_21 lm_X0_137 ok_X0_stands (by decide) (sz_lt (al_lt ha0)) (al_kd ha0) rfl rfl (w_X0_stands X a0 ha0 y_18 mem _ h) rfl (Nat.le_of_ble_eq_true rfl) (fun v_21 m_21 h => ?_)
      refine gc_if_eq 29 dX0_firstStandingFrom_24 (by decide) (fun hc => ?_) (fun hc => ?_)
      · have h := h.1 hc
        refine gc_iinc (v := l2 + 1) dX0_firstStandingFrom_29 rfl rfl (by decide) ?_
        refine gc_goto 2 dX0_firstStandingFrom_32 (by decide) ?_
        refine gc_forget 3 ?_
        exact ih l1 (l2 + 1) m_21  h
      · have h := h.2 hc
        refine gc_iload_n dX0_firstStandingFrom_27 rfl ?_
        exact go_iret dX0_firstStandingFrom_28 rfl (Nat.le_refl _) (Nat.le_refl _) ⟨_, rfl, h⟩
def W_X0_firstStandingFrom (a0 : Nat) (p0 : Int32) (mem : Mm) (K : Int32 → Mm → Prop) : Prop := ∃ nz : Nat, L_X0_firstStandingFrom_2 a0 p0   K nz p0 0 mem
set_option maxRecDepth 100000 in
set_option maxHeartbeats 4000000 in
theorem w_X0_firstStandingFrom (X : CX) (a0 : Nat) (ha0 : isAl a0) (p0 : Int32) (mem : Mm) (K : Int32 → Mm → Prop) (h : W_X0_firstStandingFrom a0 p0 mem K) : CallsI X 2 M_X0_firstStandingFrom [.ref (cx_n X + a0), .int p0] mem K := by
  unfold W_X0_firstStandingFrom at h
  refine CallsC.ofP 2 (by decide) rfl (Nat.le_of_ble_eq_true rfl) ?_
  refine gc_iconst (v := 0) dX0_firstStandingFrom_0 (by decide) ?_
  refine gc_istore_n dX0_firstStandingFrom_1 (by decide) ?_
  obtain ⟨n9, h⟩ := h
  exact l_X0_firstStandingFrom_2 X a0 p0 ha0   K   n9 p0 0 mem  h
def L_X0_moveNerves_2 (a0 : Nat) (K : Mm → Prop) : Nat → Int32 → Mm → Prop
  | 0, _, _ => False
  | n + 1, l1, mem => ((mem a0 1) ≤ l1 → (K mem)) ∧ (¬ (mem a0 1) ≤ l1 → (∃ i_15 : Nat, l1 = nI i_15 ∧ i_15 < 9 ∧ (((mem (a0 + 4 + i_15) 5) = 0 → (W_X8_held ((mem (a0 + 4 + i_15) 1) + 1) 99 mem (fun v_42 m_42 => ∀ m_45 : Mm, m_45 = mu m_42 (a0 + 4 + i_15) 1 v_42 → (L_X0_moveNerves_2 a0  K n (l1 + 1) m_45)))) ∧ (¬ (mem (a0 + 4 + i_15) 5) = 0 → (W_X8_held ((mem (a0 + 4 + i_15) 1) - 1) 99 mem (fun v_42 m_42 => ∀ m_45 : Mm, m_45 = mu m_42 (a0 + 4 + i_15) 1 v_42 → (L_X0_moveNerves_2 a0  K n (l1 + 1) m_45)))))))
set_option maxRecDepth 100000 in
set_option maxHeartbeats 4000000 in
theorem l_X0_moveNerves_2 (X : CX) (a0 : Nat) (ha0 : isAl a0) (K : Mm → Prop) : ∀ (n : Nat) (l1 : Int32) (mem : Mm), L_X0_moveNerves_2 a0   K n l1 mem → GoC X 2 0 0 M_X0_moveNerves 2 [some (.ref (cx_n X + a0)), some (.int l1), none] [] 0 0 (cellAt X mem) (sz mem) (qm X (fun r m => r = none ∧ K m))
  := by
  intro n
  induction n with
  | zero => intro l1 mem h; exact h.elim
  | succ n ih =>
    intro l1 mem h
    unfold L_X0_moveNerves_2 at h
    refine gc_iload_n dX0_moveNerves_2 rfl ?_
    refine gc_aload_n dX0_moveNerves_3 rfl ?_
    refine go_getI dX0_moveNerves_4 lg_X0_17 (sz_lt (al_lt ha0)) (al_kd ha0) rfl ?_
    refine gc_icmp_ge 54 dX0_moveNerves_7 (by decide) (fun hc => ?_) (fun hc => ?_)
    · have h := h.1 hc
      exact go_vret dX0_moveNerves_54 rfl (Nat.le_refl _) (Nat.le_refl _) ⟨rfl, h⟩
    · have h := h.2 hc
      refine gc_aload_n dX0_moveNerves_10 rfl ?_
      refine go_getR dX0_moveNerves_11 lg_X0_11 (sz_lt (al_lt ha0)) (al_kd ha0) rfl ?_
      refine gc_iload_n dX0_moveNerves_14 rfl ?_
      obtain ⟨i_15, hx_15, hi_15, h⟩ := h
      refine go_men i_15 ha0 dX0_moveNerves_15 hx_15 hi_15 ?_
      refine gc_astore_n dX0_moveNerves_16 (by decide) ?_
      refine gc_aload_n dX0_moveNerves_17 rfl ?_
      refine gc_aload_n dX0_moveNerves_18 rfl ?_
      refine go_getI dX0_moveNerves_19 lg_X0_71 (sz_lt (al_man ha0 hi_15).2) (al_man ha0 hi_15).1 rfl ?_
      refine gc_if_eq 34 dX0_moveNerves_22 (by decide) (fun hc => ?_) (fun hc => ?_)
      · have h := h.1 hc
        refine gc_aload_n dX0_moveNerves_34 rfl ?_
        refine go_getI dX0_moveNerves_35 lg_X0_85 (sz_lt (al_man ha0 hi_15).2) (al_man ha0 hi_15).1 rfl ?_
        refine gc_iconst (v := 1) dX0_moveNerves_38 (by decide) ?_
        refine gc_iadd dX0_moveNerves_39 ?_
        refine gc_bipush (v := 99) dX0_moveNerves_40 (by decide) ?_
        refine go_cSI (y := M_X8_held) (As := [.int ((mem (a0 + 4 + i_15) 1) + 1), .int 99]) (rest := [.ref (cx_n X + (a0 + 4 + i_15))]) dX0_moveNerves_42 lm_X0_123 ok_X8_held (by decide) (w_X8_held X ((mem (a0 + 4 + i_15) 1) + 1) 99 mem _ h) rfl (Nat.le_of_ble_eq_true rfl) (fun v_42 m_42 h => ?_)
        refine go_putI_ dX0_moveNerves_45 lp_X0_85 (sz_lt (al_man ha0 hi_15).2) (al_man ha0 hi_15).1 rfl (fun m_45 em_45 => ?_)
        have h := h m_45 em_45
        refine gc_iinc (v := l1 + 1) dX0_moveNerves_48 rfl rfl (by decide) ?_
        refine gc_goto 2 dX0_moveNerves_51 (by decide) ?_
        refine gc_forget 2 ?_
        exact ih (l1 + 1) m_45  h
      · have h := h.2 hc
        refine gc_aload_n dX0_moveNerves_25 rfl ?_
        refine go_getI dX0_moveNerves_26 lg_X0_85 (sz_lt (al_man ha0 hi_15).2) (al_man ha0 hi_15).1 rfl ?_
        refine gc_iconst (v := 1) dX0_moveNerves_29 (by decide) ?_
        refine gc_isub dX0_moveNerves_30 ?_
        refine gc_goto 40 dX0_moveNerves_31 (by decide) ?_
        refine gc_bipush (v := 99) dX0_moveNerves_40 (by decide) ?_
        refine go_cSI (y := M_X8_held) (As := [.int ((mem (a0 + 4 + i_15) 1) - 1), .int 99]) (rest := [.ref (cx_n X + (a0 + 4 + i_15))]) dX0_moveNerves_42 lm_X0_123 ok_X8_held (by decide) (w_X8_held X ((mem (a0 + 4 + i_15) 1) - 1) 99 mem _ h) rfl (Nat.le_of_ble_eq_true rfl) (fun v_42 m_42 h => ?_)
        refine go_putI_ dX0_moveNerves_45 lp_X0_85 (sz_lt (al_man ha0 hi_15).2) (al_man ha0 hi_15).1 rfl (fun m_45 em_45 => ?_)
        have h := h m_45 em_45
        refine gc_iinc (v := l1 + 1) dX0_moveNerves_48 rfl rfl (by decide) ?_
        refine gc_goto 2 dX0_moveNerves_51 (by decide) ?_
        refine gc_forget 2 ?_
        exact ih (l1 + 1) m_45  h
def W_X0_moveNerves (a0 : Nat) (mem : Mm) (K : Mm → Prop) : Prop := ∃ nz : Nat, L_X0_moveNerves_2 a0   K nz 0 mem
set_option maxRecDepth 100000 in
set_option maxHeartbeats 4000000 in
theorem w_X0_moveNerves (X : CX) (a0 : Nat) (ha0 : isAl a0) (mem : Mm) (K : Mm → Prop) (h : W_X0_moveNerves a0 mem K) : CallsU X 2 M_X0_moveNerves [.ref (cx_n X + a0)] mem K := by
  unfold W_X0_moveNerves at h
  refine CallsC.ofP 2 (by decide) rfl (Nat.le_of_ble_eq_true rfl) ?_
  refine gc_iconst (v := 0) dX0_moveNerves_0 (by decide) ?_
  refine gc_istore_n dX0_moveNerves_1 (by decide) ?_
  obtain ⟨n9, h⟩ := h
  exact l_X0_moveNerves_2 X a0 ha0   K   n9 0 mem  h
def B_X0_goOnce_76 (a0 : Nat) (K : Mm → Prop)  (mem : Mm) : Prop := W_X0_moveNerves a0 mem (fun m_77 => ∀ m_87 : Mm, m_87 = mu m_77 a0 4 ((m_77 a0 4) + 1) → (∀ m_97 : Mm, m_97 = mu m_87 a0 5 ((m_87 a0 5) + 1) → (K m_97)))
set_option maxRecDepth 100000 in
set_option maxHeartbeats 4000000 in
theorem b_X0_goOnce_76 (X : CX) (a0 : Nat) (ha0 : isAl a0) (K : Mm → Prop)  (mem : Mm)  (h : B_X0_goOnce_76 a0   K  mem) : GoC X 17 0 0 M_X0_goOnce 76 [some (.ref (cx_n X + a0)), none, none, none, none] [] 0 0 (cellAt X mem) (sz mem) (qm X (fun r m => r = none ∧ K m)) := by
  unfold B_X0_goOnce_76 at h
  refine gc_aload_n dX0_goOnce_76 rfl ?_
  refine go_cVU (y := M_X0_moveNerves) (As := []) (rest := []) dX0_goOnce_77 lm_X0_169 ok_X0_moveNerves (by decide) (sz_lt (al_lt ha0)) (al_kd ha0) rfl rfl (w_X0_moveNerves X a0 ha0 mem _ h) rfl (Nat.le_of_ble_eq_true rfl) (fun m_77 h => ?_)
  refine gc_aload_n dX0_goOnce_80 rfl ?_
  refine gc_dup dX0_goOnce_81 rfl ?_
  refine go_getI dX0_goOnce_82 lg_X0_27 (sz_lt (al_lt ha0)) (al_kd ha0) rfl ?_
  refine gc_iconst (v := 1) dX0_goOnce_85 (by decide) ?_
  refine gc_iadd dX0_goOnce_86 ?_
  refine go_putI_ dX0_goOnce_87 lp_X0_27 (sz_lt (al_lt ha0)) (al_kd ha0) rfl (fun m_87 em_87 => ?_)
  have h := h m_87 em_87
  refine gc_aload_n dX0_goOnce_90 rfl ?_
  refine gc_dup dX0_goOnce_91 rfl ?_
  refine go_getI dX0_goOnce_92 lg_X0_30 (sz_lt (al_lt ha0)) (al_kd ha0) rfl ?_
  refine gc_iconst (v := 1) dX0_goOnce_95 (by decide) ?_
  refine gc_iadd dX0_goOnce_96 ?_
  refine go_putI_ dX0_goOnce_97 lp_X0_30 (sz_lt (al_lt ha0)) (al_kd ha0) rfl (fun m_97 em_97 => ?_)
  have h := h m_97 em_97
  exact go_vret dX0_goOnce_100 rfl (Nat.le_refl _) (Nat.le_refl _) ⟨rfl, h⟩
def B_X0_goOnce_19 (a0 : Nat) (K : Mm → Prop)  (mem : Mm) : Prop := W_X0_draw a0 mem (fun v_20 m_20 => W_X0_draw a0 m_20 (fun v_28 m_28 => W_X0_draw a0 m_28 (fun v_36 m_36 => W_X0_draw a0 m_36 (fun v_45 m_45 => ((m_45 a0 1) ≤ 0 → (B_X0_goOnce_76 a0   K  m_45)) ∧ (¬ (m_45 a0 1) ≤ 0 → (¬ (m_45 a0 1) = 0 ∧ (W_X0_firstStandingFrom a0 (v_45 - v_45 / (m_45 a0 1) * (m_45 a0 1)) m_45 (fun v_66 m_66 => W_X0_hit a0 12 v_66 (v_20 - v_20 / 8 * 8) (v_28 - v_28 / 100 * 100) ((v_36 - v_36 / 3 * 3) - 1) 0 m_66 (fun m_73 => B_X0_goOnce_76 a0   K  m_73)))))))))
set_option maxRecDepth 100000 in
set_option maxHeartbeats 4000000 in
theorem b_X0_goOnce_19 (X : CX) (a0 : Nat) (ha0 : isAl a0) (K : Mm → Prop)  (mem : Mm)  (h : B_X0_goOnce_19 a0   K  mem) : GoC X 17 0 0 M_X0_goOnce 19 [some (.ref (cx_n X + a0)), none, none, none, none] [] 0 0 (cellAt X mem) (sz mem) (qm X (fun r m => r = none ∧ K m)) := by
  unfold B_X0_goOnce_19 at h
  refine gc_aload_n dX0_goOnce_19 rfl ?_
  refine go_cVI (y := M_X0_draw) (As := []) (rest := []) dX0_goOnce_20 lm_X0_92 ok_X0_draw (by decide) (sz_lt (al_lt ha0)) (al_kd ha0) rfl rfl (w_X0_draw X a0 ha0 mem _ h) rfl (Nat.le_of_ble_eq_true rfl) (fun v_20 m_20 h => ?_)
  refine gc_bipush (v := 8) dX0_goOnce_23 (by decide) ?_
  refine gc_irem dX0_goOnce_25 (by decide) ?_
  refine gc_istore_n dX0_goOnce_26 (by decide) ?_
  refine gc_aload_n dX0_goOnce_27 rfl ?_
  refine go_cVI (y := M_X0_draw) (As := []) (rest := []) dX0_goOnce_28 lm_X0_92 ok_X0_draw (by decide) (sz_lt (al_lt ha0)) (al_kd ha0) rfl rfl (w_X0_draw X a0 ha0 m_20 _ h) rfl (Nat.le_of_ble_eq_true rfl) (fun v_28 m_28 h => ?_)
  refine gc_bipush (v := 100) dX0_goOnce_31 (by decide) ?_
  refine gc_irem dX0_goOnce_33 (by decide) ?_
  refine gc_istore_n dX0_goOnce_34 (by decide) ?_
  refine gc_aload_n dX0_goOnce_35 rfl ?_
  refine go_cVI (y := M_X0_draw) (As := []) (rest := []) dX0_goOnce_36 lm_X0_92 ok_X0_draw (by decide) (sz_lt (al_lt ha0)) (al_kd ha0) rfl rfl (w_X0_draw X a0 ha0 m_28 _ h) rfl (Nat.le_of_ble_eq_true rfl) (fun v_36 m_36 h => ?_)
  refine gc_iconst (v := 3) dX0_goOnce_39 (by decide) ?_
  refine gc_irem dX0_goOnce_40 (by decide) ?_
  refine gc_iconst (v := 1) dX0_goOnce_41 (by decide) ?_
  refine gc_isub dX0_goOnce_42 ?_
  refine gc_istore_n dX0_goOnce_43 (by decide) ?_
  refine gc_aload_n dX0_goOnce_44 rfl ?_
  refine go_cVI (y := M_X0_draw) (As := []) (rest := []) dX0_goOnce_45 lm_X0_92 ok_X0_draw (by decide) (sz_lt (al_lt ha0)) (al_kd ha0) rfl rfl (w_X0_draw X a0 ha0 m_36 _ h) rfl (Nat.le_of_ble_eq_true rfl) (fun v_45 m_45 h => ?_)
  refine gc_istore dX0_goOnce_48 (by decide) ?_
  refine gc_aload_n dX0_goOnce_50 rfl ?_
  refine go_getI dX0_goOnce_51 lg_X0_17 (sz_lt (al_lt ha0)) (al_kd ha0) rfl ?_
  refine gc_if_le 76 dX0_goOnce_54 (by decide) (fun hc => ?_) (fun hc => ?_)
  · have h := h.1 hc
    refine gc_forget 1 ?_
    refine gc_forget 2 ?_
    refine gc_forget 3 ?_
    refine gc_forget 4 ?_
    exact b_X0_goOnce_76 X a0 ha0   K    m_45  h
  · have h := h.2 hc
    refine gc_aload_n dX0_goOnce_57 rfl ?_
    refine gc_aload_n dX0_goOnce_58 rfl ?_
    refine gc_iload dX0_goOnce_59 rfl ?_
    refine gc_aload_n dX0_goOnce_61 rfl ?_
    refine go_getI dX0_goOnce_62 lg_X0_17 (sz_lt (al_lt ha0)) (al_kd ha0) rfl ?_
    obtain ⟨hne, h⟩ := h
    refine gc_irem dX0_goOnce_65 hne ?_
    refine go_cVI (y := M_X0_firstStandingFrom) (As := [.int (v_45 - v_45 / (m_45 a0 1) * (m_45 a0 1))]) (rest := [.ref (cx_n X + a0)]) dX0_goOnce_66 lm_X0_166 ok_X0_firstStandingFrom (by decide) (sz_lt (al_lt ha0)) (al_kd ha0) rfl rfl (w_X0_firstStandingFrom X a0 ha0 (v_45 - v_45 / (m_45 a0 1) * (m_45 a0 1)) m_45 _ h) rfl (Nat.le_of_ble_eq_true rfl) (fun v_66 m_66 h => ?_)
    refine gc_iload_n dX0_goOnce_69 rfl ?_
    refine gc_iload_n dX0_goOnce_70 rfl ?_
    refine gc_iload_n dX0_goOnce_71 rfl ?_
    refine gc_iconst (v := 0) dX0_goOnce_72 (by decide) ?_
    refine go_cVU (y := M_X0_hit) (As := [.int v_66, .int (v_20 - v_20 / 8 * 8), .int (v_28 - v_28 / 100 * 100), .int ((v_36 - v_36 / 3 * 3) - 1), .int 0]) (rest := []) dX0_goOnce_73 lm_X0_153 ok_X0_hit (by decide) (sz_lt (al_lt ha0)) (al_kd ha0) rfl rfl (w_X0_hit X a0 ha0 12 v_66 (v_20 - v_20 / 8 * 8) (v_28 - v_28 / 100 * 100) ((v_36 - v_36 / 3 * 3) - 1) 0 m_66 _ h) rfl (Nat.le_of_ble_eq_true rfl) (fun m_73 h => ?_)
    refine gc_forget 1 ?_
    refine gc_forget 2 ?_
    refine gc_forget 3 ?_
    refine gc_forget 4 ?_
    exact b_X0_goOnce_76 X a0 ha0   K    m_73  h
def W_X0_goOnce (a0 : Nat) (mem : Mm) (K : Mm → Prop) : Prop := ((mem a0 4) = 3 → (W_X0_setUp a0 mem (fun m_16 => B_X0_goOnce_19 a0   K  m_16))) ∧ (¬ (mem a0 4) = 3 → (W_X0_standing a0 mem (fun v_9 m_9 => (¬ v_9 = 0 → (B_X0_goOnce_19 a0   K  m_9)) ∧ (v_9 = 0 → (W_X0_setUp a0 m_9 (fun m_16 => B_X0_goOnce_19 a0   K  m_16))))))
set_option maxRecDepth 100000 in
set_option maxHeartbeats 4000000 in
theorem w_X0_goOnce (X : CX) (a0 : Nat) (ha0 : isAl a0) (mem : Mm) (K : Mm → Prop) (h : W_X0_goOnce a0 mem K) : CallsU X 17 M_X0_goOnce [.ref (cx_n X + a0)] mem K := by
  unfold W_X0_goOnce at h
  refine CallsC.ofP 4 (by decide) rfl (Nat.le_of_ble_eq_true rfl) ?_
  refine gc_aload_n dX0_goOnce_0 rfl ?_
  refine go_getI dX0_goOnce_1 lg_X0_27 (sz_lt (al_lt ha0)) (al_kd ha0) rfl ?_
  refine gc_iconst (v := 3) dX0_goOnce_4 (by decide) ?_
  refine gc_icmp_eq 15 dX0_goOnce_5 (by decide) (fun hc => ?_) (fun hc => ?_)
  · have h := h.1 hc
    refine gc_aload_n dX0_goOnce_15 rfl ?_
    refine go_cVU (y := M_X0_setUp) (As := []) (rest := []) dX0_goOnce_16 lm_X0_163 ok_X0_setUp (by decide) (sz_lt (al_lt ha0)) (al_kd ha0) rfl rfl (w_X0_setUp X a0 ha0 mem _ h) rfl (Nat.le_of_ble_eq_true rfl) (fun m_16 h => ?_)
    exact b_X0_goOnce_19 X a0 ha0   K    m_16  h
  · have h := h.2 hc
    refine gc_aload_n dX0_goOnce_8 rfl ?_
    refine go_cVI (y := M_X0_standing) (As := []) (rest := []) dX0_goOnce_9 lm_X0_127 ok_X0_standing (by decide) (sz_lt (al_lt ha0)) (al_kd ha0) rfl rfl (w_X0_standing X a0 ha0 mem _ h) rfl (Nat.le_of_ble_eq_true rfl) (fun v_9 m_9 h => ?_)
    refine gc_if_ne 19 dX0_goOnce_12 (by decide) (fun hc => ?_) (fun hc => ?_)
    · have h := h.1 hc
      exact b_X0_goOnce_19 X a0 ha0   K    m_9  h
    · have h := h.2 hc
      refine gc_aload_n dX0_goOnce_15 rfl ?_
      refine go_cVU (y := M_X0_setUp) (As := []) (rest := []) dX0_goOnce_16 lm_X0_163 ok_X0_setUp (by decide) (sz_lt (al_lt ha0)) (al_kd ha0) rfl rfl (w_X0_setUp X a0 ha0 m_9 _ h) rfl (Nat.le_of_ble_eq_true rfl) (fun m_16 h => ?_)
      exact b_X0_goOnce_19 X a0 ha0   K    m_16  h
def L_X0_goOn_2 (a0 : Nat) (p0 : Int32) (K : Mm → Prop) : Nat → Int32 → Int32 → Mm → Prop
  | 0, _, _, _ => False
  | n + 1, l1, l2, mem => (l1 ≤ l2 → (K mem)) ∧ (¬ l1 ≤ l2 → (W_X0_goOnce a0 mem (fun m_8 => L_X0_goOn_2 a0 p0  K n l1 (l2 + 1) m_8)))
set_option maxRecDepth 100000 in
set_option maxHeartbeats 4000000 in
theorem l_X0_goOn_2 (X : CX) (a0 : Nat) (p0 : Int32) (ha0 : isAl a0) (K : Mm → Prop) : ∀ (n : Nat) (l1 : Int32) (l2 : Int32) (mem : Mm), L_X0_goOn_2 a0 p0   K n l1 l2 mem → GoC X 18 0 0 M_X0_goOn 2 [some (.ref (cx_n X + a0)), some (.int l1), some (.int l2)] [] 0 0 (cellAt X mem) (sz mem) (qm X (fun r m => r = none ∧ K m))
  := by
  intro n
  induction n with
  | zero => intro l1 l2 mem h; exact h.elim
  | succ n ih =>
    intro l1 l2 mem h
    unfold L_X0_goOn_2 at h
    refine gc_iload_n dX0_goOn_2 rfl ?_
    refine gc_iload_n dX0_goOn_3 rfl ?_
    refine gc_icmp_ge 17 dX0_goOn_4 (by decide) (fun hc => ?_) (fun hc => ?_)
    · have h := h.1 hc
      exact go_vret dX0_goOn_17 rfl (Nat.le_refl _) (Nat.le_refl _) ⟨rfl, h⟩
    · have h := h.2 hc
      refine gc_aload_n dX0_goOn_7 rfl ?_
      refine go_cVU (y := M_X0_goOnce) (As := []) (rest := []) dX0_goOn_8 lm_X0_160 ok_X0_goOnce (by decide) (sz_lt (al_lt ha0)) (al_kd ha0) rfl rfl (w_X0_goOnce X a0 ha0 mem _ h) rfl (Nat.le_of_ble_eq_true rfl) (fun m_8 h => ?_)
      refine gc_iinc (v := l2 + 1) dX0_goOn_11 rfl rfl (by decide) ?_
      refine gc_goto 2 dX0_goOn_14 (by decide) ?_
      exact ih l1 (l2 + 1) m_8  h
def W_X0_goOn (a0 : Nat) (p0 : Int32) (mem : Mm) (K : Mm → Prop) : Prop := ∃ nz : Nat, L_X0_goOn_2 a0 p0   K nz p0 0 mem
set_option maxRecDepth 100000 in
set_option maxHeartbeats 4000000 in
theorem w_X0_goOn (X : CX) (a0 : Nat) (ha0 : isAl a0) (p0 : Int32) (mem : Mm) (K : Mm → Prop) (h : W_X0_goOn a0 p0 mem K) : CallsU X 18 M_X0_goOn [.ref (cx_n X + a0), .int p0] mem K := by
  unfold W_X0_goOn at h
  refine CallsC.ofP 1 (by decide) rfl (Nat.le_of_ble_eq_true rfl) ?_
  refine gc_iconst (v := 0) dX0_goOn_0 (by decide) ?_
  refine gc_istore_n dX0_goOn_1 (by decide) ?_
  obtain ⟨n9, h⟩ := h
  exact l_X0_goOn_2 X a0 p0 ha0   K   n9 p0 0 mem  h
def W_X8_goes (p0 : Int32) (mem : Mm) (K : Int32 → Mm → Prop) : Prop := W_X8_isWithin p0 1 100 mem (fun v_4 m_4 => (¬ (bZ v_4) = 0 → (W_X0_goOn 1 (if (9999 - (m_4 1 5)) < p0 then (9999 - (m_4 1 5)) else p0) m_4 (fun m_40 => K ((m_40 1 2) - (m_4 1 2)) m_40))) ∧ ((bZ v_4) = 0 → (K (-1000000001) m_4)))
set_option maxRecDepth 100000 in
set_option maxHeartbeats 4000000 in
theorem w_X8_goes (X : CX) (p0 : Int32) (mem : Mm) (K : Int32 → Mm → Prop) (h : W_X8_goes p0 mem K) : CallsI X 19 M_X8_goes [.ref (cx_n X + 0), .int p0] mem K := by
  unfold W_X8_goes at h
  refine CallsC.ofP 1 (by decide) rfl (Nat.le_of_ble_eq_true rfl) ?_
  refine gc_iload_n dX8_goes_0 rfl ?_
  refine gc_iconst (v := 1) dX8_goes_1 (by decide) ?_
  refine gc_bipush (v := 100) dX8_goes_2 (by decide) ?_
  refine go_cSZ (y := M_X8_isWithin) (As := [.int p0, .int 1, .int 100]) (rest := []) dX8_goes_4 lm_X8_70 ok_X8_isWithin (by decide) (w_X8_isWithin X p0 1 100 mem _ h) rfl (Nat.le_of_ble_eq_true rfl) (fun v_4 m_4 h => ?_)
  refine gc_if_ne 13 dX8_goes_7 (by decide) (fun hc => ?_) (fun hc => ?_)
  · have h := h.1 hc
    refine gc_aload_n dX8_goes_13 rfl ?_
    refine go_getR dX8_goes_14 lg_X8_10 (sz_lt (by decide)) kd_0 rfl ?_
    refine go_getI dX8_goes_17 lg_X8_137 (sz_lt (al_lt al_1)) (al_kd al_1) rfl ?_
    refine gc_istore_n dX8_goes_20 (by decide) ?_
    refine gc_aload_n dX8_goes_21 rfl ?_
    refine go_getR dX8_goes_22 lg_X8_10 (sz_lt (by decide)) kd_0 rfl ?_
    refine gc_iload_n dX8_goes_25 rfl ?_
    refine gc_sipush (v := 9999) dX8_goes_26 (by decide) ?_
    refine gc_aload_n dX8_goes_29 rfl ?_
    refine go_getR dX8_goes_30 lg_X8_10 (sz_lt (by decide)) kd_0 rfl ?_
    refine go_getI dX8_goes_33 lg_X8_161 (sz_lt (al_lt al_1)) (al_kd al_1) rfl ?_
    refine gc_isub dX8_goes_36 ?_
    refine gc_mmin dX8_goes_37 lmm_X8_150 (by decide) (Nat.le_of_ble_eq_true rfl) (Nat.le_refl _) (Nat.le_refl _) ?_
    refine go_cVU (y := M_X0_goOn) (As := [.int (if (9999 - (m_4 1 5)) < p0 then (9999 - (m_4 1 5)) else p0)]) (rest := []) dX8_goes_40 lm_X8_164 ok_X0_goOn (by decide) (sz_lt (al_lt al_1)) (al_kd al_1) rfl rfl (w_X0_goOn X 1 al_1 (if (9999 - (m_4 1 5)) < p0 then (9999 - (m_4 1 5)) else p0) m_4 _ h) rfl (Nat.le_of_ble_eq_true rfl) (fun m_40 h => ?_)
    refine gc_aload_n dX8_goes_43 rfl ?_
    refine go_getR dX8_goes_44 lg_X8_10 (sz_lt (by decide)) kd_0 rfl ?_
    refine go_getI dX8_goes_47 lg_X8_137 (sz_lt (al_lt al_1)) (al_kd al_1) rfl ?_
    refine gc_iload_n dX8_goes_50 rfl ?_
    refine gc_isub dX8_goes_51 ?_
    exact go_iret dX8_goes_52 rfl (Nat.le_refl _) (Nat.le_refl _) ⟨_, rfl, h⟩
  · have h := h.2 hc
    refine gc_ldc (v := (-1000000001)) dX8_goes_10 lk_X8_74 ?_
    exact go_iret dX8_goes_12 rfl (Nat.le_refl _) (Nat.le_refl _) ⟨_, rfl, h⟩
def L_X0_nerveOfAll_4 (a0 : Nat) (K : Int32 → Mm → Prop) : Nat → Int32 → Int32 → Mm → Prop
  | 0, _, _, _ => False
  | n + 1, l1, l2, mem => ((mem a0 1) ≤ l2 → (K l1 mem)) ∧ (¬ (mem a0 1) ≤ l2 → (∃ i_18 : Nat, l2 = nI i_18 ∧ i_18 < 9 ∧ (L_X0_nerveOfAll_4 a0  K n (l1 + (mem (a0 + 4 + i_18) 1)) (l2 + 1) mem)))
set_option maxRecDepth 100000 in
set_option maxHeartbeats 4000000 in
theorem l_X0_nerveOfAll_4 (X : CX) (a0 : Nat) (ha0 : isAl a0) (K : Int32 → Mm → Prop) : ∀ (n : Nat) (l1 : Int32) (l2 : Int32) (mem : Mm), L_X0_nerveOfAll_4 a0   K n l1 l2 mem → GoC X 0 0 0 M_X0_nerveOfAll 4 [some (.ref (cx_n X + a0)), some (.int l1), some (.int l2)] [] 0 0 (cellAt X mem) (sz mem) (qm X (fun r m => ∃ v : Int32, r = some (.int v) ∧ K v m))
  := by
  intro n
  induction n with
  | zero => intro l1 l2 mem h; exact h.elim
  | succ n ih =>
    intro l1 l2 mem h
    unfold L_X0_nerveOfAll_4 at h
    refine gc_iload_n dX0_nerveOfAll_4 rfl ?_
    refine gc_aload_n dX0_nerveOfAll_5 rfl ?_
    refine go_getI dX0_nerveOfAll_6 lg_X0_17 (sz_lt (al_lt ha0)) (al_kd ha0) rfl ?_
    refine gc_icmp_ge 30 dX0_nerveOfAll_9 (by decide) (fun hc => ?_) (fun hc => ?_)
    · have h := h.1 hc
      refine gc_iload_n dX0_nerveOfAll_30 rfl ?_
      exact go_iret dX0_nerveOfAll_31 rfl (Nat.le_refl _) (Nat.le_refl _) ⟨_, rfl, h⟩
    · have h := h.2 hc
      refine gc_iload_n dX0_nerveOfAll_12 rfl ?_
      refine gc_aload_n dX0_nerveOfAll_13 rfl ?_
      refine go_getR dX0_nerveOfAll_14 lg_X0_11 (sz_lt (al_lt ha0)) (al_kd ha0) rfl ?_
      refine gc_iload_n dX0_nerveOfAll_17 rfl ?_
      obtain ⟨i_18, hx_18, hi_18, h⟩ := h
      refine go_men i_18 ha0 dX0_nerveOfAll_18 hx_18 hi_18 ?_
      refine go_getI dX0_nerveOfAll_19 lg_X0_85 (sz_lt (al_man ha0 hi_18).2) (al_man ha0 hi_18).1 rfl ?_
      refine gc_iadd dX0_nerveOfAll_22 ?_
      refine gc_istore_n dX0_nerveOfAll_23 (by decide) ?_
      refine gc_iinc (v := l2 + 1) dX0_nerveOfAll_24 rfl rfl (by decide) ?_
      refine gc_goto 4 dX0_nerveOfAll_27 (by decide) ?_
      exact ih (l1 + (mem (a0 + 4 + i_18) 1)) (l2 + 1) mem  h
def W_X0_nerveOfAll (a0 : Nat) (mem : Mm) (K : Int32 → Mm → Prop) : Prop := ∃ nz : Nat, L_X0_nerveOfAll_4 a0   K nz 0 0 mem
set_option maxRecDepth 100000 in
set_option maxHeartbeats 4000000 in
theorem w_X0_nerveOfAll (X : CX) (a0 : Nat) (ha0 : isAl a0) (mem : Mm) (K : Int32 → Mm → Prop) (h : W_X0_nerveOfAll a0 mem K) : CallsI X 0 M_X0_nerveOfAll [.ref (cx_n X + a0)] mem K := by
  unfold W_X0_nerveOfAll at h
  refine CallsC.ofP 2 (by decide) rfl (Nat.le_of_ble_eq_true rfl) ?_
  refine gc_iconst (v := 0) dX0_nerveOfAll_0 (by decide) ?_
  refine gc_istore_n dX0_nerveOfAll_1 (by decide) ?_
  refine gc_iconst (v := 0) dX0_nerveOfAll_2 (by decide) ?_
  refine gc_istore_n dX0_nerveOfAll_3 (by decide) ?_
  obtain ⟨n9, h⟩ := h
  exact l_X0_nerveOfAll_4 X a0 ha0   K   n9 0 0 mem  h
def L_X0_mostFelled_14 (a0 : Nat) (K : Int32 → Mm → Prop) : Nat → Int32 → Int32 → Mm → Prop
  | 0, _, _, _ => False
  | n + 1, l1, l2, mem => ((mem a0 1) ≤ l2 → (K l1 mem)) ∧ (¬ (mem a0 1) ≤ l2 → (∃ i_27 : Nat, l2 = nI i_27 ∧ i_27 < 9 ∧ (∃ i_36 : Nat, l1 = nI i_36 ∧ i_36 < 9 ∧ (((mem (a0 + 4 + i_27) 4) ≤ (mem (a0 + 4 + i_36) 4) → (L_X0_mostFelled_14 a0  K n l1 (l2 + 1) mem)) ∧ (¬ (mem (a0 + 4 + i_27) 4) ≤ (mem (a0 + 4 + i_36) 4) → (L_X0_mostFelled_14 a0  K n l2 (l2 + 1) mem))))))
set_option maxRecDepth 100000 in
set_option maxHeartbeats 4000000 in
theorem l_X0_mostFelled_14 (X : CX) (a0 : Nat) (ha0 : isAl a0) (K : Int32 → Mm → Prop) : ∀ (n : Nat) (l1 : Int32) (l2 : Int32) (mem : Mm), L_X0_mostFelled_14 a0   K n l1 l2 mem → GoC X 0 0 0 M_X0_mostFelled 14 [some (.ref (cx_n X + a0)), some (.int l1), some (.int l2)] [] 0 0 (cellAt X mem) (sz mem) (qm X (fun r m => ∃ v : Int32, r = some (.int v) ∧ K v m))
  := by
  intro n
  induction n with
  | zero => intro l1 l2 mem h; exact h.elim
  | succ n ih =>
    intro l1 l2 mem h
    unfold L_X0_mostFelled_14 at h
    refine gc_iload_n dX0_mostFelled_14 rfl ?_
    refine gc_aload_n dX0_mostFelled_15 rfl ?_
    refine go_getI dX0_mostFelled_16 lg_X0_17 (sz_lt (al_lt ha0)) (al_kd ha0) rfl ?_
    refine gc_icmp_ge 51 dX0_mostFelled_19 (by decide) (fun hc => ?_) (fun hc => ?_)
    · have h := h.1 hc
      refine gc_iload_n dX0_mostFelled_51 rfl ?_
      exact go_iret dX0_mostFelled_52 rfl (Nat.le_refl _) (Nat.le_refl _) ⟨_, rfl, h⟩
    · have h := h.2 hc
      refine gc_aload_n dX0_mostFelled_22 rfl ?_
      refine go_getR dX0_mostFelled_23 lg_X0_11 (sz_lt (al_lt ha0)) (al_kd ha0) rfl ?_
      refine gc_iload_n dX0_mostFelled_26 rfl ?_
      obtain ⟨i_27, hx_27, hi_27, h⟩ := h
      refine go_men i_27 ha0 dX0_mostFelled_27 hx_27 hi_27 ?_
      refine go_getI dX0_mostFelled_28 lg_X0_88 (sz_lt (al_man ha0 hi_27).2) (al_man ha0 hi_27).1 rfl ?_
      refine gc_aload_n dX0_mostFelled_31 rfl ?_
      refine go_getR dX0_mostFelled_32 lg_X0_11 (sz_lt (al_lt ha0)) (al_kd ha0) rfl ?_
      refine gc_iload_n dX0_mostFelled_35 rfl ?_
      obtain ⟨i_36, hx_36, hi_36, h⟩ := h
      refine go_men i_36 ha0 dX0_mostFelled_36 hx_36 hi_36 ?_
      refine go_getI dX0_mostFelled_37 lg_X0_88 (sz_lt (al_man ha0 hi_36).2) (al_man ha0 hi_36).1 rfl ?_
      refine gc_icmp_le 45 dX0_mostFelled_40 (by decide) (fun hc => ?_) (fun hc => ?_)
      · have h := h.1 hc
        refine gc_iinc (v := l2 + 1) dX0_mostFelled_45 rfl rfl (by decide) ?_
        refine gc_goto 14 dX0_mostFelled_48 (by decide) ?_
        exact ih l1 (l2 + 1) mem  h
      · have h := h.2 hc
        refine gc_iload_n dX0_mostFelled_43 rfl ?_
        refine gc_istore_n dX0_mostFelled_44 (by decide) ?_
        refine gc_iinc (v := l2 + 1) dX0_mostFelled_45 rfl rfl (by decide) ?_
        refine gc_goto 14 dX0_mostFelled_48 (by decide) ?_
        exact ih l2 (l2 + 1) mem  h
def W_X0_mostFelled (a0 : Nat) (mem : Mm) (K : Int32 → Mm → Prop) : Prop := (¬ (mem a0 1) = 0 → (∃ nz : Nat, L_X0_mostFelled_14 a0   K nz 0 1 mem)) ∧ ((mem a0 1) = 0 → (K (-1000000005) mem))
set_option maxRecDepth 100000 in
set_option maxHeartbeats 4000000 in
theorem w_X0_mostFelled (X : CX) (a0 : Nat) (ha0 : isAl a0) (mem : Mm) (K : Int32 → Mm → Prop) (h : W_X0_mostFelled a0 mem K) : CallsI X 0 M_X0_mostFelled [.ref (cx_n X + a0)] mem K := by
  unfold W_X0_mostFelled at h
  refine CallsC.ofP 2 (by decide) rfl (Nat.le_of_ble_eq_true rfl) ?_
  refine gc_aload_n dX0_mostFelled_0 rfl ?_
  refine go_getI dX0_mostFelled_1 lg_X0_17 (sz_lt (al_lt ha0)) (al_kd ha0) rfl ?_
  refine gc_if_ne 10 dX0_mostFelled_4 (by decide) (fun hc => ?_) (fun hc => ?_)
  · have h := h.1 hc
    refine gc_iconst (v := 0) dX0_mostFelled_10 (by decide) ?_
    refine gc_istore_n dX0_mostFelled_11 (by decide) ?_
    refine gc_iconst (v := 1) dX0_mostFelled_12 (by decide) ?_
    refine gc_istore_n dX0_mostFelled_13 (by decide) ?_
    obtain ⟨n9, h⟩ := h
    exact l_X0_mostFelled_14 X a0 ha0   K   n9 0 1 mem  h
  · have h := h.2 hc
    refine gc_ldc (v := (-1000000005)) dX0_mostFelled_7 lk_X0_50 ?_
    exact go_iret dX0_mostFelled_9 rfl (Nat.le_refl _) (Nat.le_refl _) ⟨_, rfl, h⟩
def W_X8_alley (p0 : Int32) (mem : Mm) (K : Int32 → Mm → Prop) : Prop := (p0 = 0 → (K (mem 1 2) mem)) ∧ (¬ p0 = 0 → ((p0 = 1 → (K (mem 1 3) mem)) ∧ (¬ p0 = 1 → ((p0 = 2 → (K (mem 1 4) mem)) ∧ (¬ p0 = 2 → ((p0 = 3 → (W_X0_standingSet 1 mem (fun v_68 m_68 => K v_68 m_68))) ∧ (¬ p0 = 3 → ((p0 = 4 → (W_X0_nerveOfAll 1 mem (fun v_76 m_76 => K v_76 m_76))) ∧ (¬ p0 = 4 → ((p0 = 5 → (W_X0_mostFelled 1 mem (fun v_84 m_84 => K v_84 m_84))) ∧ (¬ p0 = 5 → (K (-1000000001) mem))))))))))))
set_option maxRecDepth 100000 in
set_option maxHeartbeats 4000000 in
theorem w_X8_alley (X : CX) (p0 : Int32) (mem : Mm) (K : Int32 → Mm → Prop) (h : W_X8_alley p0 mem K) : CallsI X 1 M_X8_alley [.ref (cx_n X + 0), .int p0] mem K := by
  unfold W_X8_alley at h
  refine CallsC.ofP 0 (by decide) rfl (Nat.le_of_ble_eq_true rfl) ?_
  refine gc_iload_n dX8_alley_0 rfl ?_
  by_cases hn0 : p0 = 0
  · have h := h.1 hn0
    refine gc_tabIn (off := 39) 40 dX8_alley_1 (by rw [hn0]; decide) (by rw [hn0]; decide) (by rw [hn0]; rfl) (by decide) ?_
    refine gc_aload_n dX8_alley_40 rfl ?_
    refine go_getR dX8_alley_41 lg_X8_10 (sz_lt (by decide)) kd_0 rfl ?_
    refine go_getI dX8_alley_44 lg_X8_137 (sz_lt (al_lt al_1)) (al_kd al_1) rfl ?_
    exact go_iret dX8_alley_47 rfl (Nat.le_refl _) (Nat.le_refl _) ⟨_, rfl, h⟩
  · have h := h.2 hn0
    have hq0 := tab_ne hn0 (a := 0) (by decide)
    by_cases hn1 : p0 = 1
    · have h := h.1 hn1
      refine gc_tabIn (off := 47) 48 dX8_alley_1 (by rw [hn1]; decide) (by rw [hn1]; decide) (by rw [hn1]; rfl) (by decide) ?_
      refine gc_aload_n dX8_alley_48 rfl ?_
      refine go_getR dX8_alley_49 lg_X8_10 (sz_lt (by decide)) kd_0 rfl ?_
      refine go_getI dX8_alley_52 lg_X8_168 (sz_lt (al_lt al_1)) (al_kd al_1) rfl ?_
      exact go_iret dX8_alley_55 rfl (Nat.le_refl _) (Nat.le_refl _) ⟨_, rfl, h⟩
    · have h := h.2 hn1
      have hq1 := tab_ne hn1 (a := 1) (by decide)
      by_cases hn2 : p0 = 2
      · have h := h.1 hn2
        refine gc_tabIn (off := 55) 56 dX8_alley_1 (by rw [hn2]; decide) (by rw [hn2]; decide) (by rw [hn2]; rfl) (by decide) ?_
        refine gc_aload_n dX8_alley_56 rfl ?_
        refine go_getR dX8_alley_57 lg_X8_10 (sz_lt (by decide)) kd_0 rfl ?_
        refine go_getI dX8_alley_60 lg_X8_171 (sz_lt (al_lt al_1)) (al_kd al_1) rfl ?_
        exact go_iret dX8_alley_63 rfl (Nat.le_refl _) (Nat.le_refl _) ⟨_, rfl, h⟩
      · have h := h.2 hn2
        have hq2 := tab_ne hn2 (a := 2) (by decide)
        by_cases hn3 : p0 = 3
        · have h := h.1 hn3
          refine gc_tabIn (off := 63) 64 dX8_alley_1 (by rw [hn3]; decide) (by rw [hn3]; decide) (by rw [hn3]; rfl) (by decide) ?_
          refine gc_aload_n dX8_alley_64 rfl ?_
          refine go_getR dX8_alley_65 lg_X8_10 (sz_lt (by decide)) kd_0 rfl ?_
          refine go_cVI (y := M_X0_standingSet) (As := []) (rest := []) dX8_alley_68 lm_X8_174 ok_X0_standingSet (by decide) (sz_lt (al_lt al_1)) (al_kd al_1) rfl rfl (w_X0_standingSet X 1 al_1 mem _ h) rfl (Nat.le_of_ble_eq_true rfl) (fun v_68 m_68 h => ?_)
          exact go_iret dX8_alley_71 rfl (Nat.le_refl _) (Nat.le_refl _) ⟨_, rfl, h⟩
        · have h := h.2 hn3
          have hq3 := tab_ne hn3 (a := 3) (by decide)
          by_cases hn4 : p0 = 4
          · have h := h.1 hn4
            refine gc_tabIn (off := 71) 72 dX8_alley_1 (by rw [hn4]; decide) (by rw [hn4]; decide) (by rw [hn4]; rfl) (by decide) ?_
            refine gc_aload_n dX8_alley_72 rfl ?_
            refine go_getR dX8_alley_73 lg_X8_10 (sz_lt (by decide)) kd_0 rfl ?_
            refine go_cVI (y := M_X0_nerveOfAll) (As := []) (rest := []) dX8_alley_76 lm_X8_177 ok_X0_nerveOfAll (by decide) (sz_lt (al_lt al_1)) (al_kd al_1) rfl rfl (w_X0_nerveOfAll X 1 al_1 mem _ h) rfl (Nat.le_of_ble_eq_true rfl) (fun v_76 m_76 h => ?_)
            exact go_iret dX8_alley_79 rfl (Nat.le_refl _) (Nat.le_refl _) ⟨_, rfl, h⟩
          · have h := h.2 hn4
            have hq4 := tab_ne hn4 (a := 4) (by decide)
            by_cases hn5 : p0 = 5
            · have h := h.1 hn5
              refine gc_tabIn (off := 79) 80 dX8_alley_1 (by rw [hn5]; decide) (by rw [hn5]; decide) (by rw [hn5]; rfl) (by decide) ?_
              refine gc_aload_n dX8_alley_80 rfl ?_
              refine go_getR dX8_alley_81 lg_X8_10 (sz_lt (by decide)) kd_0 rfl ?_
              refine go_cVI (y := M_X0_mostFelled) (As := []) (rest := []) dX8_alley_84 lm_X8_180 ok_X0_mostFelled (by decide) (sz_lt (al_lt al_1)) (al_kd al_1) rfl rfl (w_X0_mostFelled X 1 al_1 mem _ h) rfl (Nat.le_of_ble_eq_true rfl) (fun v_84 m_84 h => ?_)
              exact go_iret dX8_alley_87 rfl (Nat.le_refl _) (Nat.le_refl _) ⟨_, rfl, h⟩
            · have h := h.2 hn5
              have hq5 := tab_ne hn5 (a := 5) (by decide)
              refine gc_tabOut 88 dX8_alley_1 (by have q := tab_out (x := p0) (lo := 0) (hi := 5) (fun j h1 h2 => by rcases (show j = 0 ∨ j = 1 ∨ j = 2 ∨ j = 3 ∨ j = 4 ∨ j = 5 by omega) with rfl | rfl | rfl | rfl | rfl | rfl <;> assumption); exact q) (by decide) ?_
              refine gc_ldc (v := (-1000000001)) dX8_alley_88 lk_X8_74 ?_
              exact go_iret dX8_alley_90 rfl (Nat.le_refl _) (Nat.le_refl _) ⟨_, rfl, h⟩
