def L_J7_fill_53178_5 (a1 : Nat) (n1 : Nat) (p1 : Int32) (K : Mm → Prop) : Nat → Int32 → Int32 → Int32 → Mm → Prop
  | 0, _, _, _, _ => False
  | n + 1, l1, l2, l3, mem => (l3 ≤ l2 → (K mem)) ∧ (¬ l3 ≤ l2 → (∃ i_13 : Nat, l2 = nI i_13 ∧ i_13 < n1 ∧ (∀ m_13 : Mm, m_13 = mu mem a1 i_13 l1 → (L_J7_fill_53178_5 a1 n1 p1  K n l1 (l2 + 1) l3 m_13))))
set_option maxRecDepth 100000 in
set_option maxHeartbeats 4000000 in
theorem l_J7_fill_53178_5 (X : CX) (a1 : Nat) (n1 : Nat) (p1 : Int32) (ha1 : kd a1 = (1, 0, n1) ∧ a1 ≠ 0) (K : Mm → Prop) : ∀ (n : Nat) (l1 : Int32) (l2 : Int32) (l3 : Int32) (mem : Mm), L_J7_fill_53178_5 a1 n1 p1   K n l1 l2 l3 mem → GoC X 0 0 0 M_J7_fill_53178 5 [some (.ref (cx_n X + a1)), some (.int l1), some (.int l2), some (.int l3)] [] 0 0 (cellAt X mem) (sz mem) (qm X (fun r m => r = none ∧ K m))
  := by
  intro n
  induction n with
  | zero => intro l1 l2 l3 mem h; exact h.elim
  | succ n ih =>
    intro l1 l2 l3 mem h
    unfold L_J7_fill_53178_5 at h
    refine gc_iload_n dJ7_fill_53178_5 rfl ?_
    refine gc_iload_n dJ7_fill_53178_6 rfl ?_
    refine gc_icmp_ge 20 dJ7_fill_53178_7 (by decide) (fun hc => ?_) (fun hc => ?_)
    · have h := h.1 hc
      exact go_vret dJ7_fill_53178_20 rfl (Nat.le_refl _) (Nat.le_refl _) ⟨rfl, h⟩
    · have h := h.2 hc
      refine gc_aload_n dJ7_fill_53178_10 rfl ?_
      refine gc_iload_n dJ7_fill_53178_11 rfl ?_
      refine gc_iload_n dJ7_fill_53178_12 rfl ?_
      obtain ⟨i_13, hx_13, hi_13, h⟩ := h
      refine go_iast_ i_13 dJ7_fill_53178_13 ha1.1 hx_13 hi_13 ha1.2 (fun m_13 em_13 => ?_)
      have h := h m_13 em_13
      refine gc_iinc (v := l2 + 1) dJ7_fill_53178_14 rfl rfl (by decide) ?_
      refine gc_goto 5 dJ7_fill_53178_17 (by decide) ?_
      exact ih l1 (l2 + 1) l3 m_13  h
def W_J7_fill_53178 (a1 : Nat) (n1 : Nat) (p1 : Int32) (mem : Mm) (K : Mm → Prop) : Prop := ∃ nz : Nat, L_J7_fill_53178_5 a1 n1 p1   K nz p1 0 (nI n1) mem
set_option maxRecDepth 100000 in
set_option maxHeartbeats 4000000 in
theorem w_J7_fill_53178 (X : CX) (a1 : Nat) (n1 : Nat) (ha1 : kd a1 = (1, 0, n1) ∧ a1 ≠ 0) (p1 : Int32) (mem : Mm) (K : Mm → Prop) (h : W_J7_fill_53178 a1 n1 p1 mem K) : CallsU X 0 M_J7_fill_53178 [.ref (cx_n X + a1), .int p1] mem K := by
  unfold W_J7_fill_53178 at h
  refine CallsC.ofP 2 (by decide) rfl (Nat.le_of_ble_eq_true rfl) ?_
  refine gc_iconst (v := 0) dJ7_fill_53178_0 (by decide) ?_
  refine gc_istore_n dJ7_fill_53178_1 (by decide) ?_
  refine gc_aload_n dJ7_fill_53178_2 rfl ?_
  refine go_alen dJ7_fill_53178_3 ha1.1 ?_
  refine gc_istore_n dJ7_fill_53178_4 (by decide) ?_
  obtain ⟨n9, h⟩ := h
  exact l_J7_fill_53178_5 X a1 n1 p1 ha1   K   n9 p1 0 (nI n1) mem  h
def W_X8_isWithin (p0 : Int32) (p1 : Int32) (p2 : Int32) (mem : Mm) (K : Bool → Mm → Prop) : Prop := (p0 < p1 → (K false mem)) ∧ (¬ p0 < p1 → ((p2 < p0 → (K false mem)) ∧ (¬ p2 < p0 → (K true mem))))
set_option maxRecDepth 100000 in
set_option maxHeartbeats 4000000 in
theorem w_X8_isWithin (X : CX) (p0 : Int32) (p1 : Int32) (p2 : Int32) (mem : Mm) (K : Bool → Mm → Prop) (h : W_X8_isWithin p0 p1 p2 mem K) : CallsZ X 0 M_X8_isWithin [.int p0, .int p1, .int p2] mem K := by
  unfold W_X8_isWithin at h
  refine CallsC.ofP 0 (by decide) rfl (Nat.le_of_ble_eq_true rfl) ?_
  refine gc_iload_n dX8_isWithin_0 rfl ?_
  refine gc_iload_n dX8_isWithin_1 rfl ?_
  refine gc_icmp_lt 14 dX8_isWithin_2 (by decide) (fun hc => ?_) (fun hc => ?_)
  · have h := h.1 hc
    refine gc_iconst (v := 0) dX8_isWithin_14 (by decide) ?_
    exact go_zret dX8_isWithin_15 rfl (by decide) (Nat.le_refl _) (Nat.le_refl _) ⟨false, rfl, h⟩
  · have h := h.2 hc
    refine gc_iload_n dX8_isWithin_5 rfl ?_
    refine gc_iload_n dX8_isWithin_6 rfl ?_
    refine gc_icmp_gt 14 dX8_isWithin_7 (by decide) (fun hc => ?_) (fun hc => ?_)
    · have h := h.1 hc
      refine gc_iconst (v := 0) dX8_isWithin_14 (by decide) ?_
      exact go_zret dX8_isWithin_15 rfl (by decide) (Nat.le_refl _) (Nat.le_refl _) ⟨false, rfl, h⟩
    · have h := h.2 hc
      refine gc_iconst (v := 1) dX8_isWithin_10 (by decide) ?_
      refine gc_goto 15 dX8_isWithin_11 (by decide) ?_
      exact go_zret dX8_isWithin_15 rfl (by decide) (Nat.le_refl _) (Nat.le_refl _) ⟨true, rfl, h⟩
def W_X0_take (a0 : Nat) (p0 : Int32) (p1 : Int32) (p2 : Int32) (p3 : Int32) (mem : Mm) (K : Int32 → Mm → Prop) : Prop := ((mem a0 1) < 9 → (∃ i_20 : Nat, (mem a0 1) = nI i_20 ∧ i_20 < 9 ∧ (∀ m_26 : Mm, m_26 = mu mem (a0 + 4 + i_20) 0 p0 → (∀ m_32 : Mm, m_32 = mu m_26 (a0 + 4 + i_20) 1 p1 → (∀ m_38 : Mm, m_38 = mu m_32 (a0 + 4 + i_20) 2 p2 → (∀ m_45 : Mm, m_45 = mu m_38 (a0 + 4 + i_20) 3 p3 → (∀ m_51 : Mm, m_51 = mu m_45 (a0 + 4 + i_20) 4 0 → (∀ m_57 : Mm, m_57 = mu m_51 (a0 + 4 + i_20) 5 0 → (∀ m_67 : Mm, m_67 = mu m_57 a0 1 ((m_57 a0 1) + 1) → (K ((m_67 a0 1) - 1) m_67)))))))))) ∧ (¬ (mem a0 1) < 9 → (K (-1000000003) mem))
set_option maxRecDepth 100000 in
set_option maxHeartbeats 4000000 in
theorem w_X0_take (X : CX) (a0 : Nat) (ha0 : isAl a0) (p0 : Int32) (p1 : Int32) (p2 : Int32) (p3 : Int32) (mem : Mm) (K : Int32 → Mm → Prop) (h : W_X0_take a0 p0 p1 p2 p3 mem K) : CallsI X 0 M_X0_take [.ref (cx_n X + a0), .int p0, .int p1, .int p2, .int p3] mem K := by
  unfold W_X0_take at h
  refine CallsC.ofP 1 (by decide) rfl (Nat.le_of_ble_eq_true rfl) ?_
  refine gc_aload_n dX0_take_0 rfl ?_
  refine go_getI dX0_take_1 lg_X0_17 (sz_lt (al_lt ha0)) (al_kd ha0) rfl ?_
  refine gc_bipush (v := 9) dX0_take_4 (by decide) ?_
  refine gc_icmp_lt 12 dX0_take_6 (by decide) (fun hc => ?_) (fun hc => ?_)
  · have h := h.1 hc
    refine gc_aload_n dX0_take_12 rfl ?_
    refine go_getR dX0_take_13 lg_X0_11 (sz_lt (al_lt ha0)) (al_kd ha0) rfl ?_
    refine gc_aload_n dX0_take_16 rfl ?_
    refine go_getI dX0_take_17 lg_X0_17 (sz_lt (al_lt ha0)) (al_kd ha0) rfl ?_
    obtain ⟨i_20, hx_20, hi_20, h⟩ := h
    refine go_men i_20 ha0 dX0_take_20 hx_20 hi_20 ?_
    refine gc_astore dX0_take_21 (by decide) ?_
    refine gc_aload dX0_take_23 rfl ?_
    refine gc_iload_n dX0_take_25 rfl ?_
    refine go_putI_ dX0_take_26 lp_X0_100 (sz_lt (al_man ha0 hi_20).2) (al_man ha0 hi_20).1 rfl (fun m_26 em_26 => ?_)
    have h := h m_26 em_26
    refine gc_aload dX0_take_29 rfl ?_
    refine gc_iload_n dX0_take_31 rfl ?_
    refine go_putI_ dX0_take_32 lp_X0_85 (sz_lt (al_man ha0 hi_20).2) (al_man ha0 hi_20).1 rfl (fun m_32 em_32 => ?_)
    have h := h m_32 em_32
    refine gc_aload dX0_take_35 rfl ?_
    refine gc_iload_n dX0_take_37 rfl ?_
    refine go_putI_ dX0_take_38 lp_X0_103 (sz_lt (al_man ha0 hi_20).2) (al_man ha0 hi_20).1 rfl (fun m_38 em_38 => ?_)
    have h := h m_38 em_38
    refine gc_aload dX0_take_41 rfl ?_
    refine gc_iload dX0_take_43 rfl ?_
    refine go_putI_ dX0_take_45 lp_X0_106 (sz_lt (al_man ha0 hi_20).2) (al_man ha0 hi_20).1 rfl (fun m_45 em_45 => ?_)
    have h := h m_45 em_45
    refine gc_aload dX0_take_48 rfl ?_
    refine gc_iconst (v := 0) dX0_take_50 (by decide) ?_
    refine go_putI_ dX0_take_51 lp_X0_88 (sz_lt (al_man ha0 hi_20).2) (al_man ha0 hi_20).1 rfl (fun m_51 em_51 => ?_)
    have h := h m_51 em_51
    refine gc_aload dX0_take_54 rfl ?_
    refine gc_iconst (v := 0) dX0_take_56 (by decide) ?_
    refine go_putZ_ dX0_take_57 lp_X0_71 (sz_lt (al_man ha0 hi_20).2) (al_man ha0 hi_20).1 rfl (by decide) (fun m_57 em_57 => ?_)
    have h := h m_57 em_57
    refine gc_aload_n dX0_take_60 rfl ?_
    refine gc_dup dX0_take_61 rfl ?_
    refine go_getI dX0_take_62 lg_X0_17 (sz_lt (al_lt ha0)) (al_kd ha0) rfl ?_
    refine gc_iconst (v := 1) dX0_take_65 (by decide) ?_
    refine gc_iadd dX0_take_66 ?_
    refine go_putI_ dX0_take_67 lp_X0_17 (sz_lt (al_lt ha0)) (al_kd ha0) rfl (fun m_67 em_67 => ?_)
    have h := h m_67 em_67
    refine gc_aload_n dX0_take_70 rfl ?_
    refine go_getI dX0_take_71 lg_X0_17 (sz_lt (al_lt ha0)) (al_kd ha0) rfl ?_
    refine gc_iconst (v := 1) dX0_take_74 (by decide) ?_
    refine gc_isub dX0_take_75 ?_
    exact go_iret dX0_take_76 rfl (Nat.le_refl _) (Nat.le_refl _) ⟨_, rfl, h⟩
  · have h := h.2 hc
    refine gc_ldc (v := (-1000000003)) dX0_take_9 lk_X0_99 ?_
    exact go_iret dX0_take_11 rfl (Nat.le_refl _) (Nat.le_refl _) ⟨_, rfl, h⟩
def W_X8_man (p0 : Int32) (p1 : Int32) (p2 : Int32) (p3 : Int32) (mem : Mm) (K : Int32 → Mm → Prop) : Prop := W_X8_isWithin p0 0 5 mem (fun v_3 m_3 => ((bZ v_3) = 0 → (K (-1000000001) m_3)) ∧ (¬ (bZ v_3) = 0 → (W_X8_isWithin p1 0 99 m_3 (fun v_13 m_13 => ((bZ v_13) = 0 → (K (-1000000001) m_13)) ∧ (¬ (bZ v_13) = 0 → (W_X8_isWithin p2 0 99 m_13 (fun v_23 m_23 => ((bZ v_23) = 0 → (K (-1000000001) m_23)) ∧ (¬ (bZ v_23) = 0 → (W_X8_isWithin p3 0 7 m_23 (fun v_34 m_34 => (¬ (bZ v_34) = 0 → (((m_34 1 1) < 9 → (W_X0_take 1 p0 p1 p2 p3 m_34 (fun v_67 m_67 => K v_67 m_67))) ∧ (¬ (m_34 1 1) < 9 → (K (-1000000003) m_34)))) ∧ ((bZ v_34) = 0 → (K (-1000000001) m_34))))))))))))
set_option maxRecDepth 100000 in
set_option maxHeartbeats 4000000 in
theorem w_X8_man (X : CX) (p0 : Int32) (p1 : Int32) (p2 : Int32) (p3 : Int32) (mem : Mm) (K : Int32 → Mm → Prop) (h : W_X8_man p0 p1 p2 p3 mem K) : CallsI X 1 M_X8_man [.ref (cx_n X + 0), .int p0, .int p1, .int p2, .int p3] mem K := by
  unfold W_X8_man at h
  refine CallsC.ofP 0 (by decide) rfl (Nat.le_of_ble_eq_true rfl) ?_
  refine gc_iload_n dX8_man_0 rfl ?_
  refine gc_iconst (v := 0) dX8_man_1 (by decide) ?_
  refine gc_iconst (v := 5) dX8_man_2 (by decide) ?_
  refine go_cSZ (y := M_X8_isWithin) (As := [.int p0, .int 0, .int 5]) (rest := []) dX8_man_3 lm_X8_70 ok_X8_isWithin (by decide) (w_X8_isWithin X p0 0 5 mem _ h) rfl (Nat.le_of_ble_eq_true rfl) (fun v_3 m_3 h => ?_)
  refine gc_if_eq 40 dX8_man_6 (by decide) (fun hc => ?_) (fun hc => ?_)
  · have h := h.1 hc
    refine gc_ldc (v := (-1000000001)) dX8_man_40 lk_X8_74 ?_
    exact go_iret dX8_man_42 rfl (Nat.le_refl _) (Nat.le_refl _) ⟨_, rfl, h⟩
  · have h := h.2 hc
    refine gc_iload_n dX8_man_9 rfl ?_
    refine gc_iconst (v := 0) dX8_man_10 (by decide) ?_
    refine gc_bipush (v := 99) dX8_man_11 (by decide) ?_
    refine go_cSZ (y := M_X8_isWithin) (As := [.int p1, .int 0, .int 99]) (rest := []) dX8_man_13 lm_X8_70 ok_X8_isWithin (by decide) (w_X8_isWithin X p1 0 99 m_3 _ h) rfl (Nat.le_of_ble_eq_true rfl) (fun v_13 m_13 h => ?_)
    refine gc_if_eq 40 dX8_man_16 (by decide) (fun hc => ?_) (fun hc => ?_)
    · have h := h.1 hc
      refine gc_ldc (v := (-1000000001)) dX8_man_40 lk_X8_74 ?_
      exact go_iret dX8_man_42 rfl (Nat.le_refl _) (Nat.le_refl _) ⟨_, rfl, h⟩
    · have h := h.2 hc
      refine gc_iload_n dX8_man_19 rfl ?_
      refine gc_iconst (v := 0) dX8_man_20 (by decide) ?_
      refine gc_bipush (v := 99) dX8_man_21 (by decide) ?_
      refine go_cSZ (y := M_X8_isWithin) (As := [.int p2, .int 0, .int 99]) (rest := []) dX8_man_23 lm_X8_70 ok_X8_isWithin (by decide) (w_X8_isWithin X p2 0 99 m_13 _ h) rfl (Nat.le_of_ble_eq_true rfl) (fun v_23 m_23 h => ?_)
      refine gc_if_eq 40 dX8_man_26 (by decide) (fun hc => ?_) (fun hc => ?_)
      · have h := h.1 hc
        refine gc_ldc (v := (-1000000001)) dX8_man_40 lk_X8_74 ?_
        exact go_iret dX8_man_42 rfl (Nat.le_refl _) (Nat.le_refl _) ⟨_, rfl, h⟩
      · have h := h.2 hc
        refine gc_iload dX8_man_29 rfl ?_
        refine gc_iconst (v := 0) dX8_man_31 (by decide) ?_
        refine gc_bipush (v := 7) dX8_man_32 (by decide) ?_
        refine go_cSZ (y := M_X8_isWithin) (As := [.int p3, .int 0, .int 7]) (rest := []) dX8_man_34 lm_X8_70 ok_X8_isWithin (by decide) (w_X8_isWithin X p3 0 7 m_23 _ h) rfl (Nat.le_of_ble_eq_true rfl) (fun v_34 m_34 h => ?_)
        refine gc_if_ne 43 dX8_man_37 (by decide) (fun hc => ?_) (fun hc => ?_)
        · have h := h.1 hc
          refine gc_aload_n dX8_man_43 rfl ?_
          refine go_getR dX8_man_44 lg_X8_10 (sz_lt (by decide)) kd_0 rfl ?_
          refine go_getI dX8_man_47 lg_X8_75 (sz_lt (al_lt al_1)) (al_kd al_1) rfl ?_
          refine gc_bipush (v := 9) dX8_man_50 (by decide) ?_
          refine gc_icmp_lt 58 dX8_man_52 (by decide) (fun hc => ?_) (fun hc => ?_)
          · have h := h.1 hc
            refine gc_aload_n dX8_man_58 rfl ?_
            refine go_getR dX8_man_59 lg_X8_10 (sz_lt (by decide)) kd_0 rfl ?_
            refine gc_iload_n dX8_man_62 rfl ?_
            refine gc_iload_n dX8_man_63 rfl ?_
            refine gc_iload_n dX8_man_64 rfl ?_
            refine gc_iload dX8_man_65 rfl ?_
            refine go_cVI (y := M_X0_take) (As := [.int p0, .int p1, .int p2, .int p3]) (rest := []) dX8_man_67 lm_X8_79 ok_X0_take (by decide) (sz_lt (al_lt al_1)) (al_kd al_1) rfl rfl (w_X0_take X 1 al_1 p0 p1 p2 p3 m_34 _ h) rfl (Nat.le_of_ble_eq_true rfl) (fun v_67 m_67 h => ?_)
            exact go_iret dX8_man_70 rfl (Nat.le_refl _) (Nat.le_refl _) ⟨_, rfl, h⟩
          · have h := h.2 hc
            refine gc_ldc (v := (-1000000003)) dX8_man_55 lk_X8_78 ?_
            exact go_iret dX8_man_57 rfl (Nat.le_refl _) (Nat.le_refl _) ⟨_, rfl, h⟩
        · have h := h.2 hc
          refine gc_ldc (v := (-1000000001)) dX8_man_40 lk_X8_74 ?_
          exact go_iret dX8_man_42 rfl (Nat.le_refl _) (Nat.le_refl _) ⟨_, rfl, h⟩
def W_X0_has (a0 : Nat) (p0 : Int32) (mem : Mm) (K : Bool → Mm → Prop) : Prop := (p0 < 0 → (K false mem)) ∧ (¬ p0 < 0 → (((mem a0 1) ≤ p0 → (K false mem)) ∧ (¬ (mem a0 1) ≤ p0 → (K true mem))))
set_option maxRecDepth 100000 in
set_option maxHeartbeats 4000000 in
theorem w_X0_has (X : CX) (a0 : Nat) (ha0 : isAl a0) (p0 : Int32) (mem : Mm) (K : Bool → Mm → Prop) (h : W_X0_has a0 p0 mem K) : CallsZ X 0 M_X0_has [.ref (cx_n X + a0), .int p0] mem K := by
  unfold W_X0_has at h
  refine CallsC.ofP 0 (by decide) rfl (Nat.le_of_ble_eq_true rfl) ?_
  refine gc_iload_n dX0_has_0 rfl ?_
  refine gc_if_lt 16 dX0_has_1 (by decide) (fun hc => ?_) (fun hc => ?_)
  · have h := h.1 hc
    refine gc_iconst (v := 0) dX0_has_16 (by decide) ?_
    exact go_zret dX0_has_17 rfl (by decide) (Nat.le_refl _) (Nat.le_refl _) ⟨false, rfl, h⟩
  · have h := h.2 hc
    refine gc_iload_n dX0_has_4 rfl ?_
    refine gc_aload_n dX0_has_5 rfl ?_
    refine go_getI dX0_has_6 lg_X0_17 (sz_lt (al_lt ha0)) (al_kd ha0) rfl ?_
    refine gc_icmp_ge 16 dX0_has_9 (by decide) (fun hc => ?_) (fun hc => ?_)
    · have h := h.1 hc
      refine gc_iconst (v := 0) dX0_has_16 (by decide) ?_
      exact go_zret dX0_has_17 rfl (by decide) (Nat.le_refl _) (Nat.le_refl _) ⟨false, rfl, h⟩
    · have h := h.2 hc
      refine gc_iconst (v := 1) dX0_has_12 (by decide) ?_
      refine gc_goto 17 dX0_has_13 (by decide) ?_
      exact go_zret dX0_has_17 rfl (by decide) (Nat.le_refl _) (Nat.le_refl _) ⟨true, rfl, h⟩
def W_X1_pushing (a0 : Nat) (mem : Mm) (K : Int32 → Mm → Prop) : Prop := ((mem a0 0) = 1 → (K ((mem a0 2) + 15) mem)) ∧ (¬ (mem a0 0) = 1 → (((mem a0 0) = 2 → (K ((mem a0 2) - 10) mem)) ∧ (¬ (mem a0 0) = 2 → (((mem a0 0) = 3 → (K (((mem a0 2) + 15) / 2) mem)) ∧ (¬ (mem a0 0) = 3 → (((mem a0 0) = 4 → (K (2 * ((mem a0 2) - 10)) mem)) ∧ (¬ (mem a0 0) = 4 → (((mem a0 0) = 5 → (K 0 mem)) ∧ (¬ (mem a0 0) = 5 → (K (mem a0 2) mem))))))))))
set_option maxRecDepth 100000 in
set_option maxHeartbeats 4000000 in
theorem w_X1_pushing (X : CX) (a0 : Nat) (ha0 : isMan a0) (mem : Mm) (K : Int32 → Mm → Prop) (h : W_X1_pushing a0 mem K) : CallsI X 0 M_X1_pushing [.ref (cx_n X + a0)] mem K := by
  unfold W_X1_pushing at h
  refine CallsC.ofP 0 (by decide) rfl (Nat.le_of_ble_eq_true rfl) ?_
  refine gc_aload_n dX1_pushing_0 rfl ?_
  refine go_getI dX1_pushing_1 lg_X1_9 (sz_lt ha0.2) ha0.1 rfl ?_
  by_cases hn0 : (mem a0 0) = 1
  · have h := h.1 hn0
    refine gc_tabIn (off := 36) 40 dX1_pushing_4 (by rw [hn0]; decide) (by rw [hn0]; decide) (by rw [hn0]; rfl) (by decide) ?_
    refine gc_aload_n dX1_pushing_40 rfl ?_
    refine go_getI dX1_pushing_41 lg_X1_18 (sz_lt ha0.2) ha0.1 rfl ?_
    refine gc_bipush (v := 15) dX1_pushing_44 (by decide) ?_
    refine gc_iadd dX1_pushing_46 ?_
    exact go_iret dX1_pushing_47 rfl (Nat.le_refl _) (Nat.le_refl _) ⟨_, rfl, h⟩
  · have h := h.2 hn0
    have hq0 := tab_ne hn0 (a := 1) (by decide)
    by_cases hn1 : (mem a0 0) = 2
    · have h := h.1 hn1
      refine gc_tabIn (off := 54) 58 dX1_pushing_4 (by rw [hn1]; decide) (by rw [hn1]; decide) (by rw [hn1]; rfl) (by decide) ?_
      refine gc_aload_n dX1_pushing_58 rfl ?_
      refine go_getI dX1_pushing_59 lg_X1_18 (sz_lt ha0.2) ha0.1 rfl ?_
      refine gc_bipush (v := 10) dX1_pushing_62 (by decide) ?_
      refine gc_isub dX1_pushing_64 ?_
      exact go_iret dX1_pushing_65 rfl (Nat.le_refl _) (Nat.le_refl _) ⟨_, rfl, h⟩
    · have h := h.2 hn1
      have hq1 := tab_ne hn1 (a := 2) (by decide)
      by_cases hn2 : (mem a0 0) = 3
      · have h := h.1 hn2
        refine gc_tabIn (off := 44) 48 dX1_pushing_4 (by rw [hn2]; decide) (by rw [hn2]; decide) (by rw [hn2]; rfl) (by decide) ?_
        refine gc_aload_n dX1_pushing_48 rfl ?_
        refine go_getI dX1_pushing_49 lg_X1_18 (sz_lt ha0.2) ha0.1 rfl ?_
        refine gc_bipush (v := 15) dX1_pushing_52 (by decide) ?_
        refine gc_iadd dX1_pushing_54 ?_
        refine gc_iconst (v := 2) dX1_pushing_55 (by decide) ?_
        refine gc_idiv dX1_pushing_56 (by decide) ?_
        exact go_iret dX1_pushing_57 rfl (Nat.le_refl _) (Nat.le_refl _) ⟨_, rfl, h⟩
      · have h := h.2 hn2
        have hq2 := tab_ne hn2 (a := 3) (by decide)
        by_cases hn3 : (mem a0 0) = 4
        · have h := h.1 hn3
          refine gc_tabIn (off := 62) 66 dX1_pushing_4 (by rw [hn3]; decide) (by rw [hn3]; decide) (by rw [hn3]; rfl) (by decide) ?_
          refine gc_iconst (v := 2) dX1_pushing_66 (by decide) ?_
          refine gc_aload_n dX1_pushing_67 rfl ?_
          refine go_getI dX1_pushing_68 lg_X1_18 (sz_lt ha0.2) ha0.1 rfl ?_
          refine gc_bipush (v := 10) dX1_pushing_71 (by decide) ?_
          refine gc_isub dX1_pushing_73 ?_
          refine gc_imul dX1_pushing_74 ?_
          exact go_iret dX1_pushing_75 rfl (Nat.le_refl _) (Nat.le_refl _) ⟨_, rfl, h⟩
        · have h := h.2 hn3
          have hq3 := tab_ne hn3 (a := 4) (by decide)
          by_cases hn4 : (mem a0 0) = 5
          · have h := h.1 hn4
            refine gc_tabIn (off := 72) 76 dX1_pushing_4 (by rw [hn4]; decide) (by rw [hn4]; decide) (by rw [hn4]; rfl) (by decide) ?_
            refine gc_iconst (v := 0) dX1_pushing_76 (by decide) ?_
            exact go_iret dX1_pushing_77 rfl (Nat.le_refl _) (Nat.le_refl _) ⟨_, rfl, h⟩
          · have h := h.2 hn4
            have hq4 := tab_ne hn4 (a := 5) (by decide)
            refine gc_tabOut 78 dX1_pushing_4 (by have q := tab_out (x := (mem a0 0)) (lo := 1) (hi := 5) (fun j h1 h2 => by rcases (show j = 1 ∨ j = 2 ∨ j = 3 ∨ j = 4 ∨ j = 5 by omega) with rfl | rfl | rfl | rfl | rfl <;> assumption); exact q) (by decide) ?_
            refine gc_aload_n dX1_pushing_78 rfl ?_
            refine go_getI dX1_pushing_79 lg_X1_18 (sz_lt ha0.2) ha0.1 rfl ?_
            exact go_iret dX1_pushing_82 rfl (Nat.le_refl _) (Nat.le_refl _) ⟨_, rfl, h⟩
def W_X1_worth (a0 : Nat) (mem : Mm) (K : Int32 → Mm → Prop) : Prop := ((mem a0 0) = 1 → (K ((mem a0 4) + (mem a0 2)) mem)) ∧ (¬ (mem a0 0) = 1 → (((mem a0 0) = 2 → (K (99 - (mem a0 1)) mem)) ∧ (¬ (mem a0 0) = 2 → (((mem a0 0) = 3 → (K (5 * ((mem a0 4) + (mem a0 2))) mem)) ∧ (¬ (mem a0 0) = 3 → (((mem a0 0) = 4 → (K ((99 - (mem a0 1)) / 2) mem)) ∧ (¬ (mem a0 0) = 4 → (((mem a0 0) = 5 → (K 500 mem)) ∧ (¬ (mem a0 0) = 5 → (K (mem a0 4) mem))))))))))
set_option maxRecDepth 100000 in
set_option maxHeartbeats 4000000 in
theorem w_X1_worth (X : CX) (a0 : Nat) (ha0 : isMan a0) (mem : Mm) (K : Int32 → Mm → Prop) (h : W_X1_worth a0 mem K) : CallsI X 0 M_X1_worth [.ref (cx_n X + a0)] mem K := by
  unfold W_X1_worth at h
  refine CallsC.ofP 0 (by decide) rfl (Nat.le_of_ble_eq_true rfl) ?_
  refine gc_aload_n dX1_worth_0 rfl ?_
  refine go_getI dX1_worth_1 lg_X1_9 (sz_lt ha0.2) ha0.1 rfl ?_
  by_cases hn0 : (mem a0 0) = 1
  · have h := h.1 hn0
    refine gc_tabIn (off := 36) 40 dX1_worth_4 (by rw [hn0]; decide) (by rw [hn0]; decide) (by rw [hn0]; rfl) (by decide) ?_
    refine gc_aload_n dX1_worth_40 rfl ?_
    refine go_getI dX1_worth_41 lg_X1_24 (sz_lt ha0.2) ha0.1 rfl ?_
    refine gc_aload_n dX1_worth_44 rfl ?_
    refine go_getI dX1_worth_45 lg_X1_18 (sz_lt ha0.2) ha0.1 rfl ?_
    refine gc_iadd dX1_worth_48 ?_
    exact go_iret dX1_worth_49 rfl (Nat.le_refl _) (Nat.le_refl _) ⟨_, rfl, h⟩
  · have h := h.2 hn0
    have hq0 := tab_ne hn0 (a := 1) (by decide)
    by_cases hn1 : (mem a0 0) = 2
    · have h := h.1 hn1
      refine gc_tabIn (off := 58) 62 dX1_worth_4 (by rw [hn1]; decide) (by rw [hn1]; decide) (by rw [hn1]; rfl) (by decide) ?_
      refine gc_bipush (v := 99) dX1_worth_62 (by decide) ?_
      refine gc_aload_n dX1_worth_64 rfl ?_
      refine go_getI dX1_worth_65 lg_X1_15 (sz_lt ha0.2) ha0.1 rfl ?_
      refine gc_isub dX1_worth_68 ?_
      exact go_iret dX1_worth_69 rfl (Nat.le_refl _) (Nat.le_refl _) ⟨_, rfl, h⟩
    · have h := h.2 hn1
      have hq1 := tab_ne hn1 (a := 2) (by decide)
      by_cases hn2 : (mem a0 0) = 3
      · have h := h.1 hn2
        refine gc_tabIn (off := 46) 50 dX1_worth_4 (by rw [hn2]; decide) (by rw [hn2]; decide) (by rw [hn2]; rfl) (by decide) ?_
        refine gc_iconst (v := 5) dX1_worth_50 (by decide) ?_
        refine gc_aload_n dX1_worth_51 rfl ?_
        refine go_getI dX1_worth_52 lg_X1_24 (sz_lt ha0.2) ha0.1 rfl ?_
        refine gc_aload_n dX1_worth_55 rfl ?_
        refine go_getI dX1_worth_56 lg_X1_18 (sz_lt ha0.2) ha0.1 rfl ?_
        refine gc_iadd dX1_worth_59 ?_
        refine gc_imul dX1_worth_60 ?_
        exact go_iret dX1_worth_61 rfl (Nat.le_refl _) (Nat.le_refl _) ⟨_, rfl, h⟩
      · have h := h.2 hn2
        have hq2 := tab_ne hn2 (a := 3) (by decide)
        by_cases hn3 : (mem a0 0) = 4
        · have h := h.1 hn3
          refine gc_tabIn (off := 66) 70 dX1_worth_4 (by rw [hn3]; decide) (by rw [hn3]; decide) (by rw [hn3]; rfl) (by decide) ?_
          refine gc_bipush (v := 99) dX1_worth_70 (by decide) ?_
          refine gc_aload_n dX1_worth_72 rfl ?_
          refine go_getI dX1_worth_73 lg_X1_15 (sz_lt ha0.2) ha0.1 rfl ?_
          refine gc_isub dX1_worth_76 ?_
          refine gc_iconst (v := 2) dX1_worth_77 (by decide) ?_
          refine gc_idiv dX1_worth_78 (by decide) ?_
          exact go_iret dX1_worth_79 rfl (Nat.le_refl _) (Nat.le_refl _) ⟨_, rfl, h⟩
        · have h := h.2 hn3
          have hq3 := tab_ne hn3 (a := 4) (by decide)
          by_cases hn4 : (mem a0 0) = 5
          · have h := h.1 hn4
            refine gc_tabIn (off := 76) 80 dX1_worth_4 (by rw [hn4]; decide) (by rw [hn4]; decide) (by rw [hn4]; rfl) (by decide) ?_
            refine gc_sipush (v := 500) dX1_worth_80 (by decide) ?_
            exact go_iret dX1_worth_83 rfl (Nat.le_refl _) (Nat.le_refl _) ⟨_, rfl, h⟩
          · have h := h.2 hn4
            have hq4 := tab_ne hn4 (a := 5) (by decide)
            refine gc_tabOut 84 dX1_worth_4 (by have q := tab_out (x := (mem a0 0)) (lo := 1) (hi := 5) (fun j h1 h2 => by rcases (show j = 1 ∨ j = 2 ∨ j = 3 ∨ j = 4 ∨ j = 5 by omega) with rfl | rfl | rfl | rfl | rfl <;> assumption); exact q) (by decide) ?_
            refine gc_aload_n dX1_worth_84 rfl ?_
            refine go_getI dX1_worth_85 lg_X1_24 (sz_lt ha0.2) ha0.1 rfl ?_
            exact go_iret dX1_worth_88 rfl (Nat.le_refl _) (Nat.le_refl _) ⟨_, rfl, h⟩
def W_X8_told (p0 : Int32) (p1 : Int32) (mem : Mm) (K : Int32 → Mm → Prop) : Prop := W_X0_has 1 p0 mem (fun v_5 m_5 => (¬ (bZ v_5) = 0 → (∃ i_22 : Nat, p0 = nI i_22 ∧ i_22 < 9 ∧ ((p1 = 0 → (K (m_5 (1 + 4 + i_22) 0) m_5)) ∧ (¬ p1 = 0 → ((p1 = 1 → (K (m_5 (1 + 4 + i_22) 1) m_5)) ∧ (¬ p1 = 1 → ((p1 = 2 → (K (m_5 (1 + 4 + i_22) 2) m_5)) ∧ (¬ p1 = 2 → ((p1 = 3 → (K (m_5 (1 + 4 + i_22) 3) m_5)) ∧ (¬ p1 = 3 → ((p1 = 4 → (K (m_5 (1 + 4 + i_22) 4) m_5)) ∧ (¬ p1 = 4 → ((p1 = 5 → (((m_5 (1 + 4 + i_22) 5) = 0 → (K 0 m_5)) ∧ (¬ (m_5 (1 + 4 + i_22) 5) = 0 → (K 1 m_5)))) ∧ (¬ p1 = 5 → ((p1 = 6 → (W_X1_pushing (1 + 4 + i_22) m_5 (fun v_111 m_111 => K v_111 m_111))) ∧ (¬ p1 = 6 → ((p1 = 7 → (W_X1_worth (1 + 4 + i_22) m_5 (fun v_116 m_116 => K v_116 m_116))) ∧ (¬ p1 = 7 → (K (-1000000001) m_5))))))))))))))))))) ∧ ((bZ v_5) = 0 → (K (-1000000001) m_5)))
set_option maxRecDepth 100000 in
set_option maxHeartbeats 4000000 in
theorem w_X8_told (X : CX) (p0 : Int32) (p1 : Int32) (mem : Mm) (K : Int32 → Mm → Prop) (h : W_X8_told p0 p1 mem K) : CallsI X 1 M_X8_told [.ref (cx_n X + 0), .int p0, .int p1] mem K := by
  unfold W_X8_told at h
  refine CallsC.ofP 1 (by decide) rfl (Nat.le_of_ble_eq_true rfl) ?_
  refine gc_aload_n dX8_told_0 rfl ?_
  refine go_getR dX8_told_1 lg_X8_10 (sz_lt (by decide)) kd_0 rfl ?_
  refine gc_iload_n dX8_told_4 rfl ?_
  refine go_cVZ (y := M_X0_has) (As := [.int p0]) (rest := []) dX8_told_5 lm_X8_83 ok_X0_has (by decide) (sz_lt (al_lt al_1)) (al_kd al_1) rfl rfl (w_X0_has X 1 al_1 p0 mem _ h) rfl (Nat.le_of_ble_eq_true rfl) (fun v_5 m_5 h => ?_)
  refine gc_if_ne 14 dX8_told_8 (by decide) (fun hc => ?_) (fun hc => ?_)
  · have h := h.1 hc
    refine gc_aload_n dX8_told_14 rfl ?_
    refine go_getR dX8_told_15 lg_X8_10 (sz_lt (by decide)) kd_0 rfl ?_
    refine go_getR dX8_told_18 lg_X8_87 (sz_lt (al_lt al_1)) (al_kd al_1) rfl ?_
    refine gc_iload_n dX8_told_21 rfl ?_
    obtain ⟨i_22, hx_22, hi_22, h⟩ := h
    refine go_men i_22 al_1 dX8_told_22 hx_22 hi_22 ?_
    refine gc_astore_n dX8_told_23 (by decide) ?_
    refine gc_iload_n dX8_told_24 rfl ?_
    by_cases hn0 : p1 = 0
    · have h := h.1 hn0
      refine gc_tabIn (off := 47) 72 dX8_told_25 (by rw [hn0]; decide) (by rw [hn0]; decide) (by rw [hn0]; rfl) (by decide) ?_
      refine gc_aload_n dX8_told_72 rfl ?_
      refine go_getI dX8_told_73 lg_X8_91 (sz_lt (al_man al_1 hi_22).2) (al_man al_1 hi_22).1 rfl ?_
      exact go_iret dX8_told_76 rfl (Nat.le_refl _) (Nat.le_refl _) ⟨_, rfl, h⟩
    · have h := h.2 hn0
      have hq0 := tab_ne hn0 (a := 0) (by decide)
      by_cases hn1 : p1 = 1
      · have h := h.1 hn1
        refine gc_tabIn (off := 52) 77 dX8_told_25 (by rw [hn1]; decide) (by rw [hn1]; decide) (by rw [hn1]; rfl) (by decide) ?_
        refine gc_aload_n dX8_told_77 rfl ?_
        refine go_getI dX8_told_78 lg_X8_96 (sz_lt (al_man al_1 hi_22).2) (al_man al_1 hi_22).1 rfl ?_
        exact go_iret dX8_told_81 rfl (Nat.le_refl _) (Nat.le_refl _) ⟨_, rfl, h⟩
      · have h := h.2 hn1
        have hq1 := tab_ne hn1 (a := 1) (by decide)
        by_cases hn2 : p1 = 2
        · have h := h.1 hn2
          refine gc_tabIn (off := 57) 82 dX8_told_25 (by rw [hn2]; decide) (by rw [hn2]; decide) (by rw [hn2]; rfl) (by decide) ?_
          refine gc_aload_n dX8_told_82 rfl ?_
          refine go_getI dX8_told_83 lg_X8_99 (sz_lt (al_man al_1 hi_22).2) (al_man al_1 hi_22).1 rfl ?_
          exact go_iret dX8_told_86 rfl (Nat.le_refl _) (Nat.le_refl _) ⟨_, rfl, h⟩
        · have h := h.2 hn2
          have hq2 := tab_ne hn2 (a := 2) (by decide)
          by_cases hn3 : p1 = 3
          · have h := h.1 hn3
            refine gc_tabIn (off := 62) 87 dX8_told_25 (by rw [hn3]; decide) (by rw [hn3]; decide) (by rw [hn3]; rfl) (by decide) ?_
            refine gc_aload_n dX8_told_87 rfl ?_
            refine go_getI dX8_told_88 lg_X8_102 (sz_lt (al_man al_1 hi_22).2) (al_man al_1 hi_22).1 rfl ?_
            exact go_iret dX8_told_91 rfl (Nat.le_refl _) (Nat.le_refl _) ⟨_, rfl, h⟩
          · have h := h.2 hn3
            have hq3 := tab_ne hn3 (a := 3) (by decide)
            by_cases hn4 : p1 = 4
            · have h := h.1 hn4
              refine gc_tabIn (off := 67) 92 dX8_told_25 (by rw [hn4]; decide) (by rw [hn4]; decide) (by rw [hn4]; rfl) (by decide) ?_
              refine gc_aload_n dX8_told_92 rfl ?_
              refine go_getI dX8_told_93 lg_X8_105 (sz_lt (al_man al_1 hi_22).2) (al_man al_1 hi_22).1 rfl ?_
              exact go_iret dX8_told_96 rfl (Nat.le_refl _) (Nat.le_refl _) ⟨_, rfl, h⟩
            · have h := h.2 hn4
              have hq4 := tab_ne hn4 (a := 4) (by decide)
              by_cases hn5 : p1 = 5
              · have h := h.1 hn5
                refine gc_tabIn (off := 72) 97 dX8_told_25 (by rw [hn5]; decide) (by rw [hn5]; decide) (by rw [hn5]; rfl) (by decide) ?_
                refine gc_aload_n dX8_told_97 rfl ?_
                refine go_getI dX8_told_98 lg_X8_108 (sz_lt (al_man al_1 hi_22).2) (al_man al_1 hi_22).1 rfl ?_
                refine gc_if_eq 108 dX8_told_101 (by decide) (fun hc => ?_) (fun hc => ?_)
                · have h := h.1 hc
                  refine gc_iconst (v := 0) dX8_told_108 (by decide) ?_
                  exact go_iret dX8_told_109 rfl (Nat.le_refl _) (Nat.le_refl _) ⟨_, rfl, h⟩
                · have h := h.2 hc
                  refine gc_iconst (v := 1) dX8_told_104 (by decide) ?_
                  refine gc_goto 109 dX8_told_105 (by decide) ?_
                  exact go_iret dX8_told_109 rfl (Nat.le_refl _) (Nat.le_refl _) ⟨_, rfl, h⟩
              · have h := h.2 hn5
                have hq5 := tab_ne hn5 (a := 5) (by decide)
                by_cases hn6 : p1 = 6
                · have h := h.1 hn6
                  refine gc_tabIn (off := 85) 110 dX8_told_25 (by rw [hn6]; decide) (by rw [hn6]; decide) (by rw [hn6]; rfl) (by decide) ?_
                  refine gc_aload_n dX8_told_110 rfl ?_
                  refine go_cVI (y := M_X1_pushing) (As := []) (rest := []) dX8_told_111 lm_X8_111 ok_X1_pushing (by decide) (sz_lt (al_man al_1 hi_22).2) (al_man al_1 hi_22).1 rfl rfl (w_X1_pushing X (1 + 4 + i_22) (al_man al_1 hi_22) m_5 _ h) rfl (Nat.le_of_ble_eq_true rfl) (fun v_111 m_111 h => ?_)
                  exact go_iret dX8_told_114 rfl (Nat.le_refl _) (Nat.le_refl _) ⟨_, rfl, h⟩
                · have h := h.2 hn6
                  have hq6 := tab_ne hn6 (a := 6) (by decide)
                  by_cases hn7 : p1 = 7
                  · have h := h.1 hn7
                    refine gc_tabIn (off := 90) 115 dX8_told_25 (by rw [hn7]; decide) (by rw [hn7]; decide) (by rw [hn7]; rfl) (by decide) ?_
                    refine gc_aload_n dX8_told_115 rfl ?_
                    refine go_cVI (y := M_X1_worth) (As := []) (rest := []) dX8_told_116 lm_X8_115 ok_X1_worth (by decide) (sz_lt (al_man al_1 hi_22).2) (al_man al_1 hi_22).1 rfl rfl (w_X1_worth X (1 + 4 + i_22) (al_man al_1 hi_22) m_5 _ h) rfl (Nat.le_of_ble_eq_true rfl) (fun v_116 m_116 h => ?_)
                    exact go_iret dX8_told_119 rfl (Nat.le_refl _) (Nat.le_refl _) ⟨_, rfl, h⟩
                  · have h := h.2 hn7
                    have hq7 := tab_ne hn7 (a := 7) (by decide)
                    refine gc_tabOut 120 dX8_told_25 (by have q := tab_out (x := p1) (lo := 0) (hi := 7) (fun j h1 h2 => by rcases (show j = 0 ∨ j = 1 ∨ j = 2 ∨ j = 3 ∨ j = 4 ∨ j = 5 ∨ j = 6 ∨ j = 7 by omega) with rfl | rfl | rfl | rfl | rfl | rfl | rfl | rfl <;> assumption); exact q) (by decide) ?_
                    refine gc_ldc (v := (-1000000001)) dX8_told_120 lk_X8_74 ?_
                    exact go_iret dX8_told_122 rfl (Nat.le_refl _) (Nat.le_refl _) ⟨_, rfl, h⟩
  · have h := h.2 hc
    refine gc_ldc (v := (-1000000001)) dX8_told_11 lk_X8_74 ?_
    exact go_iret dX8_told_13 rfl (Nat.le_refl _) (Nat.le_refl _) ⟨_, rfl, h⟩
def L_X0_standingSet_4 (a0 : Nat) (K : Int32 → Mm → Prop) : Nat → Int32 → Int32 → Mm → Prop
  | 0, _, _, _ => False
  | n + 1, l1, l2, mem => ((mem a0 1) ≤ l2 → (K l1 mem)) ∧ (¬ (mem a0 1) ≤ l2 → (∃ i_17 : Nat, l2 = nI i_17 ∧ i_17 < 9 ∧ ((¬ (mem (a0 + 4 + i_17) 5) = 0 → (L_X0_standingSet_4 a0  K n l1 (l2 + 1) mem)) ∧ ((mem (a0 + 4 + i_17) 5) = 0 → (L_X0_standingSet_4 a0  K n (l1 ||| (1 <<< (l2 &&& 31))) (l2 + 1) mem)))))
set_option maxRecDepth 100000 in
set_option maxHeartbeats 4000000 in
theorem l_X0_standingSet_4 (X : CX) (a0 : Nat) (ha0 : isAl a0) (K : Int32 → Mm → Prop) : ∀ (n : Nat) (l1 : Int32) (l2 : Int32) (mem : Mm), L_X0_standingSet_4 a0   K n l1 l2 mem → GoC X 0 0 0 M_X0_standingSet 4 [some (.ref (cx_n X + a0)), some (.int l1), some (.int l2)] [] 0 0 (cellAt X mem) (sz mem) (qm X (fun r m => ∃ v : Int32, r = some (.int v) ∧ K v m))
  := by
  intro n
  induction n with
  | zero => intro l1 l2 mem h; exact h.elim
  | succ n ih =>
    intro l1 l2 mem h
    unfold L_X0_standingSet_4 at h
    refine gc_iload_n dX0_standingSet_4 rfl ?_
    refine gc_aload_n dX0_standingSet_5 rfl ?_
    refine go_getI dX0_standingSet_6 lg_X0_17 (sz_lt (al_lt ha0)) (al_kd ha0) rfl ?_
    refine gc_icmp_ge 36 dX0_standingSet_9 (by decide) (fun hc => ?_) (fun hc => ?_)
    · have h := h.1 hc
      refine gc_iload_n dX0_standingSet_36 rfl ?_
      exact go_iret dX0_standingSet_37 rfl (Nat.le_refl _) (Nat.le_refl _) ⟨_, rfl, h⟩
    · have h := h.2 hc
      refine gc_aload_n dX0_standingSet_12 rfl ?_
      refine go_getR dX0_standingSet_13 lg_X0_11 (sz_lt (al_lt ha0)) (al_kd ha0) rfl ?_
      refine gc_iload_n dX0_standingSet_16 rfl ?_
      obtain ⟨i_17, hx_17, hi_17, h⟩ := h
      refine go_men i_17 ha0 dX0_standingSet_17 hx_17 hi_17 ?_
      refine go_getI dX0_standingSet_18 lg_X0_71 (sz_lt (al_man ha0 hi_17).2) (al_man ha0 hi_17).1 rfl ?_
      refine gc_if_ne 30 dX0_standingSet_21 (by decide) (fun hc => ?_) (fun hc => ?_)
      · have h := h.1 hc
        refine gc_iinc (v := l2 + 1) dX0_standingSet_30 rfl rfl (by decide) ?_
        refine gc_goto 4 dX0_standingSet_33 (by decide) ?_
        exact ih l1 (l2 + 1) mem  h
      · have h := h.2 hc
        refine gc_iload_n dX0_standingSet_24 rfl ?_
        refine gc_iconst (v := 1) dX0_standingSet_25 (by decide) ?_
        refine gc_iload_n dX0_standingSet_26 rfl ?_
        refine gc_ishl dX0_standingSet_27 ?_
        refine gc_ior dX0_standingSet_28 ?_
        refine gc_istore_n dX0_standingSet_29 (by decide) ?_
        refine gc_iinc (v := l2 + 1) dX0_standingSet_30 rfl rfl (by decide) ?_
        refine gc_goto 4 dX0_standingSet_33 (by decide) ?_
        exact ih (l1 ||| (1 <<< (l2 &&& 31))) (l2 + 1) mem  h
def W_X0_standingSet (a0 : Nat) (mem : Mm) (K : Int32 → Mm → Prop) : Prop := ∃ nz : Nat, L_X0_standingSet_4 a0   K nz 0 0 mem
set_option maxRecDepth 100000 in
set_option maxHeartbeats 4000000 in
theorem w_X0_standingSet (X : CX) (a0 : Nat) (ha0 : isAl a0) (mem : Mm) (K : Int32 → Mm → Prop) (h : W_X0_standingSet a0 mem K) : CallsI X 0 M_X0_standingSet [.ref (cx_n X + a0)] mem K := by
  unfold W_X0_standingSet at h
  refine CallsC.ofP 2 (by decide) rfl (Nat.le_of_ble_eq_true rfl) ?_
  refine gc_iconst (v := 0) dX0_standingSet_0 (by decide) ?_
  refine gc_istore_n dX0_standingSet_1 (by decide) ?_
  refine gc_iconst (v := 0) dX0_standingSet_2 (by decide) ?_
  refine gc_istore_n dX0_standingSet_3 (by decide) ?_
  obtain ⟨n9, h⟩ := h
  exact l_X0_standingSet_4 X a0 ha0   K   n9 0 0 mem  h
def W_J6_bitCount_0f7a4 (p0 : Int32) (mem : Mm) (K : Int32 → Mm → Prop) : Prop := ∀ y_9 : Int32, y_9 = p0 - (((p0.toUInt32 >>> (Int32.toUInt32 1 &&& Int32.toUInt32 31)).toInt32) &&& 1431655765) → (∀ y_23 : Int32, y_23 = (y_9 &&& 858993459) + (((y_9.toUInt32 >>> (Int32.toUInt32 2 &&& Int32.toUInt32 31)).toInt32) &&& 858993459) → (∀ y_33 : Int32, y_33 = (y_23 + ((y_23.toUInt32 >>> (Int32.toUInt32 4 &&& Int32.toUInt32 31)).toInt32)) &&& 252645135 → (∀ y_40 : Int32, y_40 = y_33 + ((y_33.toUInt32 >>> (Int32.toUInt32 8 &&& Int32.toUInt32 31)).toInt32) → (∀ y_47 : Int32, y_47 = y_40 + ((y_40.toUInt32 >>> (Int32.toUInt32 16 &&& Int32.toUInt32 31)).toInt32) → (K (y_47 &&& 63) mem)))))
set_option maxRecDepth 100000 in
set_option maxHeartbeats 4000000 in
theorem w_J6_bitCount_0f7a4 (X : CX) (p0 : Int32) (mem : Mm) (K : Int32 → Mm → Prop) (h : W_J6_bitCount_0f7a4 p0 mem K) : CallsI X 0 M_J6_bitCount_0f7a4 [.int p0] mem K := by
  unfold W_J6_bitCount_0f7a4 at h
  refine CallsC.ofP 0 (by decide) rfl (Nat.le_of_ble_eq_true rfl) ?_
  refine gc_iload_n dJ6_bitCount_0f7a4_0 rfl ?_
  refine gc_iload_n dJ6_bitCount_0f7a4_1 rfl ?_
  refine gc_iconst (v := 1) dJ6_bitCount_0f7a4_2 (by decide) ?_
  refine gc_iushr dJ6_bitCount_0f7a4_3 ?_
  refine gc_ldcw (v := 1431655765) dJ6_bitCount_0f7a4_4 lk_J6_265 ?_
  refine gc_iand dJ6_bitCount_0f7a4_7 ?_
  refine gc_isub dJ6_bitCount_0f7a4_8 ?_
  refine gc_name (fun y_9 ey_9 => ?_)
  have h := h y_9 ey_9
  refine gc_istore_n dJ6_bitCount_0f7a4_9 (by decide) ?_
  refine gc_iload_n dJ6_bitCount_0f7a4_10 rfl ?_
  refine gc_ldcw (v := 858993459) dJ6_bitCount_0f7a4_11 lk_J6_266 ?_
  refine gc_iand dJ6_bitCount_0f7a4_14 ?_
  refine gc_iload_n dJ6_bitCount_0f7a4_15 rfl ?_
  refine gc_iconst (v := 2) dJ6_bitCount_0f7a4_16 (by decide) ?_
  refine gc_iushr dJ6_bitCount_0f7a4_17 ?_
  refine gc_ldcw (v := 858993459) dJ6_bitCount_0f7a4_18 lk_J6_266 ?_
  refine gc_iand dJ6_bitCount_0f7a4_21 ?_
  refine gc_iadd dJ6_bitCount_0f7a4_22 ?_
  refine gc_name (fun y_23 ey_23 => ?_)
  have h := h y_23 ey_23
  refine gc_istore_n dJ6_bitCount_0f7a4_23 (by decide) ?_
  refine gc_iload_n dJ6_bitCount_0f7a4_24 rfl ?_
  refine gc_iload_n dJ6_bitCount_0f7a4_25 rfl ?_
  refine gc_iconst (v := 4) dJ6_bitCount_0f7a4_26 (by decide) ?_
  refine gc_iushr dJ6_bitCount_0f7a4_27 ?_
  refine gc_iadd dJ6_bitCount_0f7a4_28 ?_
  refine gc_ldcw (v := 252645135) dJ6_bitCount_0f7a4_29 lk_J6_267 ?_
  refine gc_iand dJ6_bitCount_0f7a4_32 ?_
  refine gc_name (fun y_33 ey_33 => ?_)
  have h := h y_33 ey_33
  refine gc_istore_n dJ6_bitCount_0f7a4_33 (by decide) ?_
  refine gc_iload_n dJ6_bitCount_0f7a4_34 rfl ?_
  refine gc_iload_n dJ6_bitCount_0f7a4_35 rfl ?_
  refine gc_bipush (v := 8) dJ6_bitCount_0f7a4_36 (by decide) ?_
  refine gc_iushr dJ6_bitCount_0f7a4_38 ?_
  refine gc_iadd dJ6_bitCount_0f7a4_39 ?_
  refine gc_name (fun y_40 ey_40 => ?_)
  have h := h y_40 ey_40
  refine gc_istore_n dJ6_bitCount_0f7a4_40 (by decide) ?_
  refine gc_iload_n dJ6_bitCount_0f7a4_41 rfl ?_
  refine gc_iload_n dJ6_bitCount_0f7a4_42 rfl ?_
  refine gc_bipush (v := 16) dJ6_bitCount_0f7a4_43 (by decide) ?_
  refine gc_iushr dJ6_bitCount_0f7a4_45 ?_
  refine gc_iadd dJ6_bitCount_0f7a4_46 ?_
  refine gc_name (fun y_47 ey_47 => ?_)
  have h := h y_47 ey_47
  refine gc_istore_n dJ6_bitCount_0f7a4_47 (by decide) ?_
  refine gc_iload_n dJ6_bitCount_0f7a4_48 rfl ?_
  refine gc_bipush (v := 63) dJ6_bitCount_0f7a4_49 (by decide) ?_
  refine gc_iand dJ6_bitCount_0f7a4_51 ?_
  exact go_iret dJ6_bitCount_0f7a4_52 rfl (Nat.le_refl _) (Nat.le_refl _) ⟨_, rfl, h⟩
def W_X0_standing (a0 : Nat) (mem : Mm) (K : Int32 → Mm → Prop) : Prop := W_X0_standingSet a0 mem (fun v_1 m_1 => W_J6_bitCount_0f7a4 v_1 m_1 (fun v_4 m_4 => K v_4 m_4))
set_option maxRecDepth 100000 in
set_option maxHeartbeats 4000000 in
theorem w_X0_standing (X : CX) (a0 : Nat) (ha0 : isAl a0) (mem : Mm) (K : Int32 → Mm → Prop) (h : W_X0_standing a0 mem K) : CallsI X 1 M_X0_standing [.ref (cx_n X + a0)] mem K := by
  unfold W_X0_standing at h
  refine CallsC.ofP 0 (by decide) rfl (Nat.le_of_ble_eq_true rfl) ?_
  refine gc_aload_n dX0_standing_0 rfl ?_
  refine go_cVI (y := M_X0_standingSet) (As := []) (rest := []) dX0_standing_1 lm_X0_75 ok_X0_standingSet (by decide) (sz_lt (al_lt ha0)) (al_kd ha0) rfl rfl (w_X0_standingSet X a0 ha0 mem _ h) rfl (Nat.le_of_ble_eq_true rfl) (fun v_1 m_1 h => ?_)
  refine go_cSI (y := M_J6_bitCount_0f7a4) (As := [.int v_1]) (rest := []) dX0_standing_4 lm_X0_79 ok_J6_bitCount_0f7a4 (by decide) (w_J6_bitCount_0f7a4 X v_1 m_1 _ h) rfl (Nat.le_of_ble_eq_true rfl) (fun v_4 m_4 h => ?_)
  exact go_iret dX0_standing_7 rfl (Nat.le_refl _) (Nat.le_refl _) ⟨_, rfl, h⟩
def W_X0_counted (a0 : Nat) (p0 : Int32) (mem : Mm) (K : Int32 → Mm → Prop) : Prop := ∃ i_5 : Nat, p0 = nI i_5 ∧ i_5 < 3 ∧ (W_X8_isWithin (mem (a0 + 3) i_5) 0 ((mem a0 8) - 1) mem (fun v_15 m_15 => ((bZ v_15) = 0 → (K (-1) m_15)) ∧ (¬ (bZ v_15) = 0 → (∃ i_26 : Nat, (mem (a0 + 3) i_5) = nI i_26 ∧ i_26 < 14 ∧ ((m_15 (a0 + 2) i_26 < 0 → (K (m_15 (a0 + 2) i_26) m_15)) ∧ (¬ m_15 (a0 + 2) i_26 < 0 → (K (m_15 (a0 + 2) i_26) m_15)))))))
set_option maxRecDepth 100000 in
set_option maxHeartbeats 4000000 in
theorem w_X0_counted (X : CX) (a0 : Nat) (ha0 : isAl a0) (p0 : Int32) (mem : Mm) (K : Int32 → Mm → Prop) (h : W_X0_counted a0 p0 mem K) : CallsT X 1 M_X0_counted [.ref (cx_n X + a0), .int p0] mem K := by
  unfold W_X0_counted at h
  refine CallsC.ofP 1 (by decide) rfl (Nat.le_of_ble_eq_true rfl) ?_
  refine gc_aload_n dX0_counted_0 rfl ?_
  refine go_getR dX0_counted_1 lg_X0_45 (sz_lt (al_lt ha0)) (al_kd ha0) rfl ?_
  refine gc_iload_n dX0_counted_4 rfl ?_
  obtain ⟨i_5, hx_5, hi_5, h⟩ := h
  refine go_iald i_5 dX0_counted_5 (al_ct ha0) hx_5 hi_5 ?_
  refine gc_istore_n dX0_counted_6 (by decide) ?_
  refine gc_iload_n dX0_counted_7 rfl ?_
  refine gc_iconst (v := 0) dX0_counted_8 (by decide) ?_
  refine gc_aload_n dX0_counted_9 rfl ?_
  refine go_getI dX0_counted_10 lg_X0_42 (sz_lt (al_lt ha0)) (al_kd ha0) rfl ?_
  refine gc_iconst (v := 1) dX0_counted_13 (by decide) ?_
  refine gc_isub dX0_counted_14 ?_
  refine go_cSZ (y := M_X8_isWithin) (As := [.int (mem (a0 + 3) i_5), .int 0, .int ((mem a0 8) - 1)]) (rest := []) dX0_counted_15 lm_X0_112 ok_X8_isWithin (by decide) (w_X8_isWithin X (mem (a0 + 3) i_5) 0 ((mem a0 8) - 1) mem _ h) rfl (Nat.le_of_ble_eq_true rfl) (fun v_15 m_15 h => ?_)
  refine gc_if_eq 30 dX0_counted_18 (by decide) (fun hc => ?_) (fun hc => ?_)
  · have h := h.1 hc
    refine gc_null dX0_counted_30 ?_
    exact go_tretN dX0_counted_31 rfl (Nat.le_refl _) (Nat.le_refl _) (by decide) h
  · have h := h.2 hc
    refine gc_aload_n dX0_counted_21 rfl ?_
    refine go_getR dX0_counted_22 lg_X0_38 (sz_lt (al_lt ha0)) (al_kd ha0) rfl ?_
    refine gc_iload_n dX0_counted_25 rfl ?_
    obtain ⟨i_26, hx_26, hi_26, h⟩ := h
    refine go_texts i_26 ha0 dX0_counted_26 hx_26 hi_26 (fun hv => ?_) (fun hv => ?_)
    · have h := h.1 hv
      refine gc_goto 31 dX0_counted_27 (by decide) ?_
      exact go_tretN dX0_counted_31 rfl (Nat.le_refl _) (Nat.le_refl _) hv h
    · have h := h.2 hv
      refine gc_goto 31 dX0_counted_27 (by decide) ?_
      exact go_tretR dX0_counted_31 rfl (Nat.le_refl _) (Nat.le_refl _) hv h
def W_X6_chosen (p0 : Int32) (p1 : Int32) (p2 : Int32) (p3 : Int32) (p4 : Int32) (mem : Mm) (K : Int32 → Mm → Prop) : Prop := (p0 = 0 → (K p1 mem)) ∧ (¬ p0 = 0 → ((p0 = 1 → (K p2 mem)) ∧ (¬ p0 = 1 → ((p0 = 2 → (K p3 mem)) ∧ (¬ p0 = 2 → (K p4 mem))))))
set_option maxRecDepth 100000 in
set_option maxHeartbeats 4000000 in
theorem w_X6_chosen (X : CX) (p0 : Int32) (p1 : Int32) (p2 : Int32) (p3 : Int32) (p4 : Int32) (mem : Mm) (K : Int32 → Mm → Prop) (h : W_X6_chosen p0 p1 p2 p3 p4 mem K) : CallsI X 0 M_X6_chosen [.int p0, .int p1, .int p2, .int p3, .int p4] mem K := by
  unfold W_X6_chosen at h
  refine CallsC.ofP 0 (by decide) rfl (Nat.le_of_ble_eq_true rfl) ?_
  refine gc_iload_n dX6_chosen_0 rfl ?_
  by_cases hn0 : p0 = 0
  · have h := h.1 hn0
    refine gc_tabIn (off := 27) 28 dX6_chosen_1 (by rw [hn0]; decide) (by rw [hn0]; decide) (by rw [hn0]; rfl) (by decide) ?_
    refine gc_iload_n dX6_chosen_28 rfl ?_
    exact go_iret dX6_chosen_29 rfl (Nat.le_refl _) (Nat.le_refl _) ⟨_, rfl, h⟩
  · have h := h.2 hn0
    have hq0 := tab_ne hn0 (a := 0) (by decide)
    by_cases hn1 : p0 = 1
    · have h := h.1 hn1
      refine gc_tabIn (off := 29) 30 dX6_chosen_1 (by rw [hn1]; decide) (by rw [hn1]; decide) (by rw [hn1]; rfl) (by decide) ?_
      refine gc_iload_n dX6_chosen_30 rfl ?_
      exact go_iret dX6_chosen_31 rfl (Nat.le_refl _) (Nat.le_refl _) ⟨_, rfl, h⟩
    · have h := h.2 hn1
      have hq1 := tab_ne hn1 (a := 1) (by decide)
      by_cases hn2 : p0 = 2
      · have h := h.1 hn2
        refine gc_tabIn (off := 31) 32 dX6_chosen_1 (by rw [hn2]; decide) (by rw [hn2]; decide) (by rw [hn2]; rfl) (by decide) ?_
        refine gc_iload_n dX6_chosen_32 rfl ?_
        exact go_iret dX6_chosen_33 rfl (Nat.le_refl _) (Nat.le_refl _) ⟨_, rfl, h⟩
      · have h := h.2 hn2
        have hq2 := tab_ne hn2 (a := 2) (by decide)
        refine gc_tabOut 34 dX6_chosen_1 (by have q := tab_out (x := p0) (lo := 0) (hi := 2) (fun j h1 h2 => by rcases (show j = 0 ∨ j = 1 ∨ j = 2 by omega) with rfl | rfl | rfl <;> assumption); exact q) (by decide) ?_
        refine gc_iload dX6_chosen_34 rfl ?_
        exact go_iret dX6_chosen_36 rfl (Nat.le_refl _) (Nat.le_refl _) ⟨_, rfl, h⟩
def W_X6_joined (p0 : Int32) (p1 : Int32) (p2 : Int32) (mem : Mm) (K : Int32 → Mm → Prop) : Prop := (p0 = 38 → ((p1 = 0 → (K 0 mem)) ∧ (¬ p1 = 0 → ((p2 = 0 → (K 0 mem)) ∧ (¬ p2 = 0 → (K 1 mem)))))) ∧ (¬ p0 = 38 → ((p0 = 39 → ((¬ p1 = 0 → (K 1 mem)) ∧ (p1 = 0 → ((p2 = 0 → (K 0 mem)) ∧ (¬ p2 = 0 → (K 1 mem)))))) ∧ (¬ p0 = 39 → ((p0 = 40 → ((¬ p1 = 0 → (K 1 mem)) ∧ (p1 = 0 → ((p2 = 0 → (K 0 mem)) ∧ (¬ p2 = 0 → (K 1 mem)))))) ∧ (¬ p0 = 40 → ((p0 = 41 → ((¬ p1 = 0 → (K 1 mem)) ∧ (p1 = 0 → ((p2 = 0 → (K 0 mem)) ∧ (¬ p2 = 0 → (K 1 mem)))))) ∧ (¬ p0 = 41 → ((p0 = 42 → (K (p1 * p2) mem)) ∧ (¬ p0 = 42 → ((p0 = 43 → (K (p1 + p2) mem)) ∧ (¬ p0 = 43 → ((p0 = 44 → ((¬ p1 = 0 → (K 1 mem)) ∧ (p1 = 0 → ((p2 = 0 → (K 0 mem)) ∧ (¬ p2 = 0 → (K 1 mem)))))) ∧ (¬ p0 = 44 → ((p0 = 45 → (K (p1 - p2) mem)) ∧ (¬ p0 = 45 → ((p0 = 46 → ((¬ p1 = 0 → (K 1 mem)) ∧ (p1 = 0 → ((p2 = 0 → (K 0 mem)) ∧ (¬ p2 = 0 → (K 1 mem)))))) ∧ (¬ p0 = 46 → ((p0 = 47 → ((¬ p2 = 0 → (¬ p2 = 0 ∧ (K (p1 / p2) mem))) ∧ (p2 = 0 → (K 0 mem)))) ∧ (¬ p0 = 47 → ((p0 = 48 → ((¬ p1 = 0 → (K 1 mem)) ∧ (p1 = 0 → ((p2 = 0 → (K 0 mem)) ∧ (¬ p2 = 0 → (K 1 mem)))))) ∧ (¬ p0 = 48 → ((p0 = 49 → ((¬ p1 = 0 → (K 1 mem)) ∧ (p1 = 0 → ((p2 = 0 → (K 0 mem)) ∧ (¬ p2 = 0 → (K 1 mem)))))) ∧ (¬ p0 = 49 → ((p0 = 50 → ((¬ p1 = 0 → (K 1 mem)) ∧ (p1 = 0 → ((p2 = 0 → (K 0 mem)) ∧ (¬ p2 = 0 → (K 1 mem)))))) ∧ (¬ p0 = 50 → ((p0 = 51 → ((¬ p1 = 0 → (K 1 mem)) ∧ (p1 = 0 → ((p2 = 0 → (K 0 mem)) ∧ (¬ p2 = 0 → (K 1 mem)))))) ∧ (¬ p0 = 51 → ((p0 = 52 → ((¬ p1 = 0 → (K 1 mem)) ∧ (p1 = 0 → ((p2 = 0 → (K 0 mem)) ∧ (¬ p2 = 0 → (K 1 mem)))))) ∧ (¬ p0 = 52 → ((p0 = 53 → ((¬ p1 = 0 → (K 1 mem)) ∧ (p1 = 0 → ((p2 = 0 → (K 0 mem)) ∧ (¬ p2 = 0 → (K 1 mem)))))) ∧ (¬ p0 = 53 → ((p0 = 54 → ((¬ p1 = 0 → (K 1 mem)) ∧ (p1 = 0 → ((p2 = 0 → (K 0 mem)) ∧ (¬ p2 = 0 → (K 1 mem)))))) ∧ (¬ p0 = 54 → ((p0 = 55 → ((¬ p1 = 0 → (K 1 mem)) ∧ (p1 = 0 → ((p2 = 0 → (K 0 mem)) ∧ (¬ p2 = 0 → (K 1 mem)))))) ∧ (¬ p0 = 55 → ((p0 = 56 → ((¬ p1 = 0 → (K 1 mem)) ∧ (p1 = 0 → ((p2 = 0 → (K 0 mem)) ∧ (¬ p2 = 0 → (K 1 mem)))))) ∧ (¬ p0 = 56 → ((p0 = 57 → ((¬ p1 = 0 → (K 1 mem)) ∧ (p1 = 0 → ((p2 = 0 → (K 0 mem)) ∧ (¬ p2 = 0 → (K 1 mem)))))) ∧ (¬ p0 = 57 → ((p0 = 58 → ((¬ p1 = 0 → (K 1 mem)) ∧ (p1 = 0 → ((p2 = 0 → (K 0 mem)) ∧ (¬ p2 = 0 → (K 1 mem)))))) ∧ (¬ p0 = 58 → ((p0 = 59 → ((¬ p1 = 0 → (K 1 mem)) ∧ (p1 = 0 → ((p2 = 0 → (K 0 mem)) ∧ (¬ p2 = 0 → (K 1 mem)))))) ∧ (¬ p0 = 59 → ((p0 = 60 → ((p2 ≤ p1 → (K 0 mem)) ∧ (¬ p2 ≤ p1 → (K 1 mem)))) ∧ (¬ p0 = 60 → ((p0 = 61 → ((¬ p1 = p2 → (K 0 mem)) ∧ (p1 = p2 → (K 1 mem)))) ∧ (¬ p0 = 61 → ((p0 = 62 → ((p1 ≤ p2 → (K 0 mem)) ∧ (¬ p1 ≤ p2 → (K 1 mem)))) ∧ (¬ p0 = 62 → ((¬ p1 = 0 → (K 1 mem)) ∧ (p1 = 0 → ((p2 = 0 → (K 0 mem)) ∧ (¬ p2 = 0 → (K 1 mem))))))))))))))))))))))))))))))))))))))))))))))))))))))
set_option maxRecDepth 100000 in
set_option maxHeartbeats 4000000 in
theorem w_X6_joined (X : CX) (p0 : Int32) (p1 : Int32) (p2 : Int32) (mem : Mm) (K : Int32 → Mm → Prop) (h : W_X6_joined p0 p1 p2 mem K) : CallsI X 0 M_X6_joined [.int p0, .int p1, .int p2] mem K := by
  unfold W_X6_joined at h
  refine CallsC.ofP 0 (by decide) rfl (Nat.le_of_ble_eq_true rfl) ?_
  refine gc_iload_n dX6_joined_0 rfl ?_
  by_cases hn0 : p0 = 38
  · have h := h.1 hn0
    refine gc_tabIn (off := 172) 173 dX6_joined_1 (by rw [hn0]; decide) (by rw [hn0]; decide) (by rw [hn0]; rfl) (by decide) ?_
    refine gc_iload_n dX6_joined_173 rfl ?_
    refine gc_if_eq 185 dX6_joined_174 (by decide) (fun hc => ?_) (fun hc => ?_)
    · have h := h.1 hc
      refine gc_iconst (v := 0) dX6_joined_185 (by decide) ?_
      exact go_iret dX6_joined_186 rfl (Nat.le_refl _) (Nat.le_refl _) ⟨_, rfl, h⟩
    · have h := h.2 hc
      refine gc_iload_n dX6_joined_177 rfl ?_
      refine gc_if_eq 185 dX6_joined_178 (by decide) (fun hc => ?_) (fun hc => ?_)
      · have h := h.1 hc
        refine gc_iconst (v := 0) dX6_joined_185 (by decide) ?_
        exact go_iret dX6_joined_186 rfl (Nat.le_refl _) (Nat.le_refl _) ⟨_, rfl, h⟩
      · have h := h.2 hc
        refine gc_iconst (v := 1) dX6_joined_181 (by decide) ?_
        refine gc_goto 186 dX6_joined_182 (by decide) ?_
        exact go_iret dX6_joined_186 rfl (Nat.le_refl _) (Nat.le_refl _) ⟨_, rfl, h⟩
  · have h := h.2 hn0
    have hq0 := tab_ne hn0 (a := 38) (by decide)
    by_cases hn1 : p0 = 39
    · have h := h.1 hn1
      refine gc_tabIn (off := 186) 187 dX6_joined_1 (by rw [hn1]; decide) (by rw [hn1]; decide) (by rw [hn1]; rfl) (by decide) ?_
      refine gc_iload_n dX6_joined_187 rfl ?_
      refine gc_if_ne 195 dX6_joined_188 (by decide) (fun hc => ?_) (fun hc => ?_)
      · have h := h.1 hc
        refine gc_iconst (v := 1) dX6_joined_195 (by decide) ?_
        refine gc_goto 200 dX6_joined_196 (by decide) ?_
        exact go_iret dX6_joined_200 rfl (Nat.le_refl _) (Nat.le_refl _) ⟨_, rfl, h⟩
      · have h := h.2 hc
        refine gc_iload_n dX6_joined_191 rfl ?_
        refine gc_if_eq 199 dX6_joined_192 (by decide) (fun hc => ?_) (fun hc => ?_)
        · have h := h.1 hc
          refine gc_iconst (v := 0) dX6_joined_199 (by decide) ?_
          exact go_iret dX6_joined_200 rfl (Nat.le_refl _) (Nat.le_refl _) ⟨_, rfl, h⟩
        · have h := h.2 hc
          refine gc_iconst (v := 1) dX6_joined_195 (by decide) ?_
          refine gc_goto 200 dX6_joined_196 (by decide) ?_
          exact go_iret dX6_joined_200 rfl (Nat.le_refl _) (Nat.le_refl _) ⟨_, rfl, h⟩
    · have h := h.2 hn1
      have hq1 := tab_ne hn1 (a := 39) (by decide)
      by_cases hn2 : p0 = 40
      · have h := h.1 hn2
        refine gc_tabIn (off := 186) 187 dX6_joined_1 (by rw [hn2]; decide) (by rw [hn2]; decide) (by rw [hn2]; rfl) (by decide) ?_
        refine gc_iload_n dX6_joined_187 rfl ?_
        refine gc_if_ne 195 dX6_joined_188 (by decide) (fun hc => ?_) (fun hc => ?_)
        · have h := h.1 hc
          refine gc_iconst (v := 1) dX6_joined_195 (by decide) ?_
          refine gc_goto 200 dX6_joined_196 (by decide) ?_
          exact go_iret dX6_joined_200 rfl (Nat.le_refl _) (Nat.le_refl _) ⟨_, rfl, h⟩
        · have h := h.2 hc
          refine gc_iload_n dX6_joined_191 rfl ?_
          refine gc_if_eq 199 dX6_joined_192 (by decide) (fun hc => ?_) (fun hc => ?_)
          · have h := h.1 hc
            refine gc_iconst (v := 0) dX6_joined_199 (by decide) ?_
            exact go_iret dX6_joined_200 rfl (Nat.le_refl _) (Nat.le_refl _) ⟨_, rfl, h⟩
          · have h := h.2 hc
            refine gc_iconst (v := 1) dX6_joined_195 (by decide) ?_
            refine gc_goto 200 dX6_joined_196 (by decide) ?_
            exact go_iret dX6_joined_200 rfl (Nat.le_refl _) (Nat.le_refl _) ⟨_, rfl, h⟩
      · have h := h.2 hn2
        have hq2 := tab_ne hn2 (a := 40) (by decide)
        by_cases hn3 : p0 = 41
        · have h := h.1 hn3
          refine gc_tabIn (off := 186) 187 dX6_joined_1 (by rw [hn3]; decide) (by rw [hn3]; decide) (by rw [hn3]; rfl) (by decide) ?_
          refine gc_iload_n dX6_joined_187 rfl ?_
          refine gc_if_ne 195 dX6_joined_188 (by decide) (fun hc => ?_) (fun hc => ?_)
          · have h := h.1 hc
            refine gc_iconst (v := 1) dX6_joined_195 (by decide) ?_
            refine gc_goto 200 dX6_joined_196 (by decide) ?_
            exact go_iret dX6_joined_200 rfl (Nat.le_refl _) (Nat.le_refl _) ⟨_, rfl, h⟩
          · have h := h.2 hc
            refine gc_iload_n dX6_joined_191 rfl ?_
            refine gc_if_eq 199 dX6_joined_192 (by decide) (fun hc => ?_) (fun hc => ?_)
            · have h := h.1 hc
              refine gc_iconst (v := 0) dX6_joined_199 (by decide) ?_
              exact go_iret dX6_joined_200 rfl (Nat.le_refl _) (Nat.le_refl _) ⟨_, rfl, h⟩
            · have h := h.2 hc
              refine gc_iconst (v := 1) dX6_joined_195 (by decide) ?_
              refine gc_goto 200 dX6_joined_196 (by decide) ?_
              exact go_iret dX6_joined_200 rfl (Nat.le_refl _) (Nat.le_refl _) ⟨_, rfl, h⟩
        · have h := h.2 hn3
          have hq3 := tab_ne hn3 (a := 41) (by decide)
          by_cases hn4 : p0 = 42
          · have h := h.1 hn4
            refine gc_tabIn (off := 123) 124 dX6_joined_1 (by rw [hn4]; decide) (by rw [hn4]; decide) (by rw [hn4]; rfl) (by decide) ?_
            refine gc_iload_n dX6_joined_124 rfl ?_
            refine gc_iload_n dX6_joined_125 rfl ?_
            refine gc_imul dX6_joined_126 ?_
            exact go_iret dX6_joined_127 rfl (Nat.le_refl _) (Nat.le_refl _) ⟨_, rfl, h⟩
          · have h := h.2 hn4
            have hq4 := tab_ne hn4 (a := 42) (by decide)
            by_cases hn5 : p0 = 43
            · have h := h.1 hn5
              refine gc_tabIn (off := 115) 116 dX6_joined_1 (by rw [hn5]; decide) (by rw [hn5]; decide) (by rw [hn5]; rfl) (by decide) ?_
              refine gc_iload_n dX6_joined_116 rfl ?_
              refine gc_iload_n dX6_joined_117 rfl ?_
              refine gc_iadd dX6_joined_118 ?_
              exact go_iret dX6_joined_119 rfl (Nat.le_refl _) (Nat.le_refl _) ⟨_, rfl, h⟩
            · have h := h.2 hn5
              have hq5 := tab_ne hn5 (a := 43) (by decide)
              by_cases hn6 : p0 = 44
              · have h := h.1 hn6
                refine gc_tabIn (off := 186) 187 dX6_joined_1 (by rw [hn6]; decide) (by rw [hn6]; decide) (by rw [hn6]; rfl) (by decide) ?_
                refine gc_iload_n dX6_joined_187 rfl ?_
                refine gc_if_ne 195 dX6_joined_188 (by decide) (fun hc => ?_) (fun hc => ?_)
                · have h := h.1 hc
                  refine gc_iconst (v := 1) dX6_joined_195 (by decide) ?_
                  refine gc_goto 200 dX6_joined_196 (by decide) ?_
                  exact go_iret dX6_joined_200 rfl (Nat.le_refl _) (Nat.le_refl _) ⟨_, rfl, h⟩
                · have h := h.2 hc
                  refine gc_iload_n dX6_joined_191 rfl ?_
                  refine gc_if_eq 199 dX6_joined_192 (by decide) (fun hc => ?_) (fun hc => ?_)
                  · have h := h.1 hc
                    refine gc_iconst (v := 0) dX6_joined_199 (by decide) ?_
                    exact go_iret dX6_joined_200 rfl (Nat.le_refl _) (Nat.le_refl _) ⟨_, rfl, h⟩
                  · have h := h.2 hc
                    refine gc_iconst (v := 1) dX6_joined_195 (by decide) ?_
                    refine gc_goto 200 dX6_joined_196 (by decide) ?_
                    exact go_iret dX6_joined_200 rfl (Nat.le_refl _) (Nat.le_refl _) ⟨_, rfl, h⟩
              · have h := h.2 hn6
                have hq6 := tab_ne hn6 (a := 44) (by decide)
                by_cases hn7 : p0 = 45
                · have h := h.1 hn7
                  refine gc_tabIn (off := 119) 120 dX6_joined_1 (by rw [hn7]; decide) (by rw [hn7]; decide) (by rw [hn7]; rfl) (by decide) ?_
                  refine gc_iload_n dX6_joined_120 rfl ?_
                  refine gc_iload_n dX6_joined_121 rfl ?_
                  refine gc_isub dX6_joined_122 ?_
                  exact go_iret dX6_joined_123 rfl (Nat.le_refl _) (Nat.le_refl _) ⟨_, rfl, h⟩
                · have h := h.2 hn7
                  have hq7 := tab_ne hn7 (a := 45) (by decide)
                  by_cases hn8 : p0 = 46
                  · have h := h.1 hn8
                    refine gc_tabIn (off := 186) 187 dX6_joined_1 (by rw [hn8]; decide) (by rw [hn8]; decide) (by rw [hn8]; rfl) (by decide) ?_
                    refine gc_iload_n dX6_joined_187 rfl ?_
                    refine gc_if_ne 195 dX6_joined_188 (by decide) (fun hc => ?_) (fun hc => ?_)
                    · have h := h.1 hc
                      refine gc_iconst (v := 1) dX6_joined_195 (by decide) ?_
                      refine gc_goto 200 dX6_joined_196 (by decide) ?_
                      exact go_iret dX6_joined_200 rfl (Nat.le_refl _) (Nat.le_refl _) ⟨_, rfl, h⟩
                    · have h := h.2 hc
                      refine gc_iload_n dX6_joined_191 rfl ?_
                      refine gc_if_eq 199 dX6_joined_192 (by decide) (fun hc => ?_) (fun hc => ?_)
                      · have h := h.1 hc
                        refine gc_iconst (v := 0) dX6_joined_199 (by decide) ?_
                        exact go_iret dX6_joined_200 rfl (Nat.le_refl _) (Nat.le_refl _) ⟨_, rfl, h⟩
                      · have h := h.2 hc
                        refine gc_iconst (v := 1) dX6_joined_195 (by decide) ?_
                        refine gc_goto 200 dX6_joined_196 (by decide) ?_
                        exact go_iret dX6_joined_200 rfl (Nat.le_refl _) (Nat.le_refl _) ⟨_, rfl, h⟩
                  · have h := h.2 hn8
                    have hq8 := tab_ne hn8 (a := 46) (by decide)
                    by_cases hn9 : p0 = 47
                    · have h := h.1 hn9
                      refine gc_tabIn (off := 127) 128 dX6_joined_1 (by rw [hn9]; decide) (by rw [hn9]; decide) (by rw [hn9]; rfl) (by decide) ?_
                      refine gc_iload_n dX6_joined_128 rfl ?_
                      refine gc_if_ne 136 dX6_joined_129 (by decide) (fun hc => ?_) (fun hc => ?_)
                      · have h := h.1 hc
                        refine gc_iload_n dX6_joined_136 rfl ?_
                        refine gc_iload_n dX6_joined_137 rfl ?_
                        obtain ⟨hne, h⟩ := h
                        refine gc_idiv dX6_joined_138 hne ?_
                        exact go_iret dX6_joined_139 rfl (Nat.le_refl _) (Nat.le_refl _) ⟨_, rfl, h⟩
                      · have h := h.2 hc
                        refine gc_iconst (v := 0) dX6_joined_132 (by decide) ?_
                        refine gc_goto 139 dX6_joined_133 (by decide) ?_
                        exact go_iret dX6_joined_139 rfl (Nat.le_refl _) (Nat.le_refl _) ⟨_, rfl, h⟩
                    · have h := h.2 hn9
                      have hq9 := tab_ne hn9 (a := 47) (by decide)
                      by_cases hn10 : p0 = 48
                      · have h := h.1 hn10
                        refine gc_tabIn (off := 186) 187 dX6_joined_1 (by rw [hn10]; decide) (by rw [hn10]; decide) (by rw [hn10]; rfl) (by decide) ?_
                        refine gc_iload_n dX6_joined_187 rfl ?_
                        refine gc_if_ne 195 dX6_joined_188 (by decide) (fun hc => ?_) (fun hc => ?_)
                        · have h := h.1 hc
                          refine gc_iconst (v := 1) dX6_joined_195 (by decide) ?_
                          refine gc_goto 200 dX6_joined_196 (by decide) ?_
                          exact go_iret dX6_joined_200 rfl (Nat.le_refl _) (Nat.le_refl _) ⟨_, rfl, h⟩
                        · have h := h.2 hc
                          refine gc_iload_n dX6_joined_191 rfl ?_
                          refine gc_if_eq 199 dX6_joined_192 (by decide) (fun hc => ?_) (fun hc => ?_)
                          · have h := h.1 hc
                            refine gc_iconst (v := 0) dX6_joined_199 (by decide) ?_
                            exact go_iret dX6_joined_200 rfl (Nat.le_refl _) (Nat.le_refl _) ⟨_, rfl, h⟩
                          · have h := h.2 hc
                            refine gc_iconst (v := 1) dX6_joined_195 (by decide) ?_
                            refine gc_goto 200 dX6_joined_196 (by decide) ?_
                            exact go_iret dX6_joined_200 rfl (Nat.le_refl _) (Nat.le_refl _) ⟨_, rfl, h⟩
                      · have h := h.2 hn10
                        have hq10 := tab_ne hn10 (a := 48) (by decide)
                        by_cases hn11 : p0 = 49
                        · have h := h.1 hn11
                          refine gc_tabIn (off := 186) 187 dX6_joined_1 (by rw [hn11]; decide) (by rw [hn11]; decide) (by rw [hn11]; rfl) (by decide) ?_
                          refine gc_iload_n dX6_joined_187 rfl ?_
                          refine gc_if_ne 195 dX6_joined_188 (by decide) (fun hc => ?_) (fun hc => ?_)
                          · have h := h.1 hc
                            refine gc_iconst (v := 1) dX6_joined_195 (by decide) ?_
                            refine gc_goto 200 dX6_joined_196 (by decide) ?_
                            exact go_iret dX6_joined_200 rfl (Nat.le_refl _) (Nat.le_refl _) ⟨_, rfl, h⟩
                          · have h := h.2 hc
                            refine gc_iload_n dX6_joined_191 rfl ?_
                            refine gc_if_eq 199 dX6_joined_192 (by decide) (fun hc => ?_) (fun hc => ?_)
                            · have h := h.1 hc
                              refine gc_iconst (v := 0) dX6_joined_199 (by decide) ?_
                              exact go_iret dX6_joined_200 rfl (Nat.le_refl _) (Nat.le_refl _) ⟨_, rfl, h⟩
                            · have h := h.2 hc
                              refine gc_iconst (v := 1) dX6_joined_195 (by decide) ?_
                              refine gc_goto 200 dX6_joined_196 (by decide) ?_
                              exact go_iret dX6_joined_200 rfl (Nat.le_refl _) (Nat.le_refl _) ⟨_, rfl, h⟩
                        · have h := h.2 hn11
                          have hq11 := tab_ne hn11 (a := 49) (by decide)
                          by_cases hn12 : p0 = 50
                          · have h := h.1 hn12
                            refine gc_tabIn (off := 186) 187 dX6_joined_1 (by rw [hn12]; decide) (by rw [hn12]; decide) (by rw [hn12]; rfl) (by decide) ?_
                            refine gc_iload_n dX6_joined_187 rfl ?_
                            refine gc_if_ne 195 dX6_joined_188 (by decide) (fun hc => ?_) (fun hc => ?_)
                            · have h := h.1 hc
                              refine gc_iconst (v := 1) dX6_joined_195 (by decide) ?_
                              refine gc_goto 200 dX6_joined_196 (by decide) ?_
                              exact go_iret dX6_joined_200 rfl (Nat.le_refl _) (Nat.le_refl _) ⟨_, rfl, h⟩
                            · have h := h.2 hc
                              refine gc_iload_n dX6_joined_191 rfl ?_
                              refine gc_if_eq 199 dX6_joined_192 (by decide) (fun hc => ?_) (fun hc => ?_)
                              · have h := h.1 hc
                                refine gc_iconst (v := 0) dX6_joined_199 (by decide) ?_
                                exact go_iret dX6_joined_200 rfl (Nat.le_refl _) (Nat.le_refl _) ⟨_, rfl, h⟩
                              · have h := h.2 hc
                                refine gc_iconst (v := 1) dX6_joined_195 (by decide) ?_
                                refine gc_goto 200 dX6_joined_196 (by decide) ?_
                                exact go_iret dX6_joined_200 rfl (Nat.le_refl _) (Nat.le_refl _) ⟨_, rfl, h⟩
                          · have h := h.2 hn12
                            have hq12 := tab_ne hn12 (a := 50) (by decide)
                            by_cases hn13 : p0 = 51
                            · have h := h.1 hn13
                              refine gc_tabIn (off := 186) 187 dX6_joined_1 (by rw [hn13]; decide) (by rw [hn13]; decide) (by rw [hn13]; rfl) (by decide) ?_
                              refine gc_iload_n dX6_joined_187 rfl ?_
                              refine gc_if_ne 195 dX6_joined_188 (by decide) (fun hc => ?_) (fun hc => ?_)
                              · have h := h.1 hc
                                refine gc_iconst (v := 1) dX6_joined_195 (by decide) ?_
                                refine gc_goto 200 dX6_joined_196 (by decide) ?_
                                exact go_iret dX6_joined_200 rfl (Nat.le_refl _) (Nat.le_refl _) ⟨_, rfl, h⟩
                              · have h := h.2 hc
                                refine gc_iload_n dX6_joined_191 rfl ?_
                                refine gc_if_eq 199 dX6_joined_192 (by decide) (fun hc => ?_) (fun hc => ?_)
                                · have h := h.1 hc
                                  refine gc_iconst (v := 0) dX6_joined_199 (by decide) ?_
                                  exact go_iret dX6_joined_200 rfl (Nat.le_refl _) (Nat.le_refl _) ⟨_, rfl, h⟩
                                · have h := h.2 hc
                                  refine gc_iconst (v := 1) dX6_joined_195 (by decide) ?_
                                  refine gc_goto 200 dX6_joined_196 (by decide) ?_
                                  exact go_iret dX6_joined_200 rfl (Nat.le_refl _) (Nat.le_refl _) ⟨_, rfl, h⟩
                            · have h := h.2 hn13
                              have hq13 := tab_ne hn13 (a := 51) (by decide)
                              by_cases hn14 : p0 = 52
                              · have h := h.1 hn14
                                refine gc_tabIn (off := 186) 187 dX6_joined_1 (by rw [hn14]; decide) (by rw [hn14]; decide) (by rw [hn14]; rfl) (by decide) ?_
                                refine gc_iload_n dX6_joined_187 rfl ?_
                                refine gc_if_ne 195 dX6_joined_188 (by decide) (fun hc => ?_) (fun hc => ?_)
                                · have h := h.1 hc
                                  refine gc_iconst (v := 1) dX6_joined_195 (by decide) ?_
                                  refine gc_goto 200 dX6_joined_196 (by decide) ?_
                                  exact go_iret dX6_joined_200 rfl (Nat.le_refl _) (Nat.le_refl _) ⟨_, rfl, h⟩
                                · have h := h.2 hc
                                  refine gc_iload_n dX6_joined_191 rfl ?_
                                  refine gc_if_eq 199 dX6_joined_192 (by decide) (fun hc => ?_) (fun hc => ?_)
                                  · have h := h.1 hc
                                    refine gc_iconst (v := 0) dX6_joined_199 (by decide) ?_
                                    exact go_iret dX6_joined_200 rfl (Nat.le_refl _) (Nat.le_refl _) ⟨_, rfl, h⟩
                                  · have h := h.2 hc
                                    refine gc_iconst (v := 1) dX6_joined_195 (by decide) ?_
                                    refine gc_goto 200 dX6_joined_196 (by decide) ?_
                                    exact go_iret dX6_joined_200 rfl (Nat.le_refl _) (Nat.le_refl _) ⟨_, rfl, h⟩
                              · have h := h.2 hn14
                                have hq14 := tab_ne hn14 (a := 52) (by decide)
                                by_cases hn15 : p0 = 53
                                · have h := h.1 hn15
                                  refine gc_tabIn (off := 186) 187 dX6_joined_1 (by rw [hn15]; decide) (by rw [hn15]; decide) (by rw [hn15]; rfl) (by decide) ?_
                                  refine gc_iload_n dX6_joined_187 rfl ?_
                                  refine gc_if_ne 195 dX6_joined_188 (by decide) (fun hc => ?_) (fun hc => ?_)
                                  · have h := h.1 hc
                                    refine gc_iconst (v := 1) dX6_joined_195 (by decide) ?_
                                    refine gc_goto 200 dX6_joined_196 (by decide) ?_
                                    exact go_iret dX6_joined_200 rfl (Nat.le_refl _) (Nat.le_refl _) ⟨_, rfl, h⟩
                                  · have h := h.2 hc
                                    refine gc_iload_n dX6_joined_191 rfl ?_
                                    refine gc_if_eq 199 dX6_joined_192 (by decide) (fun hc => ?_) (fun hc => ?_)
                                    · have h := h.1 hc
                                      refine gc_iconst (v := 0) dX6_joined_199 (by decide) ?_
                                      exact go_iret dX6_joined_200 rfl (Nat.le_refl _) (Nat.le_refl _) ⟨_, rfl, h⟩
                                    · have h := h.2 hc
                                      refine gc_iconst (v := 1) dX6_joined_195 (by decide) ?_
                                      refine gc_goto 200 dX6_joined_196 (by decide) ?_
                                      exact go_iret dX6_joined_200 rfl (Nat.le_refl _) (Nat.le_refl _) ⟨_, rfl, h⟩
                                · have h := h.2 hn15
                                  have hq15 := tab_ne hn15 (a := 53) (by decide)
                                  by_cases hn16 : p0 = 54
                                  · have h := h.1 hn16
                                    refine gc_tabIn (off := 186) 187 dX6_joined_1 (by rw [hn16]; decide) (by rw [hn16]; decide) (by rw [hn16]; rfl) (by decide) ?_
                                    refine gc_iload_n dX6_joined_187 rfl ?_
                                    refine gc_if_ne 195 dX6_joined_188 (by decide) (fun hc => ?_) (fun hc => ?_)
                                    · have h := h.1 hc
                                      refine gc_iconst (v := 1) dX6_joined_195 (by decide) ?_
                                      refine gc_goto 200 dX6_joined_196 (by decide) ?_
                                      exact go_iret dX6_joined_200 rfl (Nat.le_refl _) (Nat.le_refl _) ⟨_, rfl, h⟩
                                    · have h := h.2 hc
                                      refine gc_iload_n dX6_joined_191 rfl ?_
                                      refine gc_if_eq 199 dX6_joined_192 (by decide) (fun hc => ?_) (fun hc => ?_)
                                      · have h := h.1 hc
                                        refine gc_iconst (v := 0) dX6_joined_199 (by decide) ?_
                                        exact go_iret dX6_joined_200 rfl (Nat.le_refl _) (Nat.le_refl _) ⟨_, rfl, h⟩
                                      · have h := h.2 hc
                                        refine gc_iconst (v := 1) dX6_joined_195 (by decide) ?_
                                        refine gc_goto 200 dX6_joined_196 (by decide) ?_
                                        exact go_iret dX6_joined_200 rfl (Nat.le_refl _) (Nat.le_refl _) ⟨_, rfl, h⟩
                                  · have h := h.2 hn16
                                    have hq16 := tab_ne hn16 (a := 54) (by decide)
                                    by_cases hn17 : p0 = 55
                                    · have h := h.1 hn17
                                      refine gc_tabIn (off := 186) 187 dX6_joined_1 (by rw [hn17]; decide) (by rw [hn17]; decide) (by rw [hn17]; rfl) (by decide) ?_
                                      refine gc_iload_n dX6_joined_187 rfl ?_
                                      refine gc_if_ne 195 dX6_joined_188 (by decide) (fun hc => ?_) (fun hc => ?_)
                                      · have h := h.1 hc
                                        refine gc_iconst (v := 1) dX6_joined_195 (by decide) ?_
                                        refine gc_goto 200 dX6_joined_196 (by decide) ?_
                                        exact go_iret dX6_joined_200 rfl (Nat.le_refl _) (Nat.le_refl _) ⟨_, rfl, h⟩
                                      · have h := h.2 hc
                                        refine gc_iload_n dX6_joined_191 rfl ?_
                                        refine gc_if_eq 199 dX6_joined_192 (by decide) (fun hc => ?_) (fun hc => ?_)
                                        · have h := h.1 hc
                                          refine gc_iconst (v := 0) dX6_joined_199 (by decide) ?_
                                          exact go_iret dX6_joined_200 rfl (Nat.le_refl _) (Nat.le_refl _) ⟨_, rfl, h⟩
                                        · have h := h.2 hc
                                          refine gc_iconst (v := 1) dX6_joined_195 (by decide) ?_
                                          refine gc_goto 200 dX6_joined_196 (by decide) ?_
                                          exact go_iret dX6_joined_200 rfl (Nat.le_refl _) (Nat.le_refl _) ⟨_, rfl, h⟩
                                    · have h := h.2 hn17
                                      have hq17 := tab_ne hn17 (a := 55) (by decide)
                                      by_cases hn18 : p0 = 56
                                      · have h := h.1 hn18
                                        refine gc_tabIn (off := 186) 187 dX6_joined_1 (by rw [hn18]; decide) (by rw [hn18]; decide) (by rw [hn18]; rfl) (by decide) ?_
                                        refine gc_iload_n dX6_joined_187 rfl ?_
                                        refine gc_if_ne 195 dX6_joined_188 (by decide) (fun hc => ?_) (fun hc => ?_)
                                        · have h := h.1 hc
                                          refine gc_iconst (v := 1) dX6_joined_195 (by decide) ?_
                                          refine gc_goto 200 dX6_joined_196 (by decide) ?_
                                          exact go_iret dX6_joined_200 rfl (Nat.le_refl _) (Nat.le_refl _) ⟨_, rfl, h⟩
                                        · have h := h.2 hc
                                          refine gc_iload_n dX6_joined_191 rfl ?_
                                          refine gc_if_eq 199 dX6_joined_192 (by decide) (fun hc => ?_) (fun hc => ?_)
                                          · have h := h.1 hc
                                            refine gc_iconst (v := 0) dX6_joined_199 (by decide) ?_
                                            exact go_iret dX6_joined_200 rfl (Nat.le_refl _) (Nat.le_refl _) ⟨_, rfl, h⟩
                                          · have h := h.2 hc
                                            refine gc_iconst (v := 1) dX6_joined_195 (by decide) ?_
                                            refine gc_goto 200 dX6_joined_196 (by decide) ?_
                                            exact go_iret dX6_joined_200 rfl (Nat.le_refl _) (Nat.le_refl _) ⟨_, rfl, h⟩
                                      · have h := h.2 hn18
                                        have hq18 := tab_ne hn18 (a := 56) (by decide)
                                        by_cases hn19 : p0 = 57
                                        · have h := h.1 hn19
                                          refine gc_tabIn (off := 186) 187 dX6_joined_1 (by rw [hn19]; decide) (by rw [hn19]; decide) (by rw [hn19]; rfl) (by decide) ?_
                                          refine gc_iload_n dX6_joined_187 rfl ?_
                                          refine gc_if_ne 195 dX6_joined_188 (by decide) (fun hc => ?_) (fun hc => ?_)
                                          · have h := h.1 hc
                                            refine gc_iconst (v := 1) dX6_joined_195 (by decide) ?_
                                            refine gc_goto 200 dX6_joined_196 (by decide) ?_
                                            exact go_iret dX6_joined_200 rfl (Nat.le_refl _) (Nat.le_refl _) ⟨_, rfl, h⟩
                                          · have h := h.2 hc
                                            refine gc_iload_n dX6_joined_191 rfl ?_
                                            refine gc_if_eq 199 dX6_joined_192 (by decide) (fun hc => ?_) (fun hc => ?_)
                                            · have h := h.1 hc
                                              refine gc_iconst (v := 0) dX6_joined_199 (by decide) ?_
                                              exact go_iret dX6_joined_200 rfl (Nat.le_refl _) (Nat.le_refl _) ⟨_, rfl, h⟩
                                            · have h := h.2 hc
                                              refine gc_iconst (v := 1) dX6_joined_195 (by decide) ?_
                                              refine gc_goto 200 dX6_joined_196 (by decide) ?_
                                              exact go_iret dX6_joined_200 rfl (Nat.le_refl _) (Nat.le_refl _) ⟨_, rfl, h⟩
                                        · have h := h.2 hn19
                                          have hq19 := tab_ne hn19 (a := 57) (by decide)
                                          by_cases hn20 : p0 = 58
                                          · have h := h.1 hn20
                                            refine gc_tabIn (off := 186) 187 dX6_joined_1 (by rw [hn20]; decide) (by rw [hn20]; decide) (by rw [hn20]; rfl) (by decide) ?_
                                            refine gc_iload_n dX6_joined_187 rfl ?_
                                            refine gc_if_ne 195 dX6_joined_188 (by decide) (fun hc => ?_) (fun hc => ?_)
                                            · have h := h.1 hc
                                              refine gc_iconst (v := 1) dX6_joined_195 (by decide) ?_
                                              refine gc_goto 200 dX6_joined_196 (by decide) ?_
                                              exact go_iret dX6_joined_200 rfl (Nat.le_refl _) (Nat.le_refl _) ⟨_, rfl, h⟩
                                            · have h := h.2 hc
                                              refine gc_iload_n dX6_joined_191 rfl ?_
                                              refine gc_if_eq 199 dX6_joined_192 (by decide) (fun hc => ?_) (fun hc => ?_)
                                              · have h := h.1 hc
                                                refine gc_iconst (v := 0) dX6_joined_199 (by decide) ?_
                                                exact go_iret dX6_joined_200 rfl (Nat.le_refl _) (Nat.le_refl _) ⟨_, rfl, h⟩
                                              · have h := h.2 hc
                                                refine gc_iconst (v := 1) dX6_joined_195 (by decide) ?_
                                                refine gc_goto 200 dX6_joined_196 (by decide) ?_
                                                exact go_iret dX6_joined_200 rfl (Nat.le_refl _) (Nat.le_refl _) ⟨_, rfl, h⟩
                                          · have h := h.2 hn20
                                            have hq20 := tab_ne hn20 (a := 58) (by decide)
                                            by_cases hn21 : p0 = 59
                                            · have h := h.1 hn21
                                              refine gc_tabIn (off := 186) 187 dX6_joined_1 (by rw [hn21]; decide) (by rw [hn21]; decide) (by rw [hn21]; rfl) (by decide) ?_
                                              refine gc_iload_n dX6_joined_187 rfl ?_
                                              refine gc_if_ne 195 dX6_joined_188 (by decide) (fun hc => ?_) (fun hc => ?_)
                                              · have h := h.1 hc
                                                refine gc_iconst (v := 1) dX6_joined_195 (by decide) ?_
                                                refine gc_goto 200 dX6_joined_196 (by decide) ?_
                                                exact go_iret dX6_joined_200 rfl (Nat.le_refl _) (Nat.le_refl _) ⟨_, rfl, h⟩
                                              · have h := h.2 hc
                                                refine gc_iload_n dX6_joined_191 rfl ?_
                                                refine gc_if_eq 199 dX6_joined_192 (by decide) (fun hc => ?_) (fun hc => ?_)
                                                · have h := h.1 hc
                                                  refine gc_iconst (v := 0) dX6_joined_199 (by decide) ?_
                                                  exact go_iret dX6_joined_200 rfl (Nat.le_refl _) (Nat.le_refl _) ⟨_, rfl, h⟩
                                                · have h := h.2 hc
                                                  refine gc_iconst (v := 1) dX6_joined_195 (by decide) ?_
                                                  refine gc_goto 200 dX6_joined_196 (by decide) ?_
                                                  exact go_iret dX6_joined_200 rfl (Nat.le_refl _) (Nat.le_refl _) ⟨_, rfl, h⟩
                                            · have h := h.2 hn21
                                              have hq21 := tab_ne hn21 (a := 59) (by decide)
                                              by_cases hn22 : p0 = 60
                                              · have h := h.1 hn22
                                                refine gc_tabIn (off := 139) 140 dX6_joined_1 (by rw [hn22]; decide) (by rw [hn22]; decide) (by rw [hn22]; rfl) (by decide) ?_
                                                refine gc_iload_n dX6_joined_140 rfl ?_
                                                refine gc_iload_n dX6_joined_141 rfl ?_
                                                refine gc_icmp_ge 149 dX6_joined_142 (by decide) (fun hc => ?_) (fun hc => ?_)
                                                · have h := h.1 hc
                                                  refine gc_iconst (v := 0) dX6_joined_149 (by decide) ?_
                                                  exact go_iret dX6_joined_150 rfl (Nat.le_refl _) (Nat.le_refl _) ⟨_, rfl, h⟩
                                                · have h := h.2 hc
                                                  refine gc_iconst (v := 1) dX6_joined_145 (by decide) ?_
                                                  refine gc_goto 150 dX6_joined_146 (by decide) ?_
                                                  exact go_iret dX6_joined_150 rfl (Nat.le_refl _) (Nat.le_refl _) ⟨_, rfl, h⟩
                                              · have h := h.2 hn22
                                                have hq22 := tab_ne hn22 (a := 60) (by decide)
                                                by_cases hn23 : p0 = 61
                                                · have h := h.1 hn23
                                                  refine gc_tabIn (off := 150) 151 dX6_joined_1 (by rw [hn23]; decide) (by rw [hn23]; decide) (by rw [hn23]; rfl) (by decide) ?_
                                                  refine gc_iload_n dX6_joined_151 rfl ?_
                                                  refine gc_iload_n dX6_joined_152 rfl ?_
                                                  refine gc_icmp_ne 160 dX6_joined_153 (by decide) (fun hc => ?_) (fun hc => ?_)
                                                  · have h := h.1 hc
                                                    refine gc_iconst (v := 0) dX6_joined_160 (by decide) ?_
                                                    exact go_iret dX6_joined_161 rfl (Nat.le_refl _) (Nat.le_refl _) ⟨_, rfl, h⟩
                                                  · have h := h.2 hc
                                                    refine gc_iconst (v := 1) dX6_joined_156 (by decide) ?_
                                                    refine gc_goto 161 dX6_joined_157 (by decide) ?_
                                                    exact go_iret dX6_joined_161 rfl (Nat.le_refl _) (Nat.le_refl _) ⟨_, rfl, h⟩
                                                · have h := h.2 hn23
                                                  have hq23 := tab_ne hn23 (a := 61) (by decide)
                                                  by_cases hn24 : p0 = 62
                                                  · have h := h.1 hn24
                                                    refine gc_tabIn (off := 161) 162 dX6_joined_1 (by rw [hn24]; decide) (by rw [hn24]; decide) (by rw [hn24]; rfl) (by decide) ?_
                                                    refine gc_iload_n dX6_joined_162 rfl ?_
                                                    refine gc_iload_n dX6_joined_163 rfl ?_
                                                    refine gc_icmp_le 171 dX6_joined_164 (by decide) (fun hc => ?_) (fun hc => ?_)
                                                    · have h := h.1 hc
                                                      refine gc_iconst (v := 0) dX6_joined_171 (by decide) ?_
                                                      exact go_iret dX6_joined_172 rfl (Nat.le_refl _) (Nat.le_refl _) ⟨_, rfl, h⟩
                                                    · have h := h.2 hc
                                                      refine gc_iconst (v := 1) dX6_joined_167 (by decide) ?_
                                                      refine gc_goto 172 dX6_joined_168 (by decide) ?_
                                                      exact go_iret dX6_joined_172 rfl (Nat.le_refl _) (Nat.le_refl _) ⟨_, rfl, h⟩
                                                  · have h := h.2 hn24
                                                    have hq24 := tab_ne hn24 (a := 62) (by decide)
                                                    refine gc_tabOut 187 dX6_joined_1 (by have q := tab_out (x := p0) (lo := 38) (hi := 62) (fun j h1 h2 => by rcases (show j = 38 ∨ j = 39 ∨ j = 40 ∨ j = 41 ∨ j = 42 ∨ j = 43 ∨ j = 44 ∨ j = 45 ∨ j = 46 ∨ j = 47 ∨ j = 48 ∨ j = 49 ∨ j = 50 ∨ j = 51 ∨ j = 52 ∨ j = 53 ∨ j = 54 ∨ j = 55 ∨ j = 56 ∨ j = 57 ∨ j = 58 ∨ j = 59 ∨ j = 60 ∨ j = 61 ∨ j = 62 by omega) with rfl | rfl | rfl | rfl | rfl | rfl | rfl | rfl | rfl | rfl | rfl | rfl | rfl | rfl | rfl | rfl | rfl | rfl | rfl | rfl | rfl | rfl | rfl | rfl | rfl <;> assumption); exact q) (by decide) ?_
                                                    refine gc_iload_n dX6_joined_187 rfl ?_
                                                    refine gc_if_ne 195 dX6_joined_188 (by decide) (fun hc => ?_) (fun hc => ?_)
                                                    · have h := h.1 hc
                                                      refine gc_iconst (v := 1) dX6_joined_195 (by decide) ?_
                                                      refine gc_goto 200 dX6_joined_196 (by decide) ?_
                                                      exact go_iret dX6_joined_200 rfl (Nat.le_refl _) (Nat.le_refl _) ⟨_, rfl, h⟩
                                                    · have h := h.2 hc
                                                      refine gc_iload_n dX6_joined_191 rfl ?_
                                                      refine gc_if_eq 199 dX6_joined_192 (by decide) (fun hc => ?_) (fun hc => ?_)
                                                      · have h := h.1 hc
                                                        refine gc_iconst (v := 0) dX6_joined_199 (by decide) ?_
                                                        exact go_iret dX6_joined_200 rfl (Nat.le_refl _) (Nat.le_refl _) ⟨_, rfl, h⟩
                                                      · have h := h.2 hc
                                                        refine gc_iconst (v := 1) dX6_joined_195 (by decide) ?_
                                                        refine gc_goto 200 dX6_joined_196 (by decide) ?_
                                                        exact go_iret dX6_joined_200 rfl (Nat.le_refl _) (Nat.le_refl _) ⟨_, rfl, h⟩
