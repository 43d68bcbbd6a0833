def W_X2_bearingPlace (p0 : Int32) (p1 : Int32) (p2 : Int32) (mem : Mm) (K : Int32 → Mm → Prop) : Prop := K ((((p0 * 8) + p1) * 10) + p2) mem
set_option maxRecDepth 100000 in
set_option maxHeartbeats 4000000 in
theorem w_X2_bearingPlace (X : CX) (p0 : Int32) (p1 : Int32) (p2 : Int32) (mem : Mm) (K : Int32 → Mm → Prop) (h : W_X2_bearingPlace p0 p1 p2 mem K) : CallsI X 0 M_X2_bearingPlace [.int p0, .int p1, .int p2] mem K := by
  unfold W_X2_bearingPlace at h
  refine CallsC.ofP 0 (by decide) rfl (Nat.le_of_ble_eq_true rfl) ?_
  refine gc_iload_n dX2_bearingPlace_0 rfl ?_
  refine gc_bipush (v := 8) dX2_bearingPlace_1 (by decide) ?_
  refine gc_imul dX2_bearingPlace_3 ?_
  refine gc_iload_n dX2_bearingPlace_4 rfl ?_
  refine gc_iadd dX2_bearingPlace_5 ?_
  refine gc_bipush (v := 10) dX2_bearingPlace_6 (by decide) ?_
  refine gc_imul dX2_bearingPlace_8 ?_
  refine gc_iload_n dX2_bearingPlace_9 rfl ?_
  refine gc_iadd dX2_bearingPlace_10 ?_
  exact go_iret dX2_bearingPlace_11 rfl (Nat.le_refl _) (Nat.le_refl _) ⟨_, rfl, h⟩
def L_X2_writeBearings_11 (a1 : Nat) (p1 : Int32) (p2 : Int32) (K : Mm → Prop) : Nat → Int32 → Int32 → Int32 → Int32 → Mm → Prop
  | 0, _, _, _, _, _ => False
  | n + 1, l2, l3, l4, l5, mem => (8 ≤ l5 → (K mem)) ∧ (¬ 8 ≤ l5 → (W_X2_bearingPlace l2 l5 l3 mem (fun v_26 m_26 => ∃ i_34 : Nat, l2 = nI i_34 ∧ i_34 < 9 ∧ (W_X1_bearing (a1 + 4 + i_34) l4 l5 (l3 - 1) m_26 (fun v_42 m_42 => ∃ i_45 : Nat, v_26 = nI i_45 ∧ i_45 < 720 ∧ (∀ m_45 : Mm, m_45 = mu m_42 (40 + 1 + 0) i_45 v_42 → (L_X2_writeBearings_11 a1 p1 p2  K n l2 l3 l4 (l5 + 1) m_45)))))))
set_option maxRecDepth 100000 in
set_option maxHeartbeats 4000000 in
theorem l_X2_writeBearings_11 (X : CX) (a1 : Nat) (p1 : Int32) (p2 : Int32) (ha1 : isAl a1) (K : Mm → Prop) : ∀ (n : Nat) (l2 : Int32) (l3 : Int32) (l4 : Int32) (l5 : Int32) (mem : Mm), L_X2_writeBearings_11 a1 p1 p2   K n l2 l3 l4 l5 mem → GoC X 3 0 0 M_X2_writeBearings 11 [some (.ref (cx_n X + 40)), some (.ref (cx_n X + a1)), some (.int l2), some (.int l3), some (.int l4), some (.int l5)] [] 0 0 (cellAt X mem) (sz mem) (qm X (fun r m => r = none ∧ K m))
  := by
  intro n
  induction n with
  | zero => intro l2 l3 l4 l5 mem h; exact h.elim
  | succ n ih =>
    intro l2 l3 l4 l5 mem h
    unfold L_X2_writeBearings_11 at h
    refine gc_iload dX2_writeBearings_11 rfl ?_
    refine gc_bipush (v := 8) dX2_writeBearings_13 (by decide) ?_
    refine gc_icmp_ge 52 dX2_writeBearings_15 (by decide) (fun hc => ?_) (fun hc => ?_)
    · have h := h.1 hc
      exact go_vret dX2_writeBearings_52 rfl (Nat.le_refl _) (Nat.le_refl _) ⟨rfl, h⟩
    · have h := h.2 hc
      refine gc_aload_n dX2_writeBearings_18 rfl ?_
      refine go_getR dX2_writeBearings_19 lg_X2_11 (sz_lt (by decide)) kd_40 rfl ?_
      refine gc_iload_n dX2_writeBearings_22 rfl ?_
      refine gc_iload dX2_writeBearings_23 rfl ?_
      refine gc_iload_n dX2_writeBearings_25 rfl ?_
      refine go_cSI (y := M_X2_bearingPlace) (As := [.int l2, .int l5, .int l3]) (rest := [.ref (cx_n X + (40 + 1 + 0))]) dX2_writeBearings_26 lm_X2_79 ok_X2_bearingPlace (by decide) (w_X2_bearingPlace X l2 l5 l3 mem _ h) rfl (Nat.le_of_ble_eq_true rfl) (fun v_26 m_26 h => ?_)
      refine gc_aload_n dX2_writeBearings_29 rfl ?_
      refine go_getR dX2_writeBearings_30 lg_X2_62 (sz_lt (al_lt ha1)) (al_kd ha1) rfl ?_
      refine gc_iload_n dX2_writeBearings_33 rfl ?_
      obtain ⟨i_34, hx_34, hi_34, h⟩ := h
      refine go_men i_34 ha1 dX2_writeBearings_34 hx_34 hi_34 ?_
      refine gc_iload dX2_writeBearings_35 rfl ?_
      refine gc_iload dX2_writeBearings_37 rfl ?_
      refine gc_iload_n dX2_writeBearings_39 rfl ?_
      refine gc_iconst (v := 1) dX2_writeBearings_40 (by decide) ?_
      refine gc_isub dX2_writeBearings_41 ?_
      refine go_cVI (y := M_X1_bearing) (As := [.int l4, .int l5, .int (l3 - 1)]) (rest := [.int v_26, .ref (cx_n X + (40 + 1 + 0))]) dX2_writeBearings_42 lm_X2_83 ok_X1_bearing (by decide) (sz_lt (al_man ha1 hi_34).2) (al_man ha1 hi_34).1 rfl rfl (w_X1_bearing X (a1 + 4 + i_34) (al_man ha1 hi_34) l4 l5 (l3 - 1) m_26 _ h) rfl (Nat.le_of_ble_eq_true rfl) (fun v_42 m_42 h => ?_)
      obtain ⟨i_45, hx_45, hi_45, h⟩ := h
      refine go_iast_ i_45 dX2_writeBearings_45 kd_41 hx_45 hi_45 (by decide) (fun m_45 em_45 => ?_)
      have h := h m_45 em_45
      refine gc_iinc (v := l5 + 1) dX2_writeBearings_46 rfl rfl (by decide) ?_
      refine gc_goto 11 dX2_writeBearings_49 (by decide) ?_
      exact ih l2 l3 l4 (l5 + 1) m_45  h
def W_X2_writeBearings (a1 : Nat) (p1 : Int32) (p2 : Int32) (mem : Mm) (K : Mm → Prop) : Prop := W_X0_plainBearing a1 p1 p2 mem (fun v_3 m_3 => ∃ nz : Nat, L_X2_writeBearings_11 a1 p1 p2   K nz p1 p2 v_3 0 m_3)
set_option maxRecDepth 100000 in
set_option maxHeartbeats 4000000 in
theorem w_X2_writeBearings (X : CX) (a1 : Nat) (ha1 : isAl a1) (p1 : Int32) (p2 : Int32) (mem : Mm) (K : Mm → Prop) (h : W_X2_writeBearings a1 p1 p2 mem K) : CallsU X 3 M_X2_writeBearings [.ref (cx_n X + 40), .ref (cx_n X + a1), .int p1, .int p2] mem K := by
  unfold W_X2_writeBearings at h
  refine CallsC.ofP 2 (by decide) rfl (Nat.le_of_ble_eq_true rfl) ?_
  refine gc_aload_n dX2_writeBearings_0 rfl ?_
  refine gc_iload_n dX2_writeBearings_1 rfl ?_
  refine gc_iload_n dX2_writeBearings_2 rfl ?_
  refine go_cVI (y := M_X0_plainBearing) (As := [.int p1, .int p2]) (rest := []) dX2_writeBearings_3 lm_X2_75 ok_X0_plainBearing (by decide) (sz_lt (al_lt ha1)) (al_kd ha1) rfl rfl (w_X0_plainBearing X a1 ha1 p1 p2 mem _ h) rfl (Nat.le_of_ble_eq_true rfl) (fun v_3 m_3 h => ?_)
  refine gc_istore dX2_writeBearings_6 (by decide) ?_
  refine gc_iconst (v := 0) dX2_writeBearings_8 (by decide) ?_
  refine gc_istore dX2_writeBearings_9 (by decide) ?_
  obtain ⟨n9, h⟩ := h
  exact l_X2_writeBearings_11 X a1 p1 p2 ha1   K   n9 p1 p2 v_3 0 m_3  h
def L_X2_lookAt_60 (a1 : Nat) (p1 : Int32) (kb24 : Int32 → Int32 → Mm → Prop) (K : Mm → Prop) : Nat → Int32 → Int32 → Int32 → Mm → Prop
  | 0, _, _, _, _ => False
  | n + 1, l3, l4, l5, mem => (l3 < l5 → (kb24 l3 (l4 + 1) mem)) ∧ (¬ l3 < l5 → (W_X2_writeBearings a1 l4 l5 mem (fun m_72 => L_X2_lookAt_60 a1 p1 kb24 K n l3 l4 (l5 + 1) m_72)))
set_option maxRecDepth 100000 in
set_option maxHeartbeats 4000000 in
theorem l_X2_lookAt_60 (X : CX) (a1 : Nat) (p1 : Int32) (ha1 : isAl a1) (kb24 : Int32 → Int32 → Mm → Prop) (K : Mm → Prop) (hkb24 : ∀ (l3 : Int32) (l4 : Int32) (mem : Mm), kb24 l3 l4 mem → GoC X 4 0 0 M_X2_lookAt 24 [some (.ref (cx_n X + 40)), some (.ref (cx_n X + a1)), none, some (.int l3), some (.int l4), none] [] 0 0 (cellAt X mem) (sz mem) (qm X (fun r m => r = none ∧ K m))) : ∀ (n : Nat) (l3 : Int32) (l4 : Int32) (l5 : Int32) (mem : Mm), L_X2_lookAt_60 a1 p1  kb24 K n l3 l4 l5 mem → GoC X 4 0 0 M_X2_lookAt 60 [some (.ref (cx_n X + 40)), some (.ref (cx_n X + a1)), none, some (.int l3), some (.int l4), some (.int l5)] [] 0 0 (cellAt X mem) (sz mem) (qm X (fun r m => r = none ∧ K m))
  := by
  intro n
  induction n with
  | zero => intro l3 l4 l5 mem h; exact h.elim
  | succ n ih =>
    intro l3 l4 l5 mem h
    unfold L_X2_lookAt_60 at h
    refine gc_iload dX2_lookAt_60 rfl ?_
    refine gc_iload_n dX2_lookAt_62 rfl ?_
    refine gc_icmp_gt 81 dX2_lookAt_63 (by decide) (fun hc => ?_) (fun hc => ?_)
    · have h := h.1 hc
      refine gc_iinc (v := l4 + 1) dX2_lookAt_81 rfl rfl (by decide) ?_
      refine gc_goto 24 dX2_lookAt_84 (by decide) ?_
      refine gc_forget 5 ?_
      exact hkb24 l3 (l4 + 1) mem  h
    · have h := h.2 hc
      refine gc_aload_n dX2_lookAt_66 rfl ?_
      refine gc_aload_n dX2_lookAt_67 rfl ?_
      refine gc_iload dX2_lookAt_68 rfl ?_
      refine gc_iload dX2_lookAt_70 rfl ?_
      refine go_cVU (y := M_X2_writeBearings) (As := [.ref (cx_n X + a1), .int l4, .int l5]) (rest := []) dX2_lookAt_72 lm_X2_71 ok_X2_writeBearings (by decide) (sz_lt (by decide)) kd_40 rfl rfl (w_X2_writeBearings X a1 ha1 l4 l5 mem _ h) rfl (Nat.le_of_ble_eq_true rfl) (fun m_72 h => ?_)
      refine gc_iinc (v := l5 + 1) dX2_lookAt_75 rfl rfl (by decide) ?_
      refine gc_goto 60 dX2_lookAt_78 (by decide) ?_
      exact ih l3 l4 (l5 + 1) m_72  h
def L_X2_lookAt_24 (a1 : Nat) (p1 : Int32) (K : Mm → Prop) : Nat → Int32 → Int32 → Mm → Prop
  | 0, _, _, _ => False
  | n + 1, l3, l4, mem => (9 ≤ l4 → (K mem)) ∧ (¬ 9 ≤ l4 → (W_X0_stands a1 l4 mem (fun v_34 m_34 => ((bZ v_34) = 0 → (L_X2_lookAt_24 a1 p1  K n l3 (l4 + 1) m_34)) ∧ (¬ (bZ v_34) = 0 → (∃ i_52 : Nat, l4 = nI i_52 ∧ i_52 < 9 ∧ (W_X1_pushing (a1 + 4 + i_52) m_34 (fun v_53 m_53 => ∃ i_56 : Nat, l4 = nI i_56 ∧ i_56 < 9 ∧ (∀ m_56 : Mm, m_56 = mu m_53 (40 + 1 + 1) i_56 v_53 → (∃ nz : Nat, L_X2_lookAt_60 a1 p1  (fun zl3 zl4 zm => L_X2_lookAt_24 a1 p1  K n zl3 zl4 zm) K nz l3 l4 1 m_56)))))))))
set_option maxRecDepth 100000 in
set_option maxHeartbeats 4000000 in
theorem l_X2_lookAt_24 (X : CX) (a1 : Nat) (p1 : Int32) (ha1 : isAl a1) (K : Mm → Prop) : ∀ (n : Nat) (l3 : Int32) (l4 : Int32) (mem : Mm), L_X2_lookAt_24 a1 p1   K n l3 l4 mem → GoC X 4 0 0 M_X2_lookAt 24 [some (.ref (cx_n X + 40)), some (.ref (cx_n X + a1)), none, some (.int l3), some (.int l4), none] [] 0 0 (cellAt X mem) (sz mem) (qm X (fun r m => r = none ∧ K m))
  := by
  intro n
  induction n with
  | zero => intro l3 l4 mem h; exact h.elim
  | succ n ih =>
    intro l3 l4 mem h
    unfold L_X2_lookAt_24 at h
    refine gc_iload dX2_lookAt_24 rfl ?_
    refine gc_bipush (v := 9) dX2_lookAt_26 (by decide) ?_
    refine gc_icmp_ge 87 dX2_lookAt_28 (by decide) (fun hc => ?_) (fun hc => ?_)
    · have h := h.1 hc
      exact go_vret dX2_lookAt_87 rfl (Nat.le_refl _) (Nat.le_refl _) ⟨rfl, h⟩
    · have h := h.2 hc
      refine gc_aload_n dX2_lookAt_31 rfl ?_
      refine gc_iload dX2_lookAt_32 rfl ?_
      refine go_cVZ (y := M_X0_stands) (As := [.int l4]) (rest := []) dX2_lookAt_34 lm_X2_58 ok_X0_stands (by decide) (sz_lt (al_lt ha1)) (al_kd ha1) rfl rfl (w_X0_stands X a1 ha1 l4 mem _ h) rfl (Nat.le_of_ble_eq_true rfl) (fun v_34 m_34 h => ?_)
      refine gc_if_eq 81 dX2_lookAt_37 (by decide) (fun hc => ?_) (fun hc => ?_)
      · have h := h.1 hc
        refine gc_iinc (v := l4 + 1) dX2_lookAt_81 rfl rfl (by decide) ?_
        refine gc_goto 24 dX2_lookAt_84 (by decide) ?_
        exact ih l3 (l4 + 1) m_34  h
      · have h := h.2 hc
        refine gc_aload_n dX2_lookAt_40 rfl ?_
        refine go_getR dX2_lookAt_41 lg_X2_15 (sz_lt (by decide)) kd_40 rfl ?_
        refine gc_iload dX2_lookAt_44 rfl ?_
        refine gc_aload_n dX2_lookAt_46 rfl ?_
        refine go_getR dX2_lookAt_47 lg_X2_62 (sz_lt (al_lt ha1)) (al_kd ha1) rfl ?_
        refine gc_iload dX2_lookAt_50 rfl ?_
        obtain ⟨i_52, hx_52, hi_52, h⟩ := h
        refine go_men i_52 ha1 dX2_lookAt_52 hx_52 hi_52 ?_
        refine go_cVI (y := M_X1_pushing) (As := []) (rest := [.int l4, .ref (cx_n X + (40 + 1 + 1))]) dX2_lookAt_53 lm_X2_66 ok_X1_pushing (by decide) (sz_lt (al_man ha1 hi_52).2) (al_man ha1 hi_52).1 rfl rfl (w_X1_pushing X (a1 + 4 + i_52) (al_man ha1 hi_52) m_34 _ h) rfl (Nat.le_of_ble_eq_true rfl) (fun v_53 m_53 h => ?_)
        obtain ⟨i_56, hx_56, hi_56, h⟩ := h
        refine go_iast_ i_56 dX2_lookAt_56 kd_42 hx_56 hi_56 (by decide) (fun m_56 em_56 => ?_)
        have h := h m_56 em_56
        refine gc_iconst (v := 1) dX2_lookAt_57 (by decide) ?_
        refine gc_istore dX2_lookAt_58 (by decide) ?_
        obtain ⟨n9, h⟩ := h
        exact l_X2_lookAt_60 X a1 p1 ha1  (fun zl3 zl4 zm => L_X2_lookAt_24 a1 p1  K n zl3 zl4 zm) K  ih n9 l3 l4 1 m_56  h
def W_X2_lookAt (a1 : Nat) (p1 : Int32) (mem : Mm) (K : Mm → Prop) : Prop := ∀ m_2 : Mm, m_2 = mu mem 40 6 p1 → (W_X0_standingSet a1 m_2 (fun v_7 m_7 => ∀ m_10 : Mm, m_10 = mu m_7 40 5 v_7 → (W_J6_bitCount_0f7a4 (m_10 40 5) m_10 (fun v_17 m_17 => ∃ nz : Nat, L_X2_lookAt_24 a1 p1   K nz v_17 0 m_17))))
set_option maxRecDepth 100000 in
set_option maxHeartbeats 4000000 in
theorem w_X2_lookAt (X : CX) (a1 : Nat) (ha1 : isAl a1) (p1 : Int32) (mem : Mm) (K : Mm → Prop) (h : W_X2_lookAt a1 p1 mem K) : CallsU X 4 M_X2_lookAt [.ref (cx_n X + 40), .ref (cx_n X + a1), .int p1] mem K := by
  unfold W_X2_lookAt at h
  refine CallsC.ofP 3 (by decide) rfl (Nat.le_of_ble_eq_true rfl) ?_
  refine gc_aload_n dX2_lookAt_0 rfl ?_
  refine gc_iload_n dX2_lookAt_1 rfl ?_
  refine go_putI_ dX2_lookAt_2 lp_X2_31 (sz_lt (by decide)) kd_40 rfl (fun m_2 em_2 => ?_)
  have h := h m_2 em_2
  refine gc_aload_n dX2_lookAt_5 rfl ?_
  refine gc_aload_n dX2_lookAt_6 rfl ?_
  refine go_cVI (y := M_X0_standingSet) (As := []) (rest := [.ref (cx_n X + 40)]) dX2_lookAt_7 lm_X2_46 ok_X0_standingSet (by decide) (sz_lt (al_lt ha1)) (al_kd ha1) rfl rfl (w_X0_standingSet X a1 ha1 m_2 _ h) rfl (Nat.le_of_ble_eq_true rfl) (fun v_7 m_7 h => ?_)
  refine go_putI_ dX2_lookAt_10 lp_X2_28 (sz_lt (by decide)) kd_40 rfl (fun m_10 em_10 => ?_)
  have h := h m_10 em_10
  refine gc_aload_n dX2_lookAt_13 rfl ?_
  refine go_getI dX2_lookAt_14 lg_X2_28 (sz_lt (by decide)) kd_40 rfl ?_
  refine go_cSI (y := M_J6_bitCount_0f7a4) (As := [.int (m_10 40 5)]) (rest := []) dX2_lookAt_17 lm_X2_52 ok_J6_bitCount_0f7a4 (by decide) (w_J6_bitCount_0f7a4 X (m_10 40 5) m_10 _ h) rfl (Nat.le_of_ble_eq_true rfl) (fun v_17 m_17 h => ?_)
  refine gc_istore_n dX2_lookAt_20 (by decide) ?_
  refine gc_iconst (v := 0) dX2_lookAt_21 (by decide) ?_
  refine gc_istore dX2_lookAt_22 (by decide) ?_
  refine gc_forget 2 ?_
  obtain ⟨n9, h⟩ := h
  exact l_X2_lookAt_24 X a1 p1 ha1   K   n9 v_17 0 m_17  h
def W_X2_isIn (p0 : Int32) (p1 : Int32) (mem : Mm) (K : Bool → Mm → Prop) : Prop := (p0 < 0 → (K false mem)) ∧ (¬ p0 < 0 → ((((p1 >>> (p0 &&& 31)) &&& 1) = 0 → (K false mem)) ∧ (¬ ((p1 >>> (p0 &&& 31)) &&& 1) = 0 → (K true mem))))
set_option maxRecDepth 100000 in
set_option maxHeartbeats 4000000 in
theorem w_X2_isIn (X : CX) (p0 : Int32) (p1 : Int32) (mem : Mm) (K : Bool → Mm → Prop) (h : W_X2_isIn p0 p1 mem K) : CallsZ X 0 M_X2_isIn [.int p0, .int p1] mem K := by
  unfold W_X2_isIn at h
  refine CallsC.ofP 0 (by decide) rfl (Nat.le_of_ble_eq_true rfl) ?_
  refine gc_iload_n dX2_isIn_0 rfl ?_
  refine gc_if_lt 16 dX2_isIn_1 (by decide) (fun hc => ?_) (fun hc => ?_)
  · have h := h.1 hc
    refine gc_iconst (v := 0) dX2_isIn_16 (by decide) ?_
    exact go_zret dX2_isIn_17 rfl (by decide) (Nat.le_refl _) (Nat.le_refl _) ⟨false, rfl, h⟩
  · have h := h.2 hc
    refine gc_iload_n dX2_isIn_4 rfl ?_
    refine gc_iload_n dX2_isIn_5 rfl ?_
    refine gc_ishr dX2_isIn_6 ?_
    refine gc_iconst (v := 1) dX2_isIn_7 (by decide) ?_
    refine gc_iand dX2_isIn_8 ?_
    refine gc_if_eq 16 dX2_isIn_9 (by decide) (fun hc => ?_) (fun hc => ?_)
    · have h := h.1 hc
      refine gc_iconst (v := 0) dX2_isIn_16 (by decide) ?_
      exact go_zret dX2_isIn_17 rfl (by decide) (Nat.le_refl _) (Nat.le_refl _) ⟨false, rfl, h⟩
    · have h := h.2 hc
      refine gc_iconst (v := 1) dX2_isIn_12 (by decide) ?_
      refine gc_goto 17 dX2_isIn_13 (by decide) ?_
      exact go_zret dX2_isIn_17 rfl (by decide) (Nat.le_refl _) (Nat.le_refl _) ⟨true, rfl, h⟩
def W_X2_fallsBy (p0 : Int32) (p1 : Int32) (p2 : Int32) (p3 : Int32) (mem : Mm) (K : Bool → Mm → Prop) : Prop := W_X2_isIn p1 p3 mem (fun v_3 m_3 => ((bZ v_3) = 0 → (K false m_3)) ∧ (¬ (bZ v_3) = 0 → (W_J6_bitCount_0f7a4 p3 m_3 (fun v_17 m_17 => W_X2_bearingPlace p1 p2 v_17 m_17 (fun v_20 m_20 => ∃ i_23 : Nat, v_20 = nI i_23 ∧ i_23 < 720 ∧ ((p0 ≤ (m_20 (40 + 1 + 0) i_23) → (K false m_20)) ∧ (¬ p0 ≤ (m_20 (40 + 1 + 0) i_23) → (K true m_20))))))))
set_option maxRecDepth 100000 in
set_option maxHeartbeats 4000000 in
theorem w_X2_fallsBy (X : CX) (p0 : Int32) (p1 : Int32) (p2 : Int32) (p3 : Int32) (mem : Mm) (K : Bool → Mm → Prop) (h : W_X2_fallsBy p0 p1 p2 p3 mem K) : CallsZ X 1 M_X2_fallsBy [.ref (cx_n X + 40), .int p0, .int p1, .int p2, .int p3] mem K := by
  unfold W_X2_fallsBy at h
  refine CallsC.ofP 0 (by decide) rfl (Nat.le_of_ble_eq_true rfl) ?_
  refine gc_iload_n dX2_fallsBy_0 rfl ?_
  refine gc_iload dX2_fallsBy_1 rfl ?_
  refine go_cSZ (y := M_X2_isIn) (As := [.int p1, .int p3]) (rest := []) dX2_fallsBy_3 lm_X2_86 ok_X2_isIn (by decide) (w_X2_isIn X p1 p3 mem _ h) rfl (Nat.le_of_ble_eq_true rfl) (fun v_3 m_3 h => ?_)
  refine gc_if_eq 32 dX2_fallsBy_6 (by decide) (fun hc => ?_) (fun hc => ?_)
  · have h := h.1 hc
    refine gc_iconst (v := 0) dX2_fallsBy_32 (by decide) ?_
    exact go_zret dX2_fallsBy_33 rfl (by decide) (Nat.le_refl _) (Nat.le_refl _) ⟨false, rfl, h⟩
  · have h := h.2 hc
    refine gc_aload_n dX2_fallsBy_9 rfl ?_
    refine go_getR dX2_fallsBy_10 lg_X2_11 (sz_lt (by decide)) kd_40 rfl ?_
    refine gc_iload_n dX2_fallsBy_13 rfl ?_
    refine gc_iload_n dX2_fallsBy_14 rfl ?_
    refine gc_iload dX2_fallsBy_15 rfl ?_
    refine go_cSI (y := M_J6_bitCount_0f7a4) (As := [.int p3]) (rest := [.int p2, .int p1, .ref (cx_n X + (40 + 1 + 0))]) dX2_fallsBy_17 lm_X2_52 ok_J6_bitCount_0f7a4 (by decide) (w_J6_bitCount_0f7a4 X p3 m_3 _ h) rfl (Nat.le_of_ble_eq_true rfl) (fun v_17 m_17 h => ?_)
    refine go_cSI (y := M_X2_bearingPlace) (As := [.int p1, .int p2, .int v_17]) (rest := [.ref (cx_n X + (40 + 1 + 0))]) dX2_fallsBy_20 lm_X2_79 ok_X2_bearingPlace (by decide) (w_X2_bearingPlace X p1 p2 v_17 m_17 _ h) rfl (Nat.le_of_ble_eq_true rfl) (fun v_20 m_20 h => ?_)
    obtain ⟨i_23, hx_23, hi_23, h⟩ := h
    refine go_iald i_23 dX2_fallsBy_23 kd_41 hx_23 hi_23 ?_
    refine gc_iload_n dX2_fallsBy_24 rfl ?_
    refine gc_icmp_ge 32 dX2_fallsBy_25 (by decide) (fun hc => ?_) (fun hc => ?_)
    · have h := h.1 hc
      refine gc_iconst (v := 0) dX2_fallsBy_32 (by decide) ?_
      exact go_zret dX2_fallsBy_33 rfl (by decide) (Nat.le_refl _) (Nat.le_refl _) ⟨false, rfl, h⟩
    · have h := h.2 hc
      refine gc_iconst (v := 1) dX2_fallsBy_28 (by decide) ?_
      refine gc_goto 33 dX2_fallsBy_29 (by decide) ?_
      exact go_zret dX2_fallsBy_33 rfl (by decide) (Nat.le_refl _) (Nat.le_refl _) ⟨true, rfl, h⟩
def B_X2_leftBehind_67 (p0 : Int32) (p1 : Int32) (p2 : Int32) (p3 : Int32) (p4 : Int32) (rc : Int32 → Int32 → Int32 → Int32 → Int32 → Mm → (Int32 → Mm → Prop) → Prop) (K : Int32 → Mm → Prop) (l2 : Int32) (l3 : Int32) (l4 : Int32) (l5 : Int32) (l6 : Int32) (mem : Mm) : Prop := ∃ i_71 : Nat, l2 = nI i_71 ∧ i_71 < 9 ∧ ((l4 = (-1) → (K l6 mem)) ∧ (¬ l4 = (-1) → (∃ i_86 : Nat, l2 = nI i_86 ∧ i_86 < 9 ∧ (W_X2_fallsBy (mem (40 + 1 + 1) i_86) ((st_F 1).getD i_71 0) l3 l6 mem (fun v_92 m_92 => ((bZ v_92) = 0 → (K l6 m_92)) ∧ (¬ (bZ v_92) = 0 → (rc l6 ((st_F 1).getD i_71 0) l3 l4 (l5 + 1) m_92 (fun v_110 m_110 => K v_110 m_110))))))))
set_option maxRecDepth 100000 in
set_option maxHeartbeats 4000000 in
theorem b_X2_leftBehind_67 (X : CX) (p0 : Int32) (p1 : Int32) (p2 : Int32) (p3 : Int32) (p4 : Int32)  (rc : Int32 → Int32 → Int32 → Int32 → Int32 → Mm → (Int32 → Mm → Prop) → Prop) (K : Int32 → Mm → Prop) (n : Nat) (hrc : ∀ (q0 q1 q2 q3 q4 : Int32) (mem : Mm) (K : Int32 → Mm → Prop), rc q0 q1 q2 q3 q4 mem K → CallsI X (2 + n) M_X2_leftBehind [.ref (cx_n X + 40), .int q0, .int q1, .int q2, .int q3, .int q4] mem K) (l2 : Int32) (l3 : Int32) (l4 : Int32) (l5 : Int32) (l6 : Int32) (mem : Mm)  (h : B_X2_leftBehind_67 p0 p1 p2 p3 p4 rc  K l2 l3 l4 l5 l6 mem) : GoC X (2 + n + 1) 0 0 M_X2_leftBehind 67 [some (.ref (cx_n X + 40)), none, some (.int l2), some (.int l3), some (.int l4), some (.int l5), some (.int l6), none] [] 0 0 (cellAt X mem) (sz mem) (qm X (fun r m => ∃ v : Int32, r = some (.int v) ∧ K v m)) := by
  unfold B_X2_leftBehind_67 at h
  refine gc_gets 1 (by decide) dX2_leftBehind_67 ls_X2_101 ?_
  refine gc_iload_n dX2_leftBehind_70 rfl ?_
  obtain ⟨i_71, hx_71, hi_71, h⟩ := h
  refine gc_sald 1 i_71 (by decide) dX2_leftBehind_71 hx_71 hi_71 ?_
  refine gc_istore dX2_leftBehind_72 (by decide) ?_
  refine gc_iload dX2_leftBehind_74 rfl ?_
  refine gc_iconst (v := (-1)) dX2_leftBehind_76 (by decide) ?_
  refine gc_icmp_eq 115 dX2_leftBehind_77 (by decide) (fun hc => ?_) (fun hc => ?_)
  · have h := h.1 hc
    refine gc_iload dX2_leftBehind_115 rfl ?_
    exact go_iret dX2_leftBehind_117 rfl (Nat.le_refl _) (Nat.le_refl _) ⟨_, rfl, h⟩
  · have h := h.2 hc
    refine gc_aload_n dX2_leftBehind_80 rfl ?_
    refine gc_aload_n dX2_leftBehind_81 rfl ?_
    refine go_getR dX2_leftBehind_82 lg_X2_15 (sz_lt (by decide)) kd_40 rfl ?_
    refine gc_iload_n dX2_leftBehind_85 rfl ?_
    obtain ⟨i_86, hx_86, hi_86, h⟩ := h
    refine go_iald i_86 dX2_leftBehind_86 kd_42 hx_86 hi_86 ?_
    refine gc_iload dX2_leftBehind_87 rfl ?_
    refine gc_iload_n dX2_leftBehind_89 rfl ?_
    refine gc_iload dX2_leftBehind_90 rfl ?_
    refine go_cVZ (y := M_X2_fallsBy) (As := [.int (mem (40 + 1 + 1) i_86), .int ((st_F 1).getD i_71 0), .int l3, .int l6]) (rest := []) dX2_leftBehind_92 lm_X2_93 ok_X2_fallsBy (by omega) (sz_lt (by decide)) kd_40 rfl rfl (w_X2_fallsBy X (mem (40 + 1 + 1) i_86) ((st_F 1).getD i_71 0) l3 l6 mem _ h) rfl (Nat.le_of_ble_eq_true rfl) (fun v_92 m_92 h => ?_)
    refine gc_if_eq 115 dX2_leftBehind_95 (by decide) (fun hc => ?_) (fun hc => ?_)
    · have h := h.1 hc
      refine gc_iload dX2_leftBehind_115 rfl ?_
      exact go_iret dX2_leftBehind_117 rfl (Nat.le_refl _) (Nat.le_refl _) ⟨_, rfl, h⟩
    · have h := h.2 hc
      refine gc_aload_n dX2_leftBehind_98 rfl ?_
      refine gc_iload dX2_leftBehind_99 rfl ?_
      refine gc_iload dX2_leftBehind_101 rfl ?_
      refine gc_iload_n dX2_leftBehind_103 rfl ?_
      refine gc_iload dX2_leftBehind_104 rfl ?_
      refine gc_iload dX2_leftBehind_106 rfl ?_
      refine gc_iconst (v := 1) dX2_leftBehind_108 (by decide) ?_
      refine gc_iadd dX2_leftBehind_109 ?_
      refine go_cVI (y := M_X2_leftBehind) (As := [.int l6, .int ((st_F 1).getD i_71 0), .int l3, .int l4, .int (l5 + 1)]) (rest := []) dX2_leftBehind_110 lm_X2_97 ok_X2_leftBehind (Nat.le_refl _) (sz_lt (by decide)) kd_40 rfl rfl (hrc l6 ((st_F 1).getD i_71 0) l3 l4 (l5 + 1) m_92 _ h) rfl (Nat.le_of_ble_eq_true rfl) (fun v_110 m_110 h => ?_)
      refine gc_istore dX2_leftBehind_113 (by decide) ?_
      refine gc_iload dX2_leftBehind_115 rfl ?_
      exact go_iret dX2_leftBehind_117 rfl (Nat.le_refl _) (Nat.le_refl _) ⟨_, rfl, h⟩
def W_X2_leftBehind  : Nat → Int32 → Int32 → Int32 → Int32 → Int32 → Mm → (Int32 → Mm → Prop) → Prop
  | 0, _, _, _, _, _, _, _ => False
  | n + 1, p0, p1, p2, p3, p4, mem, K => (p4 < 9 → (∃ i_23 : Nat, p1 = nI i_23 ∧ i_23 < 9 ∧ ((p3 = 1 → (B_X2_leftBehind_67 p0 p1 p2 p3 p4 (W_X2_leftBehind n)  K p1 p2 p3 p4 (p0 &&& ((1 <<< (p1 &&& 31)) ^^^ (-1))) mem)) ∧ (¬ p3 = 1 → (∃ i_38 : Nat, p1 = nI i_38 ∧ i_38 < 9 ∧ (W_X2_fallsBy (mem (40 + 1 + 1) i_38) ((st_F 0).getD i_23 0) p2 (p0 &&& ((1 <<< (p1 &&& 31)) ^^^ (-1))) mem (fun v_44 m_44 => ((bZ v_44) = 0 → (B_X2_leftBehind_67 p0 p1 p2 p3 p4 (W_X2_leftBehind n)  K p1 p2 p3 p4 (p0 &&& ((1 <<< (p1 &&& 31)) ^^^ (-1))) m_44)) ∧ (¬ (bZ v_44) = 0 → ((W_X2_leftBehind n) (p0 &&& ((1 <<< (p1 &&& 31)) ^^^ (-1))) ((st_F 0).getD i_23 0) p2 p3 (p4 + 1) m_44 (fun v_62 m_62 => B_X2_leftBehind_67 p0 p1 p2 p3 p4 (W_X2_leftBehind n)  K p1 p2 p3 p4 v_62 m_62)))))))))) ∧ (¬ p4 < 9 → (K (p0 &&& ((1 <<< (p1 &&& 31)) ^^^ (-1))) mem))
set_option maxRecDepth 100000 in
set_option maxHeartbeats 4000000 in
theorem w_X2_leftBehind (X : CX)  : ∀ (n : Nat) (p0 p1 p2 p3 p4 : Int32) (mem : Mm) (K : Int32 → Mm → Prop) (h : W_X2_leftBehind n p0 p1 p2 p3 p4 mem K), CallsI X (2 + n) M_X2_leftBehind [.ref (cx_n X + 40), .int p0, .int p1, .int p2, .int p3, .int p4] mem K := by
  intro n
  induction n with
  | zero => intro p0 p1 p2 p3 p4 mem K h; exact h.elim
  | succ n ih =>
    intro p0 p1 p2 p3 p4 mem K h
    unfold W_X2_leftBehind at h
    refine CallsC.ofP 2 (by decide) rfl (Nat.le_of_ble_eq_true rfl) ?_
    refine gc_iload_n dX2_leftBehind_0 rfl ?_
    refine gc_iconst (v := 1) dX2_leftBehind_1 (by decide) ?_
    refine gc_iload_n dX2_leftBehind_2 rfl ?_
    refine gc_ishl dX2_leftBehind_3 ?_
    refine gc_iconst (v := (-1)) dX2_leftBehind_4 (by decide) ?_
    refine gc_ixor dX2_leftBehind_5 ?_
    refine gc_iand dX2_leftBehind_6 ?_
    refine gc_istore dX2_leftBehind_7 (by decide) ?_
    refine gc_iload dX2_leftBehind_9 rfl ?_
    refine gc_bipush (v := 9) dX2_leftBehind_11 (by decide) ?_
    refine gc_icmp_lt 19 dX2_leftBehind_13 (by decide) (fun hc => ?_) (fun hc => ?_)
    · have h := h.1 hc
      refine gc_gets 0 (by decide) dX2_leftBehind_19 ls_X2_90 ?_
      refine gc_iload_n dX2_leftBehind_22 rfl ?_
      obtain ⟨i_23, hx_23, hi_23, h⟩ := h
      refine gc_sald 0 i_23 (by decide) dX2_leftBehind_23 hx_23 hi_23 ?_
      refine gc_istore dX2_leftBehind_24 (by decide) ?_
      refine gc_iload dX2_leftBehind_26 rfl ?_
      refine gc_iconst (v := 1) dX2_leftBehind_28 (by decide) ?_
      refine gc_icmp_eq 67 dX2_leftBehind_29 (by decide) (fun hc => ?_) (fun hc => ?_)
      · have h := h.1 hc
        refine gc_forget 1 ?_
        refine gc_forget 7 ?_
        exact b_X2_leftBehind_67 X p0 p1 p2 p3 p4  (W_X2_leftBehind n)  K n ih  p1 p2 p3 p4 (p0 &&& ((1 <<< (p1 &&& 31)) ^^^ (-1))) mem  h
      · have h := h.2 hc
        refine gc_aload_n dX2_leftBehind_32 rfl ?_
        refine gc_aload_n dX2_leftBehind_33 rfl ?_
        refine go_getR dX2_leftBehind_34 lg_X2_15 (sz_lt (by decide)) kd_40 rfl ?_
        refine gc_iload_n dX2_leftBehind_37 rfl ?_
        obtain ⟨i_38, hx_38, hi_38, h⟩ := h
        refine go_iald i_38 dX2_leftBehind_38 kd_42 hx_38 hi_38 ?_
        refine gc_iload dX2_leftBehind_39 rfl ?_
        refine gc_iload_n dX2_leftBehind_41 rfl ?_
        refine gc_iload dX2_leftBehind_42 rfl ?_
        refine go_cVZ (y := M_X2_fallsBy) (As := [.int (mem (40 + 1 + 1) i_38), .int ((st_F 0).getD i_23 0), .int p2, .int (p0 &&& ((1 <<< (p1 &&& 31)) ^^^ (-1)))]) (rest := []) dX2_leftBehind_44 lm_X2_93 ok_X2_fallsBy (by omega) (sz_lt (by decide)) kd_40 rfl rfl (w_X2_fallsBy X (mem (40 + 1 + 1) i_38) ((st_F 0).getD i_23 0) p2 (p0 &&& ((1 <<< (p1 &&& 31)) ^^^ (-1))) mem _ h) rfl (Nat.le_of_ble_eq_true rfl) (fun v_44 m_44 h => ?_)
        refine gc_if_eq 67 dX2_leftBehind_47 (by decide) (fun hc => ?_) (fun hc => ?_)
        · have h := h.1 hc
          refine gc_forget 1 ?_
          refine gc_forget 7 ?_
          exact b_X2_leftBehind_67 X p0 p1 p2 p3 p4  (W_X2_leftBehind n)  K n ih  p1 p2 p3 p4 (p0 &&& ((1 <<< (p1 &&& 31)) ^^^ (-1))) m_44  h
        · have h := h.2 hc
          refine gc_aload_n dX2_leftBehind_50 rfl ?_
          refine gc_iload dX2_leftBehind_51 rfl ?_
          refine gc_iload dX2_leftBehind_53 rfl ?_
          refine gc_iload_n dX2_leftBehind_55 rfl ?_
          refine gc_iload dX2_leftBehind_56 rfl ?_
          refine gc_iload dX2_leftBehind_58 rfl ?_
          refine gc_iconst (v := 1) dX2_leftBehind_60 (by decide) ?_
          refine gc_iadd dX2_leftBehind_61 ?_
          refine go_cVI (y := M_X2_leftBehind) (As := [.int (p0 &&& ((1 <<< (p1 &&& 31)) ^^^ (-1))), .int ((st_F 0).getD i_23 0), .int p2, .int p3, .int (p4 + 1)]) (rest := []) dX2_leftBehind_62 lm_X2_97 ok_X2_leftBehind (Nat.le_refl _) (sz_lt (by decide)) kd_40 rfl rfl (ih (p0 &&& ((1 <<< (p1 &&& 31)) ^^^ (-1))) ((st_F 0).getD i_23 0) p2 p3 (p4 + 1) m_44 _ h) rfl (Nat.le_of_ble_eq_true rfl) (fun v_62 m_62 h => ?_)
          refine gc_istore dX2_leftBehind_65 (by decide) ?_
          refine gc_forget 1 ?_
          refine gc_forget 7 ?_
          exact b_X2_leftBehind_67 X p0 p1 p2 p3 p4  (W_X2_leftBehind n)  K n ih  p1 p2 p3 p4 v_62 m_62  h
    · have h := h.2 hc
      refine gc_iload dX2_leftBehind_16 rfl ?_
      exact go_iret dX2_leftBehind_18 rfl (Nat.le_refl _) (Nat.le_refl _) ⟨_, rfl, h⟩
def W_X2_offer (p0 : Int32) (p1 : Int32) (p2 : Int32) (p3 : Int32) (mem : Mm) (K : Mm → Prop) : Prop := (p0 ≤ (mem 40 7) → (K mem)) ∧ (¬ p0 ≤ (mem 40 7) → (∀ m_10 : Mm, m_10 = mu mem 40 7 p0 → (∀ m_15 : Mm, m_15 = mu m_10 40 8 p1 → (∀ m_20 : Mm, m_20 = mu m_15 40 9 p2 → (∀ m_26 : Mm, m_26 = mu m_20 40 10 p3 → (K m_26))))))
set_option maxRecDepth 100000 in
set_option maxHeartbeats 4000000 in
theorem w_X2_offer (X : CX) (p0 : Int32) (p1 : Int32) (p2 : Int32) (p3 : Int32) (mem : Mm) (K : Mm → Prop) (h : W_X2_offer p0 p1 p2 p3 mem K) : CallsU X 0 M_X2_offer [.ref (cx_n X + 40), .int p0, .int p1, .int p2, .int p3] mem K := by
  unfold W_X2_offer at h
  refine CallsC.ofP 0 (by decide) rfl (Nat.le_of_ble_eq_true rfl) ?_
  refine gc_iload_n dX2_offer_0 rfl ?_
  refine gc_aload_n dX2_offer_1 rfl ?_
  refine go_getI dX2_offer_2 lg_X2_34 (sz_lt (by decide)) kd_40 rfl ?_
  refine gc_icmp_le 29 dX2_offer_5 (by decide) (fun hc => ?_) (fun hc => ?_)
  · have h := h.1 hc
    exact go_vret dX2_offer_29 rfl (Nat.le_refl _) (Nat.le_refl _) ⟨rfl, h⟩
  · have h := h.2 hc
    refine gc_aload_n dX2_offer_8 rfl ?_
    refine gc_iload_n dX2_offer_9 rfl ?_
    refine go_putI_ dX2_offer_10 lp_X2_34 (sz_lt (by decide)) kd_40 rfl (fun m_10 em_10 => ?_)
    have h := h m_10 em_10
    refine gc_aload_n dX2_offer_13 rfl ?_
    refine gc_iload_n dX2_offer_14 rfl ?_
    refine go_putI_ dX2_offer_15 lp_X2_37 (sz_lt (by decide)) kd_40 rfl (fun m_15 em_15 => ?_)
    have h := h m_15 em_15
    refine gc_aload_n dX2_offer_18 rfl ?_
    refine gc_iload_n dX2_offer_19 rfl ?_
    refine go_putI_ dX2_offer_20 lp_X2_40 (sz_lt (by decide)) kd_40 rfl (fun m_20 em_20 => ?_)
    have h := h m_20 em_20
    refine gc_aload_n dX2_offer_23 rfl ?_
    refine gc_iload dX2_offer_24 rfl ?_
    refine go_putI_ dX2_offer_26 lp_X2_43 (sz_lt (by decide)) kd_40 rfl (fun m_26 em_26 => ?_)
    have h := h m_26 em_26
    exact go_vret dX2_offer_29 rfl (Nat.le_refl _) (Nat.le_refl _) ⟨rfl, h⟩
def B_X2_findBest_80  (kb7 : Int32 → Mm → Prop) (kb15 : Int32 → Int32 → Mm → Prop) (kb50 : Int32 → Int32 → Int32 → Int32 → Mm → Prop) (K : Mm → Prop) (l1 : Int32) (l2 : Int32) (l3 : Int32) (l4 : Int32) (s0 : Int32) (mem : Mm) : Prop := W_J6_bitCount_0f7a4 (mem 40 5) mem (fun v_87 m_87 => W_J6_bitCount_0f7a4 s0 m_87 (fun v_92 m_92 => W_X2_offer (v_87 - v_92) l1 l2 l4 m_92 (fun m_100 => kb50 l1 l2 l3 (l4 + 1) m_100)))
set_option maxRecDepth 100000 in
set_option maxHeartbeats 4000000 in
theorem b_X2_findBest_80 (X : CX)   (kb7 : Int32 → Mm → Prop) (kb15 : Int32 → Int32 → Mm → Prop) (kb50 : Int32 → Int32 → Int32 → Int32 → Mm → Prop) (K : Mm → Prop) (hkb7 : ∀ (l1 : Int32) (mem : Mm), kb7 l1 mem → GoC X 15 0 0 M_X2_findBest 7 [some (.ref (cx_n X + 40)), some (.int l1), none, none, none, none] [] 0 0 (cellAt X mem) (sz mem) (qm X (fun r m => r = none ∧ K m))) (hkb15 : ∀ (l1 : Int32) (l2 : Int32) (mem : Mm), kb15 l1 l2 mem → GoC X 15 0 0 M_X2_findBest 15 [some (.ref (cx_n X + 40)), some (.int l1), some (.int l2), none, none, none] [] 0 0 (cellAt X mem) (sz mem) (qm X (fun r m => r = none ∧ K m))) (hkb50 : ∀ (l1 : Int32) (l2 : Int32) (l3 : Int32) (l4 : Int32) (mem : Mm), kb50 l1 l2 l3 l4 mem → GoC X 15 0 0 M_X2_findBest 50 [some (.ref (cx_n X + 40)), some (.int l1), some (.int l2), some (.int l3), some (.int l4), none] [] 0 0 (cellAt X mem) (sz mem) (qm X (fun r m => r = none ∧ K m))) (l1 : Int32) (l2 : Int32) (l3 : Int32) (l4 : Int32) (s0 : Int32) (mem : Mm)  (h : B_X2_findBest_80   kb7 kb15 kb50 K l1 l2 l3 l4 s0 mem) : GoC X 15 0 0 M_X2_findBest 80 [some (.ref (cx_n X + 40)), some (.int l1), some (.int l2), some (.int l3), some (.int l4), none] [.int s0] 0 0 (cellAt X mem) (sz mem) (qm X (fun r m => r = none ∧ K m)) := by
  unfold B_X2_findBest_80 at h
  refine gc_istore dX2_findBest_80 (by decide) ?_
  refine gc_aload_n dX2_findBest_82 rfl ?_
  refine gc_aload_n dX2_findBest_83 rfl ?_
  refine go_getI dX2_findBest_84 lg_X2_28 (sz_lt (by decide)) kd_40 rfl ?_
  refine go_cSI (y := M_J6_bitCount_0f7a4) (As := [.int (mem 40 5)]) (rest := [.ref (cx_n X + 40)]) dX2_findBest_87 lm_X2_52 ok_J6_bitCount_0f7a4 (by decide) (w_J6_bitCount_0f7a4 X (mem 40 5) mem _ h) rfl (Nat.le_of_ble_eq_true rfl) (fun v_87 m_87 h => ?_)
  refine gc_iload dX2_findBest_90 rfl ?_
  refine go_cSI (y := M_J6_bitCount_0f7a4) (As := [.int s0]) (rest := [.int v_87, .ref (cx_n X + 40)]) dX2_findBest_92 lm_X2_52 ok_J6_bitCount_0f7a4 (by decide) (w_J6_bitCount_0f7a4 X s0 m_87 _ h) rfl (Nat.le_of_ble_eq_true rfl) (fun v_92 m_92 h => ?_)
  refine gc_isub dX2_findBest_95 ?_
  refine gc_iload_n dX2_findBest_96 rfl ?_
  refine gc_iload_n dX2_findBest_97 rfl ?_
  refine gc_iload dX2_findBest_98 rfl ?_
  refine go_cVU (y := M_X2_offer) (As := [.int (v_87 - v_92), .int l1, .int l2, .int l4]) (rest := []) dX2_findBest_100 lm_X2_104 ok_X2_offer (by decide) (sz_lt (by decide)) kd_40 rfl rfl (w_X2_offer X (v_87 - v_92) l1 l2 l4 m_92 _ h) rfl (Nat.le_of_ble_eq_true rfl) (fun m_100 h => ?_)
  refine gc_iinc (v := l4 + 1) dX2_findBest_103 rfl rfl (by decide) ?_
  refine gc_goto 50 dX2_findBest_106 (by decide) ?_
  refine gc_forget 5 ?_
  exact hkb50 l1 l2 l3 (l4 + 1) m_100  h
def L_X2_findBest_50  (kb7 : Int32 → Mm → Prop) (kb15 : Int32 → Int32 → Mm → Prop) (K : Mm → Prop) : Nat → Int32 → Int32 → Int32 → Int32 → Mm → Prop
  | 0, _, _, _, _, _ => False
  | n + 1, l1, l2, l3, l4, mem => (1 < l4 → (kb15 l1 (l2 + 1) mem)) ∧ (¬ 1 < l4 → ((l3 = 0 → (B_X2_findBest_80   kb7 kb15 (fun zl1 zl2 zl3 zl4 zm => L_X2_findBest_50  kb7 kb15 K n zl1 zl2 zl3 zl4 zm) K l1 l2 l3 l4 (mem 40 5) mem)) ∧ (¬ l3 = 0 → (W_X2_leftBehind 12 (mem 40 5) l1 l2 l4 0 mem (fun v_70 m_70 => B_X2_findBest_80   kb7 kb15 (fun zl1 zl2 zl3 zl4 zm => L_X2_findBest_50  kb7 kb15 K n zl1 zl2 zl3 zl4 zm) K l1 l2 l3 l4 v_70 m_70)))))
set_option maxRecDepth 100000 in
set_option maxHeartbeats 4000000 in
theorem l_X2_findBest_50 (X : CX)   (kb7 : Int32 → Mm → Prop) (kb15 : Int32 → Int32 → Mm → Prop) (K : Mm → Prop) (hkb7 : ∀ (l1 : Int32) (mem : Mm), kb7 l1 mem → GoC X 15 0 0 M_X2_findBest 7 [some (.ref (cx_n X + 40)), some (.int l1), none, none, none, none] [] 0 0 (cellAt X mem) (sz mem) (qm X (fun r m => r = none ∧ K m))) (hkb15 : ∀ (l1 : Int32) (l2 : Int32) (mem : Mm), kb15 l1 l2 mem → GoC X 15 0 0 M_X2_findBest 15 [some (.ref (cx_n X + 40)), some (.int l1), some (.int l2), none, none, none] [] 0 0 (cellAt X mem) (sz mem) (qm X (fun r m => r = none ∧ K m))) : ∀ (n : Nat) (l1 : Int32) (l2 : Int32) (l3 : Int32) (l4 : Int32) (mem : Mm), L_X2_findBest_50   kb7 kb15 K n l1 l2 l3 l4 mem → GoC X 15 0 0 M_X2_findBest 50 [some (.ref (cx_n X + 40)), some (.int l1), some (.int l2), some (.int l3), some (.int l4), none] [] 0 0 (cellAt X mem) (sz mem) (qm X (fun r m => r = none ∧ K m))
  := by
  intro n
  induction n with
  | zero => intro l1 l2 l3 l4 mem h; exact h.elim
  | succ n ih =>
    intro l1 l2 l3 l4 mem h
    unfold L_X2_findBest_50 at h
    refine gc_iload dX2_findBest_50 rfl ?_
    refine gc_iconst (v := 1) dX2_findBest_52 (by decide) ?_
    refine gc_icmp_gt 109 dX2_findBest_53 (by decide) (fun hc => ?_) (fun hc => ?_)
    · have h := h.1 hc
      refine gc_iinc (v := l2 + 1) dX2_findBest_109 rfl rfl (by decide) ?_
      refine gc_goto 15 dX2_findBest_112 (by decide) ?_
      refine gc_forget 3 ?_
      refine gc_forget 4 ?_
      exact hkb15 l1 (l2 + 1) mem  h
    · have h := h.2 hc
      refine gc_iload_n dX2_findBest_56 rfl ?_
      refine gc_if_eq 76 dX2_findBest_57 (by decide) (fun hc => ?_) (fun hc => ?_)
      · have h := h.1 hc
        refine gc_aload_n dX2_findBest_76 rfl ?_
        refine go_getI dX2_findBest_77 lg_X2_28 (sz_lt (by decide)) kd_40 rfl ?_
        exact b_X2_findBest_80 X    kb7 kb15 (fun zl1 zl2 zl3 zl4 zm => L_X2_findBest_50  kb7 kb15 K n zl1 zl2 zl3 zl4 zm) K  hkb7 hkb15 ih l1 l2 l3 l4 (mem 40 5) mem  h
      · have h := h.2 hc
        refine gc_aload_n dX2_findBest_60 rfl ?_
        refine gc_aload_n dX2_findBest_61 rfl ?_
        refine go_getI dX2_findBest_62 lg_X2_28 (sz_lt (by decide)) kd_40 rfl ?_
        refine gc_iload_n dX2_findBest_65 rfl ?_
        refine gc_iload_n dX2_findBest_66 rfl ?_
        refine gc_iload dX2_findBest_67 rfl ?_
        refine gc_iconst (v := 0) dX2_findBest_69 (by decide) ?_
        refine go_cVI (y := M_X2_leftBehind) (As := [.int (mem 40 5), .int l1, .int l2, .int l4, .int 0]) (rest := []) dX2_findBest_70 lm_X2_97 ok_X2_leftBehind (by decide) (sz_lt (by decide)) kd_40 rfl rfl (w_X2_leftBehind X 12 (mem 40 5) l1 l2 l4 0 mem _ h) rfl (Nat.le_of_ble_eq_true rfl) (fun v_70 m_70 h => ?_)
        refine gc_goto 80 dX2_findBest_73 (by decide) ?_
        exact b_X2_findBest_80 X    kb7 kb15 (fun zl1 zl2 zl3 zl4 zm => L_X2_findBest_50  kb7 kb15 K n zl1 zl2 zl3 zl4 zm) K  hkb7 hkb15 ih l1 l2 l3 l4 v_70 m_70  h
def L_X2_findBest_15  (kb7 : Int32 → Mm → Prop) (K : Mm → Prop) : Nat → Int32 → Int32 → Mm → Prop
  | 0, _, _, _ => False
  | n + 1, l1, l2, mem => (8 ≤ l2 → (kb7 (l1 + 1) mem)) ∧ (¬ 8 ≤ l2 → (W_X2_isIn l1 (mem 40 5) mem (fun v_26 m_26 => ((bZ v_26) = 0 → (kb7 (l1 + 1) m_26)) ∧ (¬ (bZ v_26) = 0 → (W_X2_fallsBy (m_26 40 6) l1 l2 (m_26 40 5) m_26 (fun v_43 m_43 => ∃ nz : Nat, L_X2_findBest_50   kb7 (fun zl1 zl2 zm => L_X2_findBest_15  kb7 K n zl1 zl2 zm) K nz l1 l2 (bZ v_43) (-1) m_43))))))
set_option maxRecDepth 100000 in
set_option maxHeartbeats 4000000 in
theorem l_X2_findBest_15 (X : CX)   (kb7 : Int32 → Mm → Prop) (K : Mm → Prop) (hkb7 : ∀ (l1 : Int32) (mem : Mm), kb7 l1 mem → GoC X 15 0 0 M_X2_findBest 7 [some (.ref (cx_n X + 40)), some (.int l1), none, none, none, none] [] 0 0 (cellAt X mem) (sz mem) (qm X (fun r m => r = none ∧ K m))) : ∀ (n : Nat) (l1 : Int32) (l2 : Int32) (mem : Mm), L_X2_findBest_15   kb7 K n l1 l2 mem → GoC X 15 0 0 M_X2_findBest 15 [some (.ref (cx_n X + 40)), some (.int l1), some (.int l2), none, none, none] [] 0 0 (cellAt X mem) (sz mem) (qm X (fun r m => r = none ∧ K m))
  := by
  intro n
  induction n with
  | zero => intro l1 l2 mem h; exact h.elim
  | succ n ih =>
    intro l1 l2 mem h
    unfold L_X2_findBest_15 at h
    refine gc_iload_n dX2_findBest_15 rfl ?_
    refine gc_bipush (v := 8) dX2_findBest_16 (by decide) ?_
    refine gc_icmp_ge 115 dX2_findBest_18 (by decide) (fun hc => ?_) (fun hc => ?_)
    · have h := h.1 hc
      refine gc_iinc (v := l1 + 1) dX2_findBest_115 rfl rfl (by decide) ?_
      refine gc_goto 7 dX2_findBest_118 (by decide) ?_
      refine gc_forget 2 ?_
      exact hkb7 (l1 + 1) mem  h
    · have h := h.2 hc
      refine gc_iload_n dX2_findBest_21 rfl ?_
      refine gc_aload_n dX2_findBest_22 rfl ?_
      refine go_getI dX2_findBest_23 lg_X2_28 (sz_lt (by decide)) kd_40 rfl ?_
      refine go_cSZ (y := M_X2_isIn) (As := [.int l1, .int (mem 40 5)]) (rest := []) dX2_findBest_26 lm_X2_86 ok_X2_isIn (by decide) (w_X2_isIn X l1 (mem 40 5) mem _ h) rfl (Nat.le_of_ble_eq_true rfl) (fun v_26 m_26 h => ?_)
      refine gc_if_eq 115 dX2_findBest_29 (by decide) (fun hc => ?_) (fun hc => ?_)
      · have h := h.1 hc
        refine gc_iinc (v := l1 + 1) dX2_findBest_115 rfl rfl (by decide) ?_
        refine gc_goto 7 dX2_findBest_118 (by decide) ?_
        refine gc_forget 2 ?_
        exact hkb7 (l1 + 1) m_26  h
      · have h := h.2 hc
        refine gc_aload_n dX2_findBest_32 rfl ?_
        refine gc_aload_n dX2_findBest_33 rfl ?_
        refine go_getI dX2_findBest_34 lg_X2_31 (sz_lt (by decide)) kd_40 rfl ?_
        refine gc_iload_n dX2_findBest_37 rfl ?_
        refine gc_iload_n dX2_findBest_38 rfl ?_
        refine gc_aload_n dX2_findBest_39 rfl ?_
        refine go_getI dX2_findBest_40 lg_X2_28 (sz_lt (by decide)) kd_40 rfl ?_
        refine go_cVZ (y := M_X2_fallsBy) (As := [.int (m_26 40 6), .int l1, .int l2, .int (m_26 40 5)]) (rest := []) dX2_findBest_43 lm_X2_93 ok_X2_fallsBy (by decide) (sz_lt (by decide)) kd_40 rfl rfl (w_X2_fallsBy X (m_26 40 6) l1 l2 (m_26 40 5) m_26 _ h) rfl (Nat.le_of_ble_eq_true rfl) (fun v_43 m_43 h => ?_)
        refine gc_istore_n dX2_findBest_46 (by decide) ?_
        refine gc_iconst (v := (-1)) dX2_findBest_47 (by decide) ?_
        refine gc_istore dX2_findBest_48 (by decide) ?_
        obtain ⟨n9, h⟩ := h
        exact l_X2_findBest_50 X    kb7 (fun zl1 zl2 zm => L_X2_findBest_15  kb7 K n zl1 zl2 zm) K  hkb7 ih n9 l1 l2 (bZ v_43) (-1) m_43  h
def L_X2_findBest_7  (K : Mm → Prop) : Nat → Int32 → Mm → Prop
  | 0, _, _ => False
  | n + 1, l1, mem => (9 ≤ l1 → (K mem)) ∧ (¬ 9 ≤ l1 → (∃ nz : Nat, L_X2_findBest_15   (fun zl1 zm => L_X2_findBest_7   K n zl1 zm) K nz l1 0 mem))
set_option maxRecDepth 100000 in
set_option maxHeartbeats 4000000 in
theorem l_X2_findBest_7 (X : CX)   (K : Mm → Prop) : ∀ (n : Nat) (l1 : Int32) (mem : Mm), L_X2_findBest_7    K n l1 mem → GoC X 15 0 0 M_X2_findBest 7 [some (.ref (cx_n X + 40)), some (.int l1), none, none, none, none] [] 0 0 (cellAt X mem) (sz mem) (qm X (fun r m => r = none ∧ K m))
  := by
  intro n
  induction n with
  | zero => intro l1 mem h; exact h.elim
  | succ n ih =>
    intro l1 mem h
    unfold L_X2_findBest_7 at h
    refine gc_iload_n dX2_findBest_7 rfl ?_
    refine gc_bipush (v := 9) dX2_findBest_8 (by decide) ?_
    refine gc_icmp_ge 121 dX2_findBest_10 (by decide) (fun hc => ?_) (fun hc => ?_)
    · have h := h.1 hc
      exact go_vret dX2_findBest_121 rfl (Nat.le_refl _) (Nat.le_refl _) ⟨rfl, h⟩
    · have h := h.2 hc
      refine gc_iconst (v := 0) dX2_findBest_13 (by decide) ?_
      refine gc_istore_n dX2_findBest_14 (by decide) ?_
      obtain ⟨n9, h⟩ := h
      exact l_X2_findBest_15 X    (fun zl1 zm => L_X2_findBest_7   K n zl1 zm) K  ih n9 l1 0 mem  h
def W_X2_findBest  (mem : Mm) (K : Mm → Prop) : Prop := ∀ m_2 : Mm, m_2 = mu mem 40 7 (-1) → (∃ nz : Nat, L_X2_findBest_7    K nz 0 m_2)
set_option maxRecDepth 100000 in
set_option maxHeartbeats 4000000 in
theorem w_X2_findBest (X : CX)  (mem : Mm) (K : Mm → Prop) (h : W_X2_findBest  mem K) : CallsU X 15 M_X2_findBest [.ref (cx_n X + 40)] mem K := by
  unfold W_X2_findBest at h
  refine CallsC.ofP 5 (by decide) rfl (Nat.le_of_ble_eq_true rfl) ?_
  refine gc_aload_n dX2_findBest_0 rfl ?_
  refine gc_iconst (v := (-1)) dX2_findBest_1 (by decide) ?_
  refine go_putI_ dX2_findBest_2 lp_X2_34 (sz_lt (by decide)) kd_40 rfl (fun m_2 em_2 => ?_)
  have h := h m_2 em_2
  refine gc_iconst (v := 0) dX2_findBest_5 (by decide) ?_
  refine gc_istore_n dX2_findBest_6 (by decide) ?_
  obtain ⟨n9, h⟩ := h
  exact l_X2_findBest_7 X     K   n9 0 m_2  h
def W_X8_best (p0 : Int32) (p1 : Int32) (mem : Mm) (K : Int32 → Mm → Prop) : Prop := W_X8_isWithin p0 0 99 mem (fun v_4 m_4 => ((bZ v_4) = 0 → (K (-1000000001) m_4)) ∧ (¬ (bZ v_4) = 0 → (W_X8_isWithin p1 0 3 m_4 (fun v_13 m_13 => (¬ (bZ v_13) = 0 → (W_X0_standing 1 m_13 (fun v_26 m_26 => (¬ v_26 = 0 → (W_X2_lookAt 1 p0 m_26 (fun m_44 => W_X2_findBest  m_44 (fun m_51 => (p1 = 0 → (K (m_51 40 7) m_51)) ∧ (¬ p1 = 0 → ((p1 = 1 → (K (m_51 40 8) m_51)) ∧ (¬ p1 = 1 → ((p1 = 2 → (K (m_51 40 9) m_51)) ∧ (¬ p1 = 2 → (K ((m_51 40 10) + 1) m_51)))))))))) ∧ (v_26 = 0 → (K (-1000000005) m_26))))) ∧ ((bZ v_13) = 0 → (K (-1000000001) m_13))))))
set_option maxRecDepth 100000 in
set_option maxHeartbeats 4000000 in
theorem w_X8_best (X : CX) (p0 : Int32) (p1 : Int32) (mem : Mm) (K : Int32 → Mm → Prop) (h : W_X8_best p0 p1 mem K) : CallsI X 16 M_X8_best [.ref (cx_n X + 0), .int p0, .int p1] mem K := by
  unfold W_X8_best at h
  refine CallsC.ofP 0 (by decide) rfl (Nat.le_of_ble_eq_true rfl) ?_
  refine gc_iload_n dX8_best_0 rfl ?_
  refine gc_iconst (v := 0) dX8_best_1 (by decide) ?_
  refine gc_bipush (v := 99) dX8_best_2 (by decide) ?_
  refine go_cSZ (y := M_X8_isWithin) (As := [.int p0, .int 0, .int 99]) (rest := []) dX8_best_4 lm_X8_70 ok_X8_isWithin (by decide) (w_X8_isWithin X p0 0 99 mem _ h) rfl (Nat.le_of_ble_eq_true rfl) (fun v_4 m_4 h => ?_)
  refine gc_if_eq 19 dX8_best_7 (by decide) (fun hc => ?_) (fun hc => ?_)
  · have h := h.1 hc
    refine gc_ldc (v := (-1000000001)) dX8_best_19 lk_X8_74 ?_
    exact go_iret dX8_best_21 rfl (Nat.le_refl _) (Nat.le_refl _) ⟨_, rfl, h⟩
  · have h := h.2 hc
    refine gc_iload_n dX8_best_10 rfl ?_
    refine gc_iconst (v := 0) dX8_best_11 (by decide) ?_
    refine gc_iconst (v := 3) dX8_best_12 (by decide) ?_
    refine go_cSZ (y := M_X8_isWithin) (As := [.int p1, .int 0, .int 3]) (rest := []) dX8_best_13 lm_X8_70 ok_X8_isWithin (by decide) (w_X8_isWithin X p1 0 3 m_4 _ h) rfl (Nat.le_of_ble_eq_true rfl) (fun v_13 m_13 h => ?_)
    refine gc_if_ne 22 dX8_best_16 (by decide) (fun hc => ?_) (fun hc => ?_)
    · have h := h.1 hc
      refine gc_aload_n dX8_best_22 rfl ?_
      refine go_getR dX8_best_23 lg_X8_10 (sz_lt (by decide)) kd_0 rfl ?_
      refine go_cVI (y := M_X0_standing) (As := []) (rest := []) dX8_best_26 lm_X8_144 ok_X0_standing (by decide) (sz_lt (al_lt al_1)) (al_kd al_1) rfl rfl (w_X0_standing X 1 al_1 m_13 _ h) rfl (Nat.le_of_ble_eq_true rfl) (fun v_26 m_26 h => ?_)
      refine gc_if_ne 35 dX8_best_29 (by decide) (fun hc => ?_) (fun hc => ?_)
      · have h := h.1 hc
        refine gc_aload_n dX8_best_35 rfl ?_
        refine go_getR dX8_best_36 lg_X8_29 (sz_lt (by decide)) kd_0 rfl ?_
        refine gc_aload_n dX8_best_39 rfl ?_
        refine go_getR dX8_best_40 lg_X8_10 (sz_lt (by decide)) kd_0 rfl ?_
        refine gc_iload_n dX8_best_43 rfl ?_
        refine go_cVU (y := M_X2_lookAt) (As := [.ref (cx_n X + 1), .int p0]) (rest := []) dX8_best_44 lm_X8_184 ok_X2_lookAt (by decide) (sz_lt (by decide)) kd_40 rfl rfl (w_X2_lookAt X 1 al_1 p0 m_26 _ h) rfl (Nat.le_of_ble_eq_true rfl) (fun m_44 h => ?_)
        refine gc_aload_n dX8_best_47 rfl ?_
        refine go_getR dX8_best_48 lg_X8_29 (sz_lt (by decide)) kd_0 rfl ?_
        refine go_cVU (y := M_X2_findBest) (As := []) (rest := []) dX8_best_51 lm_X8_188 ok_X2_findBest (by decide) (sz_lt (by decide)) kd_40 rfl rfl (w_X2_findBest X  m_44 _ h) rfl (Nat.le_of_ble_eq_true rfl) (fun m_51 h => ?_)
        refine gc_iload_n dX8_best_54 rfl ?_
        by_cases hn0 : p1 = 0
        · have h := h.1 hn0
          refine gc_tabIn (off := 25) 80 dX8_best_55 (by rw [hn0]; decide) (by rw [hn0]; decide) (by rw [hn0]; rfl) (by decide) ?_
          refine gc_aload_n dX8_best_80 rfl ?_
          refine go_getR dX8_best_81 lg_X8_29 (sz_lt (by decide)) kd_0 rfl ?_
          refine go_getI dX8_best_84 lg_X8_191 (sz_lt (by decide)) kd_40 rfl ?_
          exact go_iret dX8_best_87 rfl (Nat.le_refl _) (Nat.le_refl _) ⟨_, rfl, h⟩
        · have h := h.2 hn0
          have hq0 := tab_ne hn0 (a := 0) (by decide)
          by_cases hn1 : p1 = 1
          · have h := h.1 hn1
            refine gc_tabIn (off := 33) 88 dX8_best_55 (by rw [hn1]; decide) (by rw [hn1]; decide) (by rw [hn1]; rfl) (by decide) ?_
            refine gc_aload_n dX8_best_88 rfl ?_
            refine go_getR dX8_best_89 lg_X8_29 (sz_lt (by decide)) kd_0 rfl ?_
            refine go_getI dX8_best_92 lg_X8_194 (sz_lt (by decide)) kd_40 rfl ?_
            exact go_iret dX8_best_95 rfl (Nat.le_refl _) (Nat.le_refl _) ⟨_, rfl, h⟩
          · have h := h.2 hn1
            have hq1 := tab_ne hn1 (a := 1) (by decide)
            by_cases hn2 : p1 = 2
            · have h := h.1 hn2
              refine gc_tabIn (off := 41) 96 dX8_best_55 (by rw [hn2]; decide) (by rw [hn2]; decide) (by rw [hn2]; rfl) (by decide) ?_
              refine gc_aload_n dX8_best_96 rfl ?_
              refine go_getR dX8_best_97 lg_X8_29 (sz_lt (by decide)) kd_0 rfl ?_
              refine go_getI dX8_best_100 lg_X8_197 (sz_lt (by decide)) kd_40 rfl ?_
              exact go_iret dX8_best_103 rfl (Nat.le_refl _) (Nat.le_refl _) ⟨_, rfl, h⟩
            · have h := h.2 hn2
              have hq2 := tab_ne hn2 (a := 2) (by decide)
              refine gc_tabOut 104 dX8_best_55 (by have q := tab_out (x := p1) (lo := 0) (hi := 2) (fun j h1 h2 => by rcases (show j = 0 ∨ j = 1 ∨ j = 2 by omega) with rfl | rfl | rfl <;> assumption); exact q) (by decide) ?_
              refine gc_aload_n dX8_best_104 rfl ?_
              refine go_getR dX8_best_105 lg_X8_29 (sz_lt (by decide)) kd_0 rfl ?_
              refine go_getI dX8_best_108 lg_X8_200 (sz_lt (by decide)) kd_40 rfl ?_
              refine gc_iconst (v := 1) dX8_best_111 (by decide) ?_
              refine gc_iadd dX8_best_112 ?_
              exact go_iret dX8_best_113 rfl (Nat.le_refl _) (Nat.le_refl _) ⟨_, rfl, h⟩
      · have h := h.2 hc
        refine gc_ldc (v := (-1000000005)) dX8_best_32 lk_X8_183 ?_
        exact go_iret dX8_best_34 rfl (Nat.le_refl _) (Nat.le_refl _) ⟨_, rfl, h⟩
    · have h := h.2 hc
      refine gc_ldc (v := (-1000000001)) dX8_best_19 lk_X8_74 ?_
      exact go_iret dX8_best_21 rfl (Nat.le_refl _) (Nat.le_refl _) ⟨_, rfl, h⟩
def W_X2_startQueue  (mem : Mm) (K : Mm → Prop) : Prop := W_J7_fill_53178 (40 + 1 + 2) 512 (-1) mem (fun m_5 => ∃ i_17 : Nat, (m_5 40 5) = nI i_17 ∧ i_17 < 512 ∧ (∀ m_17 : Mm, m_17 = mu m_5 (40 + 1 + 2) i_17 0 → (∀ m_27 : Mm, m_27 = mu m_17 (40 + 1 + 3) 0 (m_17 40 5) → (∀ m_30 : Mm, m_30 = mu m_27 40 4 1 → (K m_30)))))
set_option maxRecDepth 100000 in
set_option maxHeartbeats 4000000 in
theorem w_X2_startQueue (X : CX)  (mem : Mm) (K : Mm → Prop) (h : W_X2_startQueue  mem K) : CallsU X 1 M_X2_startQueue [.ref (cx_n X + 40)] mem K := by
  unfold W_X2_startQueue at h
  refine CallsC.ofP 0 (by decide) rfl (Nat.le_of_ble_eq_true rfl) ?_
  refine gc_aload_n dX2_startQueue_0 rfl ?_
  refine go_getR dX2_startQueue_1 lg_X2_18 (sz_lt (by decide)) kd_40 rfl ?_
  refine gc_iconst (v := (-1)) dX2_startQueue_4 (by decide) ?_
  refine go_cSU (y := M_J7_fill_53178) (As := [.ref (cx_n X + (40 + 1 + 2)), .int (-1)]) (rest := []) dX2_startQueue_5 lm_X2_121 ok_J7_fill_53178 (by decide) (w_J7_fill_53178 X (40 + 1 + 2) 512 ⟨kd_43, by decide⟩ (-1) mem _ h) rfl (Nat.le_of_ble_eq_true rfl) (fun m_5 h => ?_)
  refine gc_aload_n dX2_startQueue_8 rfl ?_
  refine go_getR dX2_startQueue_9 lg_X2_18 (sz_lt (by decide)) kd_40 rfl ?_
  refine gc_aload_n dX2_startQueue_12 rfl ?_
  refine go_getI dX2_startQueue_13 lg_X2_28 (sz_lt (by decide)) kd_40 rfl ?_
  refine gc_iconst (v := 0) dX2_startQueue_16 (by decide) ?_
  obtain ⟨i_17, hx_17, hi_17, h⟩ := h
  refine go_iast_ i_17 dX2_startQueue_17 kd_43 hx_17 hi_17 (by decide) (fun m_17 em_17 => ?_)
  have h := h m_17 em_17
  refine gc_aload_n dX2_startQueue_18 rfl ?_
  refine go_getR dX2_startQueue_19 lg_X2_21 (sz_lt (by decide)) kd_40 rfl ?_
  refine gc_iconst (v := 0) dX2_startQueue_22 (by decide) ?_
  refine gc_aload_n dX2_startQueue_23 rfl ?_
  refine go_getI dX2_startQueue_24 lg_X2_28 (sz_lt (by decide)) kd_40 rfl ?_
  refine go_iast_ 0 dX2_startQueue_27 kd_44 rfl (by decide) (by decide) (fun m_27 em_27 => ?_)
  have h := h m_27 em_27
  refine gc_aload_n dX2_startQueue_28 rfl ?_
  refine gc_iconst (v := 1) dX2_startQueue_29 (by decide) ?_
  refine go_putI_ dX2_startQueue_30 lp_X2_24 (sz_lt (by decide)) kd_40 rfl (fun m_30 em_30 => ?_)
  have h := h m_30 em_30
  exact go_vret dX2_startQueue_33 rfl (Nat.le_refl _) (Nat.le_refl _) ⟨rfl, h⟩
def W_X2_enqueue (p0 : Int32) (p1 : Int32) (mem : Mm) (K : Mm → Prop) : Prop := ∃ i_5 : Nat, p0 = nI i_5 ∧ i_5 < 512 ∧ ((¬ (mem (40 + 1 + 2) i_5) = (-1) → (K mem)) ∧ ((mem (40 + 1 + 2) i_5) = (-1) → ((512 ≤ (mem 40 4) → (K mem)) ∧ (¬ 512 ≤ (mem 40 4) → (∃ i_26 : Nat, p0 = nI i_26 ∧ i_26 < 512 ∧ (∀ m_26 : Mm, m_26 = mu mem (40 + 1 + 2) i_26 p1 → (∃ i_36 : Nat, (m_26 40 4) = nI i_36 ∧ i_36 < 512 ∧ (∀ m_36 : Mm, m_36 = mu m_26 (40 + 1 + 3) i_36 p0 → (∀ m_44 : Mm, m_44 = mu m_36 40 4 ((m_36 40 4) + 1) → (K m_44))))))))))
set_option maxRecDepth 100000 in
set_option maxHeartbeats 4000000 in
theorem w_X2_enqueue (X : CX) (p0 : Int32) (p1 : Int32) (mem : Mm) (K : Mm → Prop) (h : W_X2_enqueue p0 p1 mem K) : CallsU X 0 M_X2_enqueue [.ref (cx_n X + 40), .int p0, .int p1] mem K := by
  unfold W_X2_enqueue at h
  refine CallsC.ofP 0 (by decide) rfl (Nat.le_of_ble_eq_true rfl) ?_
  refine gc_aload_n dX2_enqueue_0 rfl ?_
  refine go_getR dX2_enqueue_1 lg_X2_18 (sz_lt (by decide)) kd_40 rfl ?_
  refine gc_iload_n dX2_enqueue_4 rfl ?_
  obtain ⟨i_5, hx_5, hi_5, h⟩ := h
  refine go_iald i_5 dX2_enqueue_5 kd_43 hx_5 hi_5 ?_
  refine gc_iconst (v := (-1)) dX2_enqueue_6 (by decide) ?_
  refine gc_icmp_ne 47 dX2_enqueue_7 (by decide) (fun hc => ?_) (fun hc => ?_)
  · have h := h.1 hc
    exact go_vret dX2_enqueue_47 rfl (Nat.le_refl _) (Nat.le_refl _) ⟨rfl, h⟩
  · have h := h.2 hc
    refine gc_aload_n dX2_enqueue_10 rfl ?_
    refine go_getI dX2_enqueue_11 lg_X2_24 (sz_lt (by decide)) kd_40 rfl ?_
    refine gc_sipush (v := 512) dX2_enqueue_14 (by decide) ?_
    refine gc_icmp_ge 47 dX2_enqueue_17 (by decide) (fun hc => ?_) (fun hc => ?_)
    · have h := h.1 hc
      exact go_vret dX2_enqueue_47 rfl (Nat.le_refl _) (Nat.le_refl _) ⟨rfl, h⟩
    · have h := h.2 hc
      refine gc_aload_n dX2_enqueue_20 rfl ?_
      refine go_getR dX2_enqueue_21 lg_X2_18 (sz_lt (by decide)) kd_40 rfl ?_
      refine gc_iload_n dX2_enqueue_24 rfl ?_
      refine gc_iload_n dX2_enqueue_25 rfl ?_
      obtain ⟨i_26, hx_26, hi_26, h⟩ := h
      refine go_iast_ i_26 dX2_enqueue_26 kd_43 hx_26 hi_26 (by decide) (fun m_26 em_26 => ?_)
      have h := h m_26 em_26
      refine gc_aload_n dX2_enqueue_27 rfl ?_
      refine go_getR dX2_enqueue_28 lg_X2_21 (sz_lt (by decide)) kd_40 rfl ?_
      refine gc_aload_n dX2_enqueue_31 rfl ?_
      refine go_getI dX2_enqueue_32 lg_X2_24 (sz_lt (by decide)) kd_40 rfl ?_
      refine gc_iload_n dX2_enqueue_35 rfl ?_
      obtain ⟨i_36, hx_36, hi_36, h⟩ := h
      refine go_iast_ i_36 dX2_enqueue_36 kd_44 hx_36 hi_36 (by decide) (fun m_36 em_36 => ?_)
      have h := h m_36 em_36
      refine gc_aload_n dX2_enqueue_37 rfl ?_
      refine gc_dup dX2_enqueue_38 rfl ?_
      refine go_getI dX2_enqueue_39 lg_X2_24 (sz_lt (by decide)) kd_40 rfl ?_
      refine gc_iconst (v := 1) dX2_enqueue_42 (by decide) ?_
      refine gc_iadd dX2_enqueue_43 ?_
      refine go_putI_ dX2_enqueue_44 lp_X2_24 (sz_lt (by decide)) kd_40 rfl (fun m_44 em_44 => ?_)
      have h := h m_44 em_44
      exact go_vret dX2_enqueue_47 rfl (Nat.le_refl _) (Nat.le_refl _) ⟨rfl, h⟩
def L_X2_queueAllBehind_41 (p0 : Int32) (kb2 : Int32 → Int32 → Mm → Prop) (kb10 : Int32 → Int32 → Int32 → Mm → Prop) (K : Mm → Prop) : Nat → Int32 → Int32 → Int32 → Int32 → Mm → Prop
  | 0, _, _, _, _, _ => False
  | n + 1, l1, l2, l3, l4, mem => (1 < l4 → (kb10 l1 l2 (l3 + 1) mem)) ∧ (¬ 1 < l4 → (W_X2_leftBehind 12 l1 l2 l3 l4 0 mem (fun v_55 m_55 => ∃ i_63 : Nat, l1 = nI i_63 ∧ i_63 < 512 ∧ (W_X2_enqueue v_55 ((m_55 (40 + 1 + 2) i_63) + 1) m_55 (fun m_66 => L_X2_queueAllBehind_41 p0 kb2 kb10 K n l1 l2 l3 (l4 + 1) m_66)))))
set_option maxRecDepth 100000 in
set_option maxHeartbeats 4000000 in
theorem l_X2_queueAllBehind_41 (X : CX) (p0 : Int32)  (kb2 : Int32 → Int32 → Mm → Prop) (kb10 : Int32 → Int32 → Int32 → Mm → Prop) (K : Mm → Prop) (hkb2 : ∀ (l1 : Int32) (l2 : Int32) (mem : Mm), kb2 l1 l2 mem → GoC X 15 0 0 M_X2_queueAllBehind 2 [some (.ref (cx_n X + 40)), some (.int l1), some (.int l2), none, none] [] 0 0 (cellAt X mem) (sz mem) (qm X (fun r m => r = none ∧ K m))) (hkb10 : ∀ (l1 : Int32) (l2 : Int32) (l3 : Int32) (mem : Mm), kb10 l1 l2 l3 mem → GoC X 15 0 0 M_X2_queueAllBehind 10 [some (.ref (cx_n X + 40)), some (.int l1), some (.int l2), some (.int l3), none] [] 0 0 (cellAt X mem) (sz mem) (qm X (fun r m => r = none ∧ K m))) : ∀ (n : Nat) (l1 : Int32) (l2 : Int32) (l3 : Int32) (l4 : Int32) (mem : Mm), L_X2_queueAllBehind_41 p0  kb2 kb10 K n l1 l2 l3 l4 mem → GoC X 15 0 0 M_X2_queueAllBehind 41 [some (.ref (cx_n X + 40)), some (.int l1), some (.int l2), some (.int l3), some (.int l4)] [] 0 0 (cellAt X mem) (sz mem) (qm X (fun r m => r = none ∧ K m))
  := by
  intro n
  induction n with
  | zero => intro l1 l2 l3 l4 mem h; exact h.elim
  | succ n ih =>
    intro l1 l2 l3 l4 mem h
    unfold L_X2_queueAllBehind_41 at h
    refine gc_iload dX2_queueAllBehind_41 rfl ?_
    refine gc_iconst (v := 1) dX2_queueAllBehind_43 (by decide) ?_
    refine gc_icmp_gt 75 dX2_queueAllBehind_44 (by decide) (fun hc => ?_) (fun hc => ?_)
    · have h := h.1 hc
      refine gc_iinc (v := l3 + 1) dX2_queueAllBehind_75 rfl rfl (by decide) ?_
      refine gc_goto 10 dX2_queueAllBehind_78 (by decide) ?_
      refine gc_forget 4 ?_
      exact hkb10 l1 l2 (l3 + 1) mem  h
    · have h := h.2 hc
      refine gc_aload_n dX2_queueAllBehind_47 rfl ?_
      refine gc_aload_n dX2_queueAllBehind_48 rfl ?_
      refine gc_iload_n dX2_queueAllBehind_49 rfl ?_
      refine gc_iload_n dX2_queueAllBehind_50 rfl ?_
      refine gc_iload_n dX2_queueAllBehind_51 rfl ?_
      refine gc_iload dX2_queueAllBehind_52 rfl ?_
      refine gc_iconst (v := 0) dX2_queueAllBehind_54 (by decide) ?_
      refine go_cVI (y := M_X2_leftBehind) (As := [.int l1, .int l2, .int l3, .int l4, .int 0]) (rest := [.ref (cx_n X + 40)]) dX2_queueAllBehind_55 lm_X2_97 ok_X2_leftBehind (by decide) (sz_lt (by decide)) kd_40 rfl rfl (w_X2_leftBehind X 12 l1 l2 l3 l4 0 mem _ h) rfl (Nat.le_of_ble_eq_true rfl) (fun v_55 m_55 h => ?_)
      refine gc_aload_n dX2_queueAllBehind_58 rfl ?_
      refine go_getR dX2_queueAllBehind_59 lg_X2_18 (sz_lt (by decide)) kd_40 rfl ?_
      refine gc_iload_n dX2_queueAllBehind_62 rfl ?_
      obtain ⟨i_63, hx_63, hi_63, h⟩ := h
      refine go_iald i_63 dX2_queueAllBehind_63 kd_43 hx_63 hi_63 ?_
      refine gc_iconst (v := 1) dX2_queueAllBehind_64 (by decide) ?_
      refine gc_iadd dX2_queueAllBehind_65 ?_
      refine go_cVU (y := M_X2_enqueue) (As := [.int v_55, .int ((m_55 (40 + 1 + 2) i_63) + 1)]) (rest := []) dX2_queueAllBehind_66 lm_X2_127 ok_X2_enqueue (by decide) (sz_lt (by decide)) kd_40 rfl rfl (w_X2_enqueue X v_55 ((m_55 (40 + 1 + 2) i_63) + 1) m_55 _ h) rfl (Nat.le_of_ble_eq_true rfl) (fun m_66 h => ?_)
      refine gc_iinc (v := l4 + 1) dX2_queueAllBehind_69 rfl rfl (by decide) ?_
      refine gc_goto 41 dX2_queueAllBehind_72 (by decide) ?_
      exact ih l1 l2 l3 (l4 + 1) m_66  h
def L_X2_queueAllBehind_10 (p0 : Int32) (kb2 : Int32 → Int32 → Mm → Prop) (K : Mm → Prop) : Nat → Int32 → Int32 → Int32 → Mm → Prop
  | 0, _, _, _, _ => False
  | n + 1, l1, l2, l3, mem => (8 ≤ l3 → (kb2 l1 (l2 + 1) mem)) ∧ (¬ 8 ≤ l3 → (W_X2_isIn l2 l1 mem (fun v_18 m_18 => ((bZ v_18) = 0 → (kb2 l1 (l2 + 1) m_18)) ∧ (¬ (bZ v_18) = 0 → (W_X2_fallsBy (m_18 40 6) l2 l3 l1 m_18 (fun v_32 m_32 => ((bZ v_32) = 0 → (L_X2_queueAllBehind_10 p0 kb2 K n l1 l2 (l3 + 1) m_32)) ∧ (¬ (bZ v_32) = 0 → (∃ nz : Nat, L_X2_queueAllBehind_41 p0  kb2 (fun zl1 zl2 zl3 zm => L_X2_queueAllBehind_10 p0 kb2 K n zl1 zl2 zl3 zm) K nz l1 l2 l3 (-1) m_32))))))))
set_option maxRecDepth 100000 in
set_option maxHeartbeats 4000000 in
theorem l_X2_queueAllBehind_10 (X : CX) (p0 : Int32)  (kb2 : Int32 → Int32 → Mm → Prop) (K : Mm → Prop) (hkb2 : ∀ (l1 : Int32) (l2 : Int32) (mem : Mm), kb2 l1 l2 mem → GoC X 15 0 0 M_X2_queueAllBehind 2 [some (.ref (cx_n X + 40)), some (.int l1), some (.int l2), none, none] [] 0 0 (cellAt X mem) (sz mem) (qm X (fun r m => r = none ∧ K m))) : ∀ (n : Nat) (l1 : Int32) (l2 : Int32) (l3 : Int32) (mem : Mm), L_X2_queueAllBehind_10 p0  kb2 K n l1 l2 l3 mem → GoC X 15 0 0 M_X2_queueAllBehind 10 [some (.ref (cx_n X + 40)), some (.int l1), some (.int l2), some (.int l3), none] [] 0 0 (cellAt X mem) (sz mem) (qm X (fun r m => r = none ∧ K m))
  := by
  intro n
  induction n with
  | zero => intro l1 l2 l3 mem h; exact h.elim
  | succ n ih =>
    intro l1 l2 l3 mem h
    unfold L_X2_queueAllBehind_10 at h
    refine gc_iload_n dX2_queueAllBehind_10 rfl ?_
    refine gc_bipush (v := 8) dX2_queueAllBehind_11 (by decide) ?_
    refine gc_icmp_ge 81 dX2_queueAllBehind_13 (by decide) (fun hc => ?_) (fun hc => ?_)
    · have h := h.1 hc
      refine gc_iinc (v := l2 + 1) dX2_queueAllBehind_81 rfl rfl (by decide) ?_
      refine gc_goto 2 dX2_queueAllBehind_84 (by decide) ?_
      refine gc_forget 3 ?_
      exact hkb2 l1 (l2 + 1) mem  h
    · have h := h.2 hc
      refine gc_iload_n dX2_queueAllBehind_16 rfl ?_
      refine gc_iload_n dX2_queueAllBehind_17 rfl ?_
      refine go_cSZ (y := M_X2_isIn) (As := [.int l2, .int l1]) (rest := []) dX2_queueAllBehind_18 lm_X2_86 ok_X2_isIn (by decide) (w_X2_isIn X l2 l1 mem _ h) rfl (Nat.le_of_ble_eq_true rfl) (fun v_18 m_18 h => ?_)
      refine gc_if_eq 81 dX2_queueAllBehind_21 (by decide) (fun hc => ?_) (fun hc => ?_)
      · have h := h.1 hc
        refine gc_iinc (v := l2 + 1) dX2_queueAllBehind_81 rfl rfl (by decide) ?_
        refine gc_goto 2 dX2_queueAllBehind_84 (by decide) ?_
        refine gc_forget 3 ?_
        exact hkb2 l1 (l2 + 1) m_18  h
      · have h := h.2 hc
        refine gc_aload_n dX2_queueAllBehind_24 rfl ?_
        refine gc_aload_n dX2_queueAllBehind_25 rfl ?_
        refine go_getI dX2_queueAllBehind_26 lg_X2_31 (sz_lt (by decide)) kd_40 rfl ?_
        refine gc_iload_n dX2_queueAllBehind_29 rfl ?_
        refine gc_iload_n dX2_queueAllBehind_30 rfl ?_
        refine gc_iload_n dX2_queueAllBehind_31 rfl ?_
        refine go_cVZ (y := M_X2_fallsBy) (As := [.int (m_18 40 6), .int l2, .int l3, .int l1]) (rest := []) dX2_queueAllBehind_32 lm_X2_93 ok_X2_fallsBy (by decide) (sz_lt (by decide)) kd_40 rfl rfl (w_X2_fallsBy X (m_18 40 6) l2 l3 l1 m_18 _ h) rfl (Nat.le_of_ble_eq_true rfl) (fun v_32 m_32 h => ?_)
        refine gc_if_eq 75 dX2_queueAllBehind_35 (by decide) (fun hc => ?_) (fun hc => ?_)
        · have h := h.1 hc
          refine gc_iinc (v := l3 + 1) dX2_queueAllBehind_75 rfl rfl (by decide) ?_
          refine gc_goto 10 dX2_queueAllBehind_78 (by decide) ?_
          exact ih l1 l2 (l3 + 1) m_32  h
        · have h := h.2 hc
          refine gc_iconst (v := (-1)) dX2_queueAllBehind_38 (by decide) ?_
          refine gc_istore dX2_queueAllBehind_39 (by decide) ?_
          obtain ⟨n9, h⟩ := h
          exact l_X2_queueAllBehind_41 X p0   kb2 (fun zl1 zl2 zl3 zm => L_X2_queueAllBehind_10 p0 kb2 K n zl1 zl2 zl3 zm) K  hkb2 ih n9 l1 l2 l3 (-1) m_32  h
def L_X2_queueAllBehind_2 (p0 : Int32) (K : Mm → Prop) : Nat → Int32 → Int32 → Mm → Prop
  | 0, _, _, _ => False
  | n + 1, l1, l2, mem => (9 ≤ l2 → (K mem)) ∧ (¬ 9 ≤ l2 → (∃ nz : Nat, L_X2_queueAllBehind_10 p0  (fun zl1 zl2 zm => L_X2_queueAllBehind_2 p0  K n zl1 zl2 zm) K nz l1 l2 0 mem))
set_option maxRecDepth 100000 in
set_option maxHeartbeats 4000000 in
theorem l_X2_queueAllBehind_2 (X : CX) (p0 : Int32)  (K : Mm → Prop) : ∀ (n : Nat) (l1 : Int32) (l2 : Int32) (mem : Mm), L_X2_queueAllBehind_2 p0   K n l1 l2 mem → GoC X 15 0 0 M_X2_queueAllBehind 2 [some (.ref (cx_n X + 40)), some (.int l1), some (.int l2), none, none] [] 0 0 (cellAt X mem) (sz mem) (qm X (fun r m => r = none ∧ K m))
  := by
  intro n
  induction n with
  | zero => intro l1 l2 mem h; exact h.elim
  | succ n ih =>
    intro l1 l2 mem h
    unfold L_X2_queueAllBehind_2 at h
    refine gc_iload_n dX2_queueAllBehind_2 rfl ?_
    refine gc_bipush (v := 9) dX2_queueAllBehind_3 (by decide) ?_
    refine gc_icmp_ge 87 dX2_queueAllBehind_5 (by decide) (fun hc => ?_) (fun hc => ?_)
    · have h := h.1 hc
      exact go_vret dX2_queueAllBehind_87 rfl (Nat.le_refl _) (Nat.le_refl _) ⟨rfl, h⟩
    · have h := h.2 hc
      refine gc_iconst (v := 0) dX2_queueAllBehind_8 (by decide) ?_
      refine gc_istore_n dX2_queueAllBehind_9 (by decide) ?_
      obtain ⟨n9, h⟩ := h
      exact l_X2_queueAllBehind_10 X p0   (fun zl1 zl2 zm => L_X2_queueAllBehind_2 p0  K n zl1 zl2 zm) K  ih n9 l1 l2 0 mem  h
def W_X2_queueAllBehind (p0 : Int32) (mem : Mm) (K : Mm → Prop) : Prop := ∃ nz : Nat, L_X2_queueAllBehind_2 p0   K nz p0 0 mem
set_option maxRecDepth 100000 in
set_option maxHeartbeats 4000000 in
theorem w_X2_queueAllBehind (X : CX) (p0 : Int32) (mem : Mm) (K : Mm → Prop) (h : W_X2_queueAllBehind p0 mem K) : CallsU X 15 M_X2_queueAllBehind [.ref (cx_n X + 40), .int p0] mem K := by
  unfold W_X2_queueAllBehind at h
  refine CallsC.ofP 3 (by decide) rfl (Nat.le_of_ble_eq_true rfl) ?_
  refine gc_iconst (v := 0) dX2_queueAllBehind_0 (by decide) ?_
  refine gc_istore_n dX2_queueAllBehind_1 (by decide) ?_
  obtain ⟨n9, h⟩ := h
  exact l_X2_queueAllBehind_2 X p0    K   n9 p0 0 mem  h
