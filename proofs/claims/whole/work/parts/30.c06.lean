def W_J0_checkIndex_df160 (p0 : Int32) (p1 : Int32) (mem : Mm) (K : Mm → Prop) : Prop := ∀ r_2 : Option Nat, (W_J3_checkIndex_8e157 p0 p1 r_2 mem (fun v_5 m_5 => K m_5))
set_option maxRecDepth 100000 in
set_option maxHeartbeats 4000000 in
theorem w_J0_checkIndex_df160 (X : CX) (p0 : Int32) (p1 : Int32) (mem : Mm) (K : Mm → Prop) (h : W_J0_checkIndex_df160 p0 p1 mem K) : CallsU X 1 M_J0_checkIndex_df160 [.int p0, .int p1] mem K := by
  unfold W_J0_checkIndex_df160 at h
  refine CallsC.ofP 0 (by decide) rfl (Nat.le_of_ble_eq_true rfl) ?_
  refine gc_iload_n dJ0_checkIndex_df160_0 rfl ?_
  refine gc_iload_n dJ0_checkIndex_df160_1 rfl ?_
  refine gc_getsF dJ0_checkIndex_df160_2 lj_J0_1053 (fun r_2 => ?_)
  have h := h r_2
  refine go_cSI (y := M_J3_checkIndex_8e157) (As := [.int p0, .int p1, va_rf r_2]) (rest := []) dJ0_checkIndex_df160_5 lm_J0_1059 ok_J3_checkIndex_8e157 (by decide) (w_J3_checkIndex_8e157 X p0 p1 r_2 mem _ h) rfl (Nat.le_of_ble_eq_true rfl) (fun v_5 m_5 h => ?_)
  refine gc_pop dJ0_checkIndex_df160_8 rfl ?_
  exact go_vret dJ0_checkIndex_df160_9 rfl (Nat.le_refl _) (Nat.le_refl _) ⟨rfl, h⟩
def W_J1_charAt_3b067 (j1 : Nat) (p1 : Int32) (mem : Mm) (K : Int32 → Mm → Prop) : Prop := W_J0_checkIndex_df160 p1 (nI (ss_L.getD j1 0)) mem (fun m_3 => ∃ i_8 : Nat, p1 = nI i_8 ∧ i_8 < ss_L.getD j1 0 ∧ (K (((((ss_B.getD j1 []).getD i_8 0) &&& 255).toUInt32 % 65536).toInt32) m_3))
set_option maxRecDepth 100000 in
set_option maxHeartbeats 4000000 in
theorem w_J1_charAt_3b067 (X : CX) (j1 : Nat) (hj1 : j1 < 6) (p1 : Int32) (mem : Mm) (K : Int32 → Mm → Prop) (h : W_J1_charAt_3b067 j1 p1 mem K) : CallsH X 2 M_J1_charAt_3b067 [.ref (cx_k X (12 + j1)), .int p1] mem K := by
  unfold W_J1_charAt_3b067 at h
  refine CallsC.ofP 0 (by decide) rfl (Nat.le_of_ble_eq_true rfl) ?_
  refine gc_iload_n dJ1_charAt_3b067_0 rfl ?_
  refine gc_aload_n dJ1_charAt_3b067_1 rfl ?_
  refine gc_sblen hj1 dJ1_charAt_3b067_2 ?_
  refine go_cSU (y := M_J0_checkIndex_df160) (As := [.int p1, .int (nI (ss_L.getD j1 0))]) (rest := []) dJ1_charAt_3b067_3 lm_J1_9 ok_J0_checkIndex_df160 (by decide) (w_J0_checkIndex_df160 X p1 (nI (ss_L.getD j1 0)) mem _ h) rfl (Nat.le_of_ble_eq_true rfl) (fun m_3 h => ?_)
  refine gc_aload_n dJ1_charAt_3b067_6 rfl ?_
  refine gc_iload_n dJ1_charAt_3b067_7 rfl ?_
  obtain ⟨i_8, hx_8, hi_8, h⟩ := h
  refine gc_sbald i_8 hj1 dJ1_charAt_3b067_8 hx_8 hi_8 ?_
  refine gc_sipush (v := 255) dJ1_charAt_3b067_9 (by decide) ?_
  refine gc_iand dJ1_charAt_3b067_12 ?_
  refine gc_i2c dJ1_charAt_3b067_13 ?_
  exact go_hret dJ1_charAt_3b067_14 rfl (pk_nc _) (Nat.le_refl _) (Nat.le_refl _) h
def W_J0_charAt_5068e (j0 : Nat) (p0 : Int32) (mem : Mm) (K : Int32 → Mm → Prop) : Prop := W_J0_isLatin1_aae02 j0 mem (fun v_1 m_1 => ((bZ v_1) = 0 → (False)) ∧ (¬ (bZ v_1) = 0 → (W_J1_charAt_3b067 j0 p0 m_1 (fun v_12 m_12 => K v_12 m_12))))
set_option maxRecDepth 100000 in
set_option maxHeartbeats 4000000 in
theorem w_J0_charAt_5068e (X : CX) (j0 : Nat) (hj0 : j0 < 6) (p0 : Int32) (mem : Mm) (K : Int32 → Mm → Prop) (h : W_J0_charAt_5068e j0 p0 mem K) : CallsH X 3 M_J0_charAt_5068e [.ref (cx_k X (6 + j0)), .int p0] mem K := by
  unfold W_J0_charAt_5068e at h
  refine CallsC.ofP 0 (by decide) rfl (Nat.le_of_ble_eq_true rfl) ?_
  refine gc_aload_n dJ0_charAt_5068e_0 rfl ?_
  refine go_cRZ (y := M_J0_isLatin1_aae02) (As := []) (rest := []) dJ0_charAt_5068e_1 lm_J0_492 ok_J0_isLatin1_aae02 (by decide) hj0 rfl (w_J0_isLatin1_aae02 X j0 hj0 mem _ h) rfl (Nat.le_of_ble_eq_true rfl) (fun v_1 m_1 h => ?_)
  refine gc_if_eq 16 dJ0_charAt_5068e_4 (by decide) (fun hc => ?_) (fun hc => ?_)
  · have h := h.1 hc
    refine gc_aload_n dJ0_charAt_5068e_16 rfl ?_
    refine gc_strv hj0 dJ0_charAt_5068e_17 lj_J0_9 ?_
    refine gc_iload_n dJ0_charAt_5068e_20 rfl ?_
    exact h.elim
  · have h := h.2 hc
    refine gc_aload_n dJ0_charAt_5068e_7 rfl ?_
    refine gc_strv hj0 dJ0_charAt_5068e_8 lj_J0_9 ?_
    refine gc_iload_n dJ0_charAt_5068e_11 rfl ?_
    refine go_cSH (y := M_J1_charAt_3b067) (As := [.ref (cx_k X (12 + j0)), .int p0]) (rest := []) dJ0_charAt_5068e_12 lm_J0_495 ok_J1_charAt_3b067 (by decide) (w_J1_charAt_3b067 X j0 hj0 p0 m_1 _ h) rfl (Nat.le_of_ble_eq_true rfl) (fun v_12 m_12 hn_12 h => ?_)
    exact go_hret dJ0_charAt_5068e_15 rfl hn_12 (Nat.le_refl _) (Nat.le_refl _) h
def L_X7_isRead_28 (j1 : Nat) (K : Bool → Mm → Prop) : Nat → Int32 → Mm → Prop
  | 0, _, _ => False
  | n + 1, l2, mem => W_J0_length_8abf5 j1 mem (fun v_30 m_30 => (v_30 ≤ l2 → (K true m_30)) ∧ (¬ v_30 ≤ l2 → (W_X7_byteAt ((m_30 45 2) + l2) m_30 (fun v_43 m_43 => W_J0_charAt_5068e j1 l2 m_43 (fun v_48 m_48 => (v_43 = v_48 → (L_X7_isRead_28 j1  K n (l2 + 1) m_48)) ∧ (¬ v_43 = v_48 → (K false m_48)))))))
set_option maxRecDepth 100000 in
set_option maxHeartbeats 4000000 in
theorem l_X7_isRead_28 (X : CX) (j1 : Nat) (hj1 : j1 < 6) (K : Bool → Mm → Prop) : ∀ (n : Nat) (l2 : Int32) (mem : Mm), L_X7_isRead_28 j1   K n l2 mem → GoC X 4 0 0 M_X7_isRead 28 [some (.ref (cx_n X + 45)), some (.ref (cx_k X (6 + j1))), some (.int l2)] [] 0 0 (cellAt X mem) (sz mem) (qm X (fun r m => ∃ b : Bool, r = some (.int (bZ b)) ∧ K b m))
  := by
  intro n
  induction n with
  | zero => intro l2 mem h; exact h.elim
  | succ n ih =>
    intro l2 mem h
    unfold L_X7_isRead_28 at h
    refine gc_iload_n dX7_isRead_28 rfl ?_
    refine gc_aload_n dX7_isRead_29 rfl ?_
    refine go_cRI (y := M_J0_length_8abf5) (As := []) (rest := [.int l2]) dX7_isRead_30 lm_X7_133 ok_J0_length_8abf5 (by decide) hj1 rfl (w_J0_length_8abf5 X j1 hj1 mem _ h) rfl (Nat.le_of_ble_eq_true rfl) (fun v_30 m_30 h => ?_)
    refine gc_icmp_ge 62 dX7_isRead_33 (by decide) (fun hc => ?_) (fun hc => ?_)
    · have h := h.1 hc
      refine gc_iconst (v := 1) dX7_isRead_62 (by decide) ?_
      exact go_zret dX7_isRead_63 rfl (by decide) (Nat.le_refl _) (Nat.le_refl _) ⟨true, rfl, h⟩
    · have h := h.2 hc
      refine gc_aload_n dX7_isRead_36 rfl ?_
      refine gc_aload_n dX7_isRead_37 rfl ?_
      refine go_getI dX7_isRead_38 lg_X7_22 (sz_lt (by decide)) kd_45 rfl ?_
      refine gc_iload_n dX7_isRead_41 rfl ?_
      refine gc_iadd dX7_isRead_42 ?_
      refine go_cVI (y := M_X7_byteAt) (As := [.int ((m_30 45 2) + l2)]) (rest := []) dX7_isRead_43 lm_X7_98 ok_X7_byteAt (by decide) (sz_lt (by decide)) kd_45 rfl rfl (w_X7_byteAt X ((m_30 45 2) + l2) m_30 _ h) rfl (Nat.le_of_ble_eq_true rfl) (fun v_43 m_43 h => ?_)
      refine gc_aload_n dX7_isRead_46 rfl ?_
      refine gc_iload_n dX7_isRead_47 rfl ?_
      refine go_cRH (y := M_J0_charAt_5068e) (As := [.int l2]) (rest := [.int v_43]) dX7_isRead_48 lm_X7_138 ok_J0_charAt_5068e (by decide) hj1 rfl (w_J0_charAt_5068e X j1 hj1 l2 m_43 _ h) rfl (Nat.le_of_ble_eq_true rfl) (fun v_48 m_48 hn_48 h => ?_)
      refine gc_icmp_eq 56 dX7_isRead_51 (by decide) (fun hc => ?_) (fun hc => ?_)
      · have h := h.1 hc
        refine gc_iinc (v := l2 + 1) dX7_isRead_56 rfl rfl (by decide) ?_
        refine gc_goto 28 dX7_isRead_59 (by decide) ?_
        exact ih (l2 + 1) m_48  h
      · have h := h.2 hc
        refine gc_iconst (v := 0) dX7_isRead_54 (by decide) ?_
        exact go_zret dX7_isRead_55 rfl (by decide) (Nat.le_refl _) (Nat.le_refl _) ⟨false, rfl, h⟩
def W_X7_isRead (j1 : Nat) (mem : Mm) (K : Bool → Mm → Prop) : Prop := (¬ (mem 45 1) = 1 → (K false mem)) ∧ ((mem 45 1) = 1 → (W_J0_length_8abf5 j1 mem (fun v_18 m_18 => (((mem 45 3) - (mem 45 2)) = v_18 → (∃ nz : Nat, L_X7_isRead_28 j1   K nz 0 m_18)) ∧ (¬ ((mem 45 3) - (mem 45 2)) = v_18 → (K false m_18)))))
set_option maxRecDepth 100000 in
set_option maxHeartbeats 4000000 in
theorem w_X7_isRead (X : CX) (j1 : Nat) (hj1 : j1 < 6) (mem : Mm) (K : Bool → Mm → Prop) (h : W_X7_isRead j1 mem K) : CallsZ X 4 M_X7_isRead [.ref (cx_n X + 45), .ref (cx_k X (6 + j1))] mem K := by
  unfold W_X7_isRead at h
  refine CallsC.ofP 1 (by decide) rfl (Nat.le_of_ble_eq_true rfl) ?_
  refine gc_aload_n dX7_isRead_0 rfl ?_
  refine go_getI dX7_isRead_1 lg_X7_18 (sz_lt (by decide)) kd_45 rfl ?_
  refine gc_iconst (v := 1) dX7_isRead_4 (by decide) ?_
  refine gc_icmp_ne 24 dX7_isRead_5 (by decide) (fun hc => ?_) (fun hc => ?_)
  · have h := h.1 hc
    refine gc_iconst (v := 0) dX7_isRead_24 (by decide) ?_
    exact go_zret dX7_isRead_25 rfl (by decide) (Nat.le_refl _) (Nat.le_refl _) ⟨false, rfl, h⟩
  · have h := h.2 hc
    refine gc_aload_n dX7_isRead_8 rfl ?_
    refine go_getI dX7_isRead_9 lg_X7_25 (sz_lt (by decide)) kd_45 rfl ?_
    refine gc_aload_n dX7_isRead_12 rfl ?_
    refine go_getI dX7_isRead_13 lg_X7_22 (sz_lt (by decide)) kd_45 rfl ?_
    refine gc_isub dX7_isRead_16 ?_
    refine gc_aload_n dX7_isRead_17 rfl ?_
    refine go_cRI (y := M_J0_length_8abf5) (As := []) (rest := [.int ((mem 45 3) - (mem 45 2))]) dX7_isRead_18 lm_X7_133 ok_J0_length_8abf5 (by decide) hj1 rfl (w_J0_length_8abf5 X j1 hj1 mem _ h) rfl (Nat.le_of_ble_eq_true rfl) (fun v_18 m_18 h => ?_)
    refine gc_icmp_eq 26 dX7_isRead_21 (by decide) (fun hc => ?_) (fun hc => ?_)
    · have h := h.1 hc
      refine gc_iconst (v := 0) dX7_isRead_26 (by decide) ?_
      refine gc_istore_n dX7_isRead_27 (by decide) ?_
      obtain ⟨n9, h⟩ := h
      exact l_X7_isRead_28 X j1 hj1   K   n9 0 m_18  h
    · have h := h.2 hc
      refine gc_iconst (v := 0) dX7_isRead_24 (by decide) ?_
      exact go_zret dX7_isRead_25 rfl (by decide) (Nat.le_refl _) (Nat.le_refl _) ⟨false, rfl, h⟩
def L_X7_keyRead_2  (K : Int32 → Mm → Prop) : Nat → Int32 → Mm → Prop
  | 0, _, _ => False
  | n + 1, l1, mem => (3 ≤ l1 → (K 3 mem)) ∧ (¬ 3 ≤ l1 → (W_X7_wordOf l1 mem (fun v_9 m_9 => v_9 < 6 → (W_X7_isRead v_9 m_9 (fun v_12 m_12 => ((bZ v_12) = 0 → (L_X7_keyRead_2   K n (l1 + 1) m_12)) ∧ (¬ (bZ v_12) = 0 → (K l1 m_12)))))))
set_option maxRecDepth 100000 in
set_option maxHeartbeats 4000000 in
theorem l_X7_keyRead_2 (X : CX)   (K : Int32 → Mm → Prop) : ∀ (n : Nat) (l1 : Int32) (mem : Mm), L_X7_keyRead_2    K n l1 mem → GoC X 5 0 0 M_X7_keyRead 2 [some (.ref (cx_n X + 45)), some (.int l1)] [] 0 0 (cellAt X mem) (sz mem) (qm X (fun r m => ∃ v : Int32, r = some (.int v) ∧ K v m))
  := by
  intro n
  induction n with
  | zero => intro l1 mem h; exact h.elim
  | succ n ih =>
    intro l1 mem h
    unfold L_X7_keyRead_2 at h
    refine gc_iload_n dX7_keyRead_2 rfl ?_
    refine gc_iconst (v := 3) dX7_keyRead_3 (by decide) ?_
    refine gc_icmp_ge 26 dX7_keyRead_4 (by decide) (fun hc => ?_) (fun hc => ?_)
    · have h := h.1 hc
      refine gc_iconst (v := 3) dX7_keyRead_26 (by decide) ?_
      exact go_iret dX7_keyRead_27 rfl (Nat.le_refl _) (Nat.le_refl _) ⟨_, rfl, h⟩
    · have h := h.2 hc
      refine gc_aload_n dX7_keyRead_7 rfl ?_
      refine gc_iload_n dX7_keyRead_8 rfl ?_
      refine go_cSS (y := M_X7_wordOf) (As := [.int l1]) (rest := [.ref (cx_n X + 45)]) dX7_keyRead_9 lm_X7_113 ok_X7_wordOf (by decide) (w_X7_wordOf X l1 mem _ h) rfl (Nat.le_of_ble_eq_true rfl) (fun v_9 m_9 hj_9 h => ?_)
      have h := h hj_9
      refine go_cVZ (y := M_X7_isRead) (As := [.ref (cx_k X (6 + v_9))]) (rest := []) dX7_keyRead_12 lm_X7_117 ok_X7_isRead (by decide) (sz_lt (by decide)) kd_45 rfl rfl (w_X7_isRead X v_9 hj_9 m_9 _ h) rfl (Nat.le_of_ble_eq_true rfl) (fun v_12 m_12 h => ?_)
      refine gc_if_eq 20 dX7_keyRead_15 (by decide) (fun hc => ?_) (fun hc => ?_)
      · have h := h.1 hc
        refine gc_iinc (v := l1 + 1) dX7_keyRead_20 rfl rfl (by decide) ?_
        refine gc_goto 2 dX7_keyRead_23 (by decide) ?_
        exact ih (l1 + 1) m_12  h
      · have h := h.2 hc
        refine gc_iload_n dX7_keyRead_18 rfl ?_
        exact go_iret dX7_keyRead_19 rfl (Nat.le_refl _) (Nat.le_refl _) ⟨_, rfl, h⟩
def W_X7_keyRead  (mem : Mm) (K : Int32 → Mm → Prop) : Prop := ∃ nz : Nat, L_X7_keyRead_2    K nz 0 mem
set_option maxRecDepth 100000 in
set_option maxHeartbeats 4000000 in
theorem w_X7_keyRead (X : CX)  (mem : Mm) (K : Int32 → Mm → Prop) (h : W_X7_keyRead  mem K) : CallsI X 5 M_X7_keyRead [.ref (cx_n X + 45)] mem K := by
  unfold W_X7_keyRead at h
  refine CallsC.ofP 1 (by decide) rfl (Nat.le_of_ble_eq_true rfl) ?_
  refine gc_iconst (v := 0) dX7_keyRead_0 (by decide) ?_
  refine gc_istore_n dX7_keyRead_1 (by decide) ?_
  obtain ⟨n9, h⟩ := h
  exact l_X7_keyRead_2 X     K   n9 0 mem  h
def L_X7_numberRead_7  (K : Int32 → Mm → Prop) : Nat → Int32 → Int32 → Mm → Prop
  | 0, _, _, _ => False
  | n + 1, l1, l2, mem => ((mem 45 3) ≤ l2 → (K l1 mem)) ∧ (¬ (mem 45 3) ≤ l2 → (W_X7_byteAt l2 mem (fun v_21 m_21 => L_X7_numberRead_7   K n (((l1 * 10) + v_21) - 48) (l2 + 1) m_21)))
set_option maxRecDepth 100000 in
set_option maxHeartbeats 4000000 in
theorem l_X7_numberRead_7 (X : CX)   (K : Int32 → Mm → Prop) : ∀ (n : Nat) (l1 : Int32) (l2 : Int32) (mem : Mm), L_X7_numberRead_7    K n l1 l2 mem → GoC X 2 0 0 M_X7_numberRead 7 [some (.ref (cx_n X + 45)), some (.int l1), some (.int l2)] [] 0 0 (cellAt X mem) (sz mem) (qm X (fun r m => ∃ v : Int32, r = some (.int v) ∧ K v m))
  := by
  intro n
  induction n with
  | zero => intro l1 l2 mem h; exact h.elim
  | succ n ih =>
    intro l1 l2 mem h
    unfold L_X7_numberRead_7 at h
    refine gc_iload_n dX7_numberRead_7 rfl ?_
    refine gc_aload_n dX7_numberRead_8 rfl ?_
    refine go_getI dX7_numberRead_9 lg_X7_25 (sz_lt (by decide)) kd_45 rfl ?_
    refine gc_icmp_ge 35 dX7_numberRead_12 (by decide) (fun hc => ?_) (fun hc => ?_)
    · have h := h.1 hc
      refine gc_iload_n dX7_numberRead_35 rfl ?_
      exact go_iret dX7_numberRead_36 rfl (Nat.le_refl _) (Nat.le_refl _) ⟨_, rfl, h⟩
    · have h := h.2 hc
      refine gc_iload_n dX7_numberRead_15 rfl ?_
      refine gc_bipush (v := 10) dX7_numberRead_16 (by decide) ?_
      refine gc_imul dX7_numberRead_18 ?_
      refine gc_aload_n dX7_numberRead_19 rfl ?_
      refine gc_iload_n dX7_numberRead_20 rfl ?_
      refine go_cVI (y := M_X7_byteAt) (As := [.int l2]) (rest := [.int (l1 * 10)]) dX7_numberRead_21 lm_X7_98 ok_X7_byteAt (by decide) (sz_lt (by decide)) kd_45 rfl rfl (w_X7_byteAt X l2 mem _ h) rfl (Nat.le_of_ble_eq_true rfl) (fun v_21 m_21 h => ?_)
      refine gc_iadd dX7_numberRead_24 ?_
      refine gc_bipush (v := 48) dX7_numberRead_25 (by decide) ?_
      refine gc_isub dX7_numberRead_27 ?_
      refine gc_istore_n dX7_numberRead_28 (by decide) ?_
      refine gc_iinc (v := l2 + 1) dX7_numberRead_29 rfl rfl (by decide) ?_
      refine gc_goto 7 dX7_numberRead_32 (by decide) ?_
      exact ih (((l1 * 10) + v_21) - 48) (l2 + 1) m_21  h
def W_X7_numberRead  (mem : Mm) (K : Int32 → Mm → Prop) : Prop := ∃ nz : Nat, L_X7_numberRead_7    K nz 0 (mem 45 2) mem
set_option maxRecDepth 100000 in
set_option maxHeartbeats 4000000 in
theorem w_X7_numberRead (X : CX)  (mem : Mm) (K : Int32 → Mm → Prop) (h : W_X7_numberRead  mem K) : CallsI X 2 M_X7_numberRead [.ref (cx_n X + 45)] mem K := by
  unfold W_X7_numberRead at h
  refine CallsC.ofP 2 (by decide) rfl (Nat.le_of_ble_eq_true rfl) ?_
  refine gc_iconst (v := 0) dX7_numberRead_0 (by decide) ?_
  refine gc_istore_n dX7_numberRead_1 (by decide) ?_
  refine gc_aload_n dX7_numberRead_2 rfl ?_
  refine go_getI dX7_numberRead_3 lg_X7_22 (sz_lt (by decide)) kd_45 rfl ?_
  refine gc_istore_n dX7_numberRead_6 (by decide) ?_
  obtain ⟨n9, h⟩ := h
  exact l_X7_numberRead_7 X     K   n9 0 (mem 45 2) mem  h
def W_X7_emit (p0 : Int32) (mem : Mm) (K : Mm → Prop) : Prop := (96 ≤ (mem 45 13) → (K mem)) ∧ (¬ 96 ≤ (mem 45 13) → (∃ i_18 : Nat, (mem 45 13) = nI i_18 ∧ i_18 < 96 ∧ (∀ m_18 : Mm, m_18 = mu mem (45 + 4) i_18 p0 → (∀ m_26 : Mm, m_26 = mu m_18 45 13 ((m_18 45 13) + 1) → (K m_26)))))
set_option maxRecDepth 100000 in
set_option maxHeartbeats 4000000 in
theorem w_X7_emit (X : CX) (p0 : Int32) (mem : Mm) (K : Mm → Prop) (h : W_X7_emit p0 mem K) : CallsU X 0 M_X7_emit [.ref (cx_n X + 45), .int p0] mem K := by
  unfold W_X7_emit at h
  refine CallsC.ofP 0 (by decide) rfl (Nat.le_of_ble_eq_true rfl) ?_
  refine gc_aload_n dX7_emit_0 rfl ?_
  refine go_getI dX7_emit_1 lg_X7_57 (sz_lt (by decide)) kd_45 rfl ?_
  refine gc_bipush (v := 96) dX7_emit_4 (by decide) ?_
  refine gc_icmp_ge 29 dX7_emit_6 (by decide) (fun hc => ?_) (fun hc => ?_)
  · have h := h.1 hc
    exact go_vret dX7_emit_29 rfl (Nat.le_refl _) (Nat.le_refl _) ⟨rfl, h⟩
  · have h := h.2 hc
    refine gc_aload_n dX7_emit_9 rfl ?_
    refine go_getR dX7_emit_10 lg_X7_54 (sz_lt (by decide)) kd_45 rfl ?_
    refine gc_aload_n dX7_emit_13 rfl ?_
    refine go_getI dX7_emit_14 lg_X7_57 (sz_lt (by decide)) kd_45 rfl ?_
    refine gc_iload_n dX7_emit_17 rfl ?_
    obtain ⟨i_18, hx_18, hi_18, h⟩ := h
    refine go_iast_ i_18 dX7_emit_18 kd_49 hx_18 hi_18 (by decide) (fun m_18 em_18 => ?_)
    have h := h m_18 em_18
    refine gc_aload_n dX7_emit_19 rfl ?_
    refine gc_dup dX7_emit_20 rfl ?_
    refine go_getI dX7_emit_21 lg_X7_57 (sz_lt (by decide)) kd_45 rfl ?_
    refine gc_iconst (v := 1) dX7_emit_24 (by decide) ?_
    refine gc_iadd dX7_emit_25 ?_
    refine go_putI_ dX7_emit_26 lp_X7_57 (sz_lt (by decide)) kd_45 rfl (fun m_26 em_26 => ?_)
    have h := h m_26 em_26
    exact go_vret dX7_emit_29 rfl (Nat.le_refl _) (Nat.le_refl _) ⟨rfl, h⟩
def W_X7_popSign  (mem : Mm) (K : Mm → Prop) : Prop := ((mem 45 11) ≤ 0 → (K mem)) ∧ (¬ (mem 45 11) ≤ 0 → (∀ m_14 : Mm, m_14 = mu mem 45 11 ((mem 45 11) - 1) → (∃ i_26 : Nat, (m_14 45 11) = nI i_26 ∧ i_26 < 96 ∧ (W_X7_emit (-(m_14 (45 + 3) i_26)) m_14 (fun m_28 => K m_28)))))
set_option maxRecDepth 100000 in
set_option maxHeartbeats 4000000 in
theorem w_X7_popSign (X : CX)  (mem : Mm) (K : Mm → Prop) (h : W_X7_popSign  mem K) : CallsU X 1 M_X7_popSign [.ref (cx_n X + 45)] mem K := by
  unfold W_X7_popSign at h
  refine CallsC.ofP 0 (by decide) rfl (Nat.le_of_ble_eq_true rfl) ?_
  refine gc_aload_n dX7_popSign_0 rfl ?_
  refine go_getI dX7_popSign_1 lg_X7_51 (sz_lt (by decide)) kd_45 rfl ?_
  refine gc_if_le 31 dX7_popSign_4 (by decide) (fun hc => ?_) (fun hc => ?_)
  · have h := h.1 hc
    exact go_vret dX7_popSign_31 rfl (Nat.le_refl _) (Nat.le_refl _) ⟨rfl, h⟩
  · have h := h.2 hc
    refine gc_aload_n dX7_popSign_7 rfl ?_
    refine gc_dup dX7_popSign_8 rfl ?_
    refine go_getI dX7_popSign_9 lg_X7_51 (sz_lt (by decide)) kd_45 rfl ?_
    refine gc_iconst (v := 1) dX7_popSign_12 (by decide) ?_
    refine gc_isub dX7_popSign_13 ?_
    refine go_putI_ dX7_popSign_14 lp_X7_51 (sz_lt (by decide)) kd_45 rfl (fun m_14 em_14 => ?_)
    have h := h m_14 em_14
    refine gc_aload_n dX7_popSign_17 rfl ?_
    refine gc_aload_n dX7_popSign_18 rfl ?_
    refine go_getR dX7_popSign_19 lg_X7_47 (sz_lt (by decide)) kd_45 rfl ?_
    refine gc_aload_n dX7_popSign_22 rfl ?_
    refine go_getI dX7_popSign_23 lg_X7_51 (sz_lt (by decide)) kd_45 rfl ?_
    obtain ⟨i_26, hx_26, hi_26, h⟩ := h
    refine go_iald i_26 dX7_popSign_26 kd_48 hx_26 hi_26 ?_
    refine gc_ineg dX7_popSign_27 ?_
    refine go_cVU (y := M_X7_emit) (As := [.int (-(m_14 (45 + 3) i_26))]) (rest := []) dX7_popSign_28 lm_X7_158 ok_X7_emit (by decide) (sz_lt (by decide)) kd_45 rfl rfl (w_X7_emit X (-(m_14 (45 + 3) i_26)) m_14 _ h) rfl (Nat.le_of_ble_eq_true rfl) (fun m_28 h => ?_)
    exact go_vret dX7_popSign_31 rfl (Nat.le_refl _) (Nat.le_refl _) ⟨rfl, h⟩
def L_X7_endPiece_10  (K : Mm → Prop) : Nat → Int32 → Mm → Prop
  | 0, _, _ => False
  | n + 1, l1, mem => (l1 ≤ 0 → (K mem)) ∧ (¬ l1 ≤ 0 → (∃ i_21 : Nat, (l1 - 1) = nI i_21 ∧ i_21 < 96 ∧ ((¬ (mem (45 + 3) i_21) = 33 → (K mem)) ∧ ((mem (45 + 3) i_21) = 33 → (W_X7_popSign  mem (fun m_28 => ∀ m_38 : Mm, m_38 = mu m_28 45 9 ((m_28 45 9) - 1) → (L_X7_endPiece_10   K n (l1 + (-1)) m_38)))))))
set_option maxRecDepth 100000 in
set_option maxHeartbeats 4000000 in
theorem l_X7_endPiece_10 (X : CX)   (K : Mm → Prop) : ∀ (n : Nat) (l1 : Int32) (mem : Mm), L_X7_endPiece_10    K n l1 mem → GoC X 2 0 0 M_X7_endPiece 10 [some (.ref (cx_n X + 45)), some (.int l1)] [] 0 0 (cellAt X mem) (sz mem) (qm X (fun r m => r = none ∧ K m))
  := by
  intro n
  induction n with
  | zero => intro l1 mem h; exact h.elim
  | succ n ih =>
    intro l1 mem h
    unfold L_X7_endPiece_10 at h
    refine gc_iload_n dX7_endPiece_10 rfl ?_
    refine gc_if_le 47 dX7_endPiece_11 (by decide) (fun hc => ?_) (fun hc => ?_)
    · have h := h.1 hc
      exact go_vret dX7_endPiece_47 rfl (Nat.le_refl _) (Nat.le_refl _) ⟨rfl, h⟩
    · have h := h.2 hc
      refine gc_aload_n dX7_endPiece_14 rfl ?_
      refine go_getR dX7_endPiece_15 lg_X7_47 (sz_lt (by decide)) kd_45 rfl ?_
      refine gc_iload_n dX7_endPiece_18 rfl ?_
      refine gc_iconst (v := 1) dX7_endPiece_19 (by decide) ?_
      refine gc_isub dX7_endPiece_20 ?_
      obtain ⟨i_21, hx_21, hi_21, h⟩ := h
      refine go_iald i_21 dX7_endPiece_21 kd_48 hx_21 hi_21 ?_
      refine gc_bipush (v := 33) dX7_endPiece_22 (by decide) ?_
      refine gc_icmp_ne 47 dX7_endPiece_24 (by decide) (fun hc => ?_) (fun hc => ?_)
      · have h := h.1 hc
        exact go_vret dX7_endPiece_47 rfl (Nat.le_refl _) (Nat.le_refl _) ⟨rfl, h⟩
      · have h := h.2 hc
        refine gc_aload_n dX7_endPiece_27 rfl ?_
        refine go_cVU (y := M_X7_popSign) (As := []) (rest := []) dX7_endPiece_28 lm_X7_164 ok_X7_popSign (by decide) (sz_lt (by decide)) kd_45 rfl rfl (w_X7_popSign X  mem _ h) rfl (Nat.le_of_ble_eq_true rfl) (fun m_28 h => ?_)
        refine gc_aload_n dX7_endPiece_31 rfl ?_
        refine gc_dup dX7_endPiece_32 rfl ?_
        refine go_getI dX7_endPiece_33 lg_X7_44 (sz_lt (by decide)) kd_45 rfl ?_
        refine gc_iconst (v := 1) dX7_endPiece_36 (by decide) ?_
        refine gc_isub dX7_endPiece_37 ?_
        refine go_putI_ dX7_endPiece_38 lp_X7_44 (sz_lt (by decide)) kd_45 rfl (fun m_38 em_38 => ?_)
        have h := h m_38 em_38
        refine gc_iinc (v := l1 + (-1)) dX7_endPiece_41 rfl rfl (by decide) ?_
        refine gc_goto 10 dX7_endPiece_44 (by decide) ?_
        exact ih (l1 + (-1)) m_38  h
def W_X7_endPiece  (mem : Mm) (K : Mm → Prop) : Prop := ∀ m_2 : Mm, m_2 = mu mem 45 5 0 → (∃ nz : Nat, L_X7_endPiece_10    K nz (m_2 45 11) m_2)
set_option maxRecDepth 100000 in
set_option maxHeartbeats 4000000 in
theorem w_X7_endPiece (X : CX)  (mem : Mm) (K : Mm → Prop) (h : W_X7_endPiece  mem K) : CallsU X 2 M_X7_endPiece [.ref (cx_n X + 45)] mem K := by
  unfold W_X7_endPiece at h
  refine CallsC.ofP 1 (by decide) rfl (Nat.le_of_ble_eq_true rfl) ?_
  refine gc_aload_n dX7_endPiece_0 rfl ?_
  refine gc_iconst (v := 0) dX7_endPiece_1 (by decide) ?_
  refine go_putZ_ dX7_endPiece_2 lp_X7_32 (sz_lt (by decide)) kd_45 rfl (by decide) (fun m_2 em_2 => ?_)
  have h := h m_2 em_2
  refine gc_aload_n dX7_endPiece_5 rfl ?_
  refine go_getI dX7_endPiece_6 lg_X7_51 (sz_lt (by decide)) kd_45 rfl ?_
  refine gc_istore_n dX7_endPiece_9 (by decide) ?_
  obtain ⟨n9, h⟩ := h
  exact l_X7_endPiece_10 X     K   n9 (m_2 45 11) m_2  h
def W_X7_takesValue (p0 : Int32) (mem : Mm) (K : Bool → Mm → Prop) : Prop := ∀ m_7 : Mm, m_7 = mu mem 45 7 ((mem 45 7) + 1) → (W_X7_emit p0 m_7 (fun m_12 => W_X7_endPiece  m_12 (fun m_16 => K true m_16)))
set_option maxRecDepth 100000 in
set_option maxHeartbeats 4000000 in
theorem w_X7_takesValue (X : CX) (p0 : Int32) (mem : Mm) (K : Bool → Mm → Prop) (h : W_X7_takesValue p0 mem K) : CallsZ X 3 M_X7_takesValue [.ref (cx_n X + 45), .int p0] mem K := by
  unfold W_X7_takesValue at h
  refine CallsC.ofP 0 (by decide) rfl (Nat.le_of_ble_eq_true rfl) ?_
  refine gc_aload_n dX7_takesValue_0 rfl ?_
  refine gc_dup dX7_takesValue_1 rfl ?_
  refine go_getI dX7_takesValue_2 lg_X7_38 (sz_lt (by decide)) kd_45 rfl ?_
  refine gc_iconst (v := 1) dX7_takesValue_5 (by decide) ?_
  refine gc_iadd dX7_takesValue_6 ?_
  refine go_putI_ dX7_takesValue_7 lp_X7_38 (sz_lt (by decide)) kd_45 rfl (fun m_7 em_7 => ?_)
  have h := h m_7 em_7
  refine gc_aload_n dX7_takesValue_10 rfl ?_
  refine gc_iload_n dX7_takesValue_11 rfl ?_
  refine go_cVU (y := M_X7_emit) (As := [.int p0]) (rest := []) dX7_takesValue_12 lm_X7_158 ok_X7_emit (by decide) (sz_lt (by decide)) kd_45 rfl rfl (w_X7_emit X p0 m_7 _ h) rfl (Nat.le_of_ble_eq_true rfl) (fun m_12 h => ?_)
  refine gc_aload_n dX7_takesValue_15 rfl ?_
  refine go_cVU (y := M_X7_endPiece) (As := []) (rest := []) dX7_takesValue_16 lm_X7_161 ok_X7_endPiece (by decide) (sz_lt (by decide)) kd_45 rfl rfl (w_X7_endPiece X  m_12 _ h) rfl (Nat.le_of_ble_eq_true rfl) (fun m_16 h => ?_)
  refine gc_iconst (v := 1) dX7_takesValue_19 (by decide) ?_
  exact go_zret dX7_takesValue_20 rfl (by decide) (Nat.le_refl _) (Nat.le_refl _) ⟨true, rfl, h⟩
def W_X7_namesOf (p0 : Int32) (mem : Mm) (K : Nat → Mm → Prop) : Prop := (p0 = 0 → (K 3 mem)) ∧ (¬ p0 = 0 → ((p0 = 1 → (K 4 mem)) ∧ (¬ p0 = 1 → (K 5 mem))))
set_option maxRecDepth 100000 in
set_option maxHeartbeats 4000000 in
theorem w_X7_namesOf (X : CX) (p0 : Int32) (mem : Mm) (K : Nat → Mm → Prop) (h : W_X7_namesOf p0 mem K) : CallsS X 0 M_X7_namesOf [.int p0] mem K := by
  unfold W_X7_namesOf at h
  refine CallsC.ofP 0 (by decide) rfl (Nat.le_of_ble_eq_true rfl) ?_
  refine gc_iload_n dX7_namesOf_0 rfl ?_
  by_cases hn0 : p0 = 0
  · have h := h.1 hn0
    refine gc_lookup (off := 27) 28 dX7_namesOf_1 (by decide) (by rw [hn0]; rfl) (by decide) ?_
    refine gc_ldcS 3 (by decide) rfl rfl dX7_namesOf_28 ?_
    exact go_sret dX7_namesOf_30 rfl (by decide) (Nat.le_refl _) (Nat.le_refl _) h
  · have h := h.2 hn0
    have hq0 := tab_ne hn0 (a := 0) (by decide)
    by_cases hn1 : p0 = 1
    · have h := h.1 hn1
      refine gc_lookup (off := 30) 31 dX7_namesOf_1 (by decide) (by rw [hn1]; rfl) (by decide) ?_
      refine gc_ldcS 4 (by decide) rfl rfl dX7_namesOf_31 ?_
      exact go_sret dX7_namesOf_33 rfl (by decide) (Nat.le_refl _) (Nat.le_refl _) h
    · have h := h.2 hn1
      have hq1 := tab_ne hn1 (a := 1) (by decide)
      refine gc_lookup (off := 33) 34 dX7_namesOf_1 (by decide) (by show Op.lookupswitch.offset [(0, 27), (1, 30)] 33 _ = 33; rw [lv_osw (k := (0)) hn0 (by decide), lv_osw (k := (1)) hn1 (by decide)]; rfl) (by decide) ?_
      refine gc_ldcS 5 (by decide) rfl rfl dX7_namesOf_34 ?_
      exact go_sret dX7_namesOf_36 rfl (by decide) (Nat.le_refl _) (Nat.le_refl _) h
def W_J1_canEncode_9a6ad (p0 : Int32) (mem : Mm) (K : Bool → Mm → Prop) : Prop := (p0 < 0 → (K false mem)) ∧ (¬ p0 < 0 → ((255 < p0 → (K false mem)) ∧ (¬ 255 < p0 → (K true mem))))
set_option maxRecDepth 100000 in
set_option maxHeartbeats 4000000 in
theorem w_J1_canEncode_9a6ad (X : CX) (p0 : Int32) (mem : Mm) (K : Bool → Mm → Prop) (h : W_J1_canEncode_9a6ad p0 mem K) : CallsZ X 0 M_J1_canEncode_9a6ad [.int p0] mem K := by
  unfold W_J1_canEncode_9a6ad at h
  refine CallsC.ofP 0 (by decide) rfl (Nat.le_of_ble_eq_true rfl) ?_
  refine gc_iload_n dJ1_canEncode_9a6ad_0 rfl ?_
  refine gc_if_lt 15 dJ1_canEncode_9a6ad_1 (by decide) (fun hc => ?_) (fun hc => ?_)
  · have h := h.1 hc
    refine gc_iconst (v := 0) dJ1_canEncode_9a6ad_15 (by decide) ?_
    exact go_zret dJ1_canEncode_9a6ad_16 rfl (by decide) (Nat.le_refl _) (Nat.le_refl _) ⟨false, rfl, h⟩
  · have h := h.2 hc
    refine gc_iload_n dJ1_canEncode_9a6ad_4 rfl ?_
    refine gc_sipush (v := 255) dJ1_canEncode_9a6ad_5 (by decide) ?_
    refine gc_icmp_gt 15 dJ1_canEncode_9a6ad_8 (by decide) (fun hc => ?_) (fun hc => ?_)
    · have h := h.1 hc
      refine gc_iconst (v := 0) dJ1_canEncode_9a6ad_15 (by decide) ?_
      exact go_zret dJ1_canEncode_9a6ad_16 rfl (by decide) (Nat.le_refl _) (Nat.le_refl _) ⟨false, rfl, h⟩
    · have h := h.2 hc
      refine gc_iconst (v := 1) dJ1_canEncode_9a6ad_11 (by decide) ?_
      refine gc_goto 16 dJ1_canEncode_9a6ad_12 (by decide) ?_
      exact go_zret dJ1_canEncode_9a6ad_16 rfl (by decide) (Nat.le_refl _) (Nat.le_refl _) ⟨true, rfl, h⟩
def L_J1_indexOfChar_4cfef_7 (j1 : Nat) (p1 : Int32) (p2 : Int32) (p3 : Int32) (K : Int32 → Mm → Prop) : Nat → Int32 → Int32 → Int32 → Mm → Prop
  | 0, _, _, _, _ => False
  | n + 1, l3, l4, l5, mem => (l3 ≤ l5 → (K (-1) mem)) ∧ (¬ l3 ≤ l5 → (∃ i_16 : Nat, l5 = nI i_16 ∧ i_16 < ss_L.getD j1 0 ∧ ((¬ ((ss_B.getD j1 []).getD i_16 0) = l4 → (L_J1_indexOfChar_4cfef_7 j1 p1 p2 p3  K n l3 l4 (l5 + 1) mem)) ∧ (((ss_B.getD j1 []).getD i_16 0) = l4 → (K l5 mem)))))
set_option maxRecDepth 100000 in
set_option maxHeartbeats 4000000 in
theorem l_J1_indexOfChar_4cfef_7 (X : CX) (j1 : Nat) (p1 : Int32) (p2 : Int32) (p3 : Int32) (hj1 : j1 < 6) (K : Int32 → Mm → Prop) : ∀ (n : Nat) (l3 : Int32) (l4 : Int32) (l5 : Int32) (mem : Mm), L_J1_indexOfChar_4cfef_7 j1 p1 p2 p3   K n l3 l4 l5 mem → GoC X 0 0 0 M_J1_indexOfChar_4cfef 7 [some (.ref (cx_k X (12 + j1))), none, none, some (.int l3), some (.int l4), some (.int l5)] [] 0 0 (cellAt X mem) (sz mem) (qm X (fun r m => ∃ v : Int32, r = some (.int v) ∧ K v m))
  := by
  intro n
  induction n with
  | zero => intro l3 l4 l5 mem h; exact h.elim
  | succ n ih =>
    intro l3 l4 l5 mem h
    unfold L_J1_indexOfChar_4cfef_7 at h
    refine gc_iload dJ1_indexOfChar_4cfef_7 rfl ?_
    refine gc_iload_n dJ1_indexOfChar_4cfef_9 rfl ?_
    refine gc_icmp_ge 31 dJ1_indexOfChar_4cfef_10 (by decide) (fun hc => ?_) (fun hc => ?_)
    · have h := h.1 hc
      refine gc_iconst (v := (-1)) dJ1_indexOfChar_4cfef_31 (by decide) ?_
      exact go_iret dJ1_indexOfChar_4cfef_32 rfl (Nat.le_refl _) (Nat.le_refl _) ⟨_, rfl, h⟩
    · have h := h.2 hc
      refine gc_aload_n dJ1_indexOfChar_4cfef_13 rfl ?_
      refine gc_iload dJ1_indexOfChar_4cfef_14 rfl ?_
      obtain ⟨i_16, hx_16, hi_16, h⟩ := h
      refine gc_sbald i_16 hj1 dJ1_indexOfChar_4cfef_16 hx_16 hi_16 ?_
      refine gc_iload dJ1_indexOfChar_4cfef_17 rfl ?_
      refine gc_icmp_ne 25 dJ1_indexOfChar_4cfef_19 (by decide) (fun hc => ?_) (fun hc => ?_)
      · have h := h.1 hc
        refine gc_iinc (v := l5 + 1) dJ1_indexOfChar_4cfef_25 rfl rfl (by decide) ?_
        refine gc_goto 7 dJ1_indexOfChar_4cfef_28 (by decide) ?_
        exact ih l3 l4 (l5 + 1) mem  h
      · have h := h.2 hc
        refine gc_iload dJ1_indexOfChar_4cfef_22 rfl ?_
        exact go_iret dJ1_indexOfChar_4cfef_24 rfl (Nat.le_refl _) (Nat.le_refl _) ⟨_, rfl, h⟩
def W_J1_indexOfChar_4cfef (j1 : Nat) (p1 : Int32) (p2 : Int32) (p3 : Int32) (mem : Mm) (K : Int32 → Mm → Prop) : Prop := ∃ nz : Nat, L_J1_indexOfChar_4cfef_7 j1 p1 p2 p3   K nz p3 p1.toInt8.toInt32 p2 mem
set_option maxRecDepth 100000 in
set_option maxHeartbeats 4000000 in
theorem w_J1_indexOfChar_4cfef (X : CX) (j1 : Nat) (hj1 : j1 < 6) (p1 : Int32) (p2 : Int32) (p3 : Int32) (mem : Mm) (K : Int32 → Mm → Prop) (h : W_J1_indexOfChar_4cfef j1 p1 p2 p3 mem K) : CallsI X 0 M_J1_indexOfChar_4cfef [.ref (cx_k X (12 + j1)), .int p1, .int p2, .int p3] mem K := by
  unfold W_J1_indexOfChar_4cfef at h
  refine CallsC.ofP 2 (by decide) rfl (Nat.le_of_ble_eq_true rfl) ?_
  refine gc_iload_n dJ1_indexOfChar_4cfef_0 rfl ?_
  refine gc_i2b dJ1_indexOfChar_4cfef_1 ?_
  refine gc_istore dJ1_indexOfChar_4cfef_2 (by decide) ?_
  refine gc_iload_n dJ1_indexOfChar_4cfef_4 rfl ?_
  refine gc_istore dJ1_indexOfChar_4cfef_5 (by decide) ?_
  refine gc_forget 1 ?_
  refine gc_forget 2 ?_
  obtain ⟨n9, h⟩ := h
  exact l_J1_indexOfChar_4cfef_7 X j1 p1 p2 p3 hj1   K   n9 p3 p1.toInt8.toInt32 p2 mem  h
def W_J1_indexOf_4cfef (j1 : Nat) (p1 : Int32) (p2 : Int32) (p3 : Int32) (mem : Mm) (K : Int32 → Mm → Prop) : Prop := W_J1_canEncode_9a6ad p1 mem (fun v_1 m_1 => (¬ (bZ v_1) = 0 → (∀ y_21 : Int32, y_21 = (if (nI (ss_L.getD j1 0)) < p3 then (nI (ss_L.getD j1 0)) else p3) → (((if p2 < 0 then 0 else p2) < y_21 → (W_J1_indexOfChar_4cfef j1 p1 (if p2 < 0 then 0 else p2) y_21 m_1 (fun v_33 m_33 => K v_33 m_33))) ∧ (¬ (if p2 < 0 then 0 else p2) < y_21 → (K (-1) m_1))))) ∧ ((bZ v_1) = 0 → (K (-1) m_1)))
set_option maxRecDepth 100000 in
set_option maxHeartbeats 4000000 in
theorem w_J1_indexOf_4cfef (X : CX) (j1 : Nat) (hj1 : j1 < 6) (p1 : Int32) (p2 : Int32) (p3 : Int32) (mem : Mm) (K : Int32 → Mm → Prop) (h : W_J1_indexOf_4cfef j1 p1 p2 p3 mem K) : CallsI X 1 M_J1_indexOf_4cfef [.ref (cx_k X (12 + j1)), .int p1, .int p2, .int p3] mem K := by
  unfold W_J1_indexOf_4cfef at h
  refine CallsC.ofP 0 (by decide) rfl (Nat.le_of_ble_eq_true rfl) ?_
  refine gc_iload_n dJ1_indexOf_4cfef_0 rfl ?_
  refine go_cSZ (y := M_J1_canEncode_9a6ad) (As := [.int p1]) (rest := []) dJ1_indexOf_4cfef_1 lm_J1_88 ok_J1_canEncode_9a6ad (by decide) (w_J1_canEncode_9a6ad X p1 mem _ h) rfl (Nat.le_of_ble_eq_true rfl) (fun v_1 m_1 h => ?_)
  refine gc_if_ne 9 dJ1_indexOf_4cfef_4 (by decide) (fun hc => ?_) (fun hc => ?_)
  · have h := h.1 hc
    refine gc_iload_n dJ1_indexOf_4cfef_9 rfl ?_
    refine gc_iconst (v := 0) dJ1_indexOf_4cfef_10 (by decide) ?_
    refine gc_mmax dJ1_indexOf_4cfef_11 lmm_J1_92 (by decide) (Nat.le_of_ble_eq_true rfl) (Nat.le_refl _) (Nat.le_refl _) ?_
    refine gc_istore_n dJ1_indexOf_4cfef_14 (by decide) ?_
    refine gc_iload_n dJ1_indexOf_4cfef_15 rfl ?_
    refine gc_aload_n dJ1_indexOf_4cfef_16 rfl ?_
    refine gc_sblen hj1 dJ1_indexOf_4cfef_17 ?_
    refine gc_mmin dJ1_indexOf_4cfef_18 lmm_J1_38 (by decide) (Nat.le_of_ble_eq_true rfl) (Nat.le_refl _) (Nat.le_refl _) ?_
    refine gc_name (fun y_21 ey_21 => ?_)
    have h := h y_21 ey_21
    refine gc_istore_n dJ1_indexOf_4cfef_21 (by decide) ?_
    refine gc_iload_n dJ1_indexOf_4cfef_22 rfl ?_
    refine gc_iload_n dJ1_indexOf_4cfef_23 rfl ?_
    refine gc_icmp_lt 29 dJ1_indexOf_4cfef_24 (by decide) (fun hc => ?_) (fun hc => ?_)
    · have h := h.1 hc
      refine gc_aload_n dJ1_indexOf_4cfef_29 rfl ?_
      refine gc_iload_n dJ1_indexOf_4cfef_30 rfl ?_
      refine gc_iload_n dJ1_indexOf_4cfef_31 rfl ?_
      refine gc_iload_n dJ1_indexOf_4cfef_32 rfl ?_
      refine go_cSI (y := M_J1_indexOfChar_4cfef) (As := [.ref (cx_k X (12 + j1)), .int p1, .int (if p2 < 0 then 0 else p2), .int y_21]) (rest := []) dJ1_indexOf_4cfef_33 lm_J1_95 ok_J1_indexOfChar_4cfef (by decide) (w_J1_indexOfChar_4cfef X j1 hj1 p1 (if p2 < 0 then 0 else p2) y_21 m_1 _ h) rfl (Nat.le_of_ble_eq_true rfl) (fun v_33 m_33 h => ?_)
      exact go_iret dJ1_indexOf_4cfef_36 rfl (Nat.le_refl _) (Nat.le_refl _) ⟨_, rfl, h⟩
    · have h := h.2 hc
      refine gc_iconst (v := (-1)) dJ1_indexOf_4cfef_27 (by decide) ?_
      exact go_iret dJ1_indexOf_4cfef_28 rfl (Nat.le_refl _) (Nat.le_refl _) ⟨_, rfl, h⟩
  · have h := h.2 hc
    refine gc_iconst (v := (-1)) dJ1_indexOf_4cfef_7 (by decide) ?_
    exact go_iret dJ1_indexOf_4cfef_8 rfl (Nat.le_refl _) (Nat.le_refl _) ⟨_, rfl, h⟩
def W_J3_checkFromToIndex_8c36e (p0 : Int32) (p1 : Int32) (p2 : Int32) (r4 : Option Nat) (mem : Mm) (K : Int32 → Mm → Prop) : Prop := (p0 < 0 → (False)) ∧ (¬ p0 < 0 → ((p1 < p0 → (False)) ∧ (¬ p1 < p0 → ((p1 ≤ p2 → (K p0 mem)) ∧ (¬ p1 ≤ p2 → (False))))))
set_option maxRecDepth 100000 in
set_option maxHeartbeats 4000000 in
theorem w_J3_checkFromToIndex_8c36e (X : CX) (p0 : Int32) (p1 : Int32) (p2 : Int32) (r4 : Option Nat) (mem : Mm) (K : Int32 → Mm → Prop) (h : W_J3_checkFromToIndex_8c36e p0 p1 p2 r4 mem K) : CallsI X 0 M_J3_checkFromToIndex_8c36e [.int p0, .int p1, .int p2, va_rf r4] mem K := by
  unfold W_J3_checkFromToIndex_8c36e at h
  cases r4 with
  | none =>
    refine CallsC.ofP 0 (by decide) rfl (Nat.le_of_ble_eq_true rfl) ?_
    refine gc_iload_n dJ3_checkFromToIndex_8c36e_0 rfl ?_
    refine gc_if_lt 14 dJ3_checkFromToIndex_8c36e_1 (by decide) (fun hc => ?_) (fun hc => ?_)
    · have h := h.1 hc
      exact h.elim
    · have h := h.2 hc
      refine gc_iload_n dJ3_checkFromToIndex_8c36e_4 rfl ?_
      refine gc_iload_n dJ3_checkFromToIndex_8c36e_5 rfl ?_
      refine gc_icmp_gt 14 dJ3_checkFromToIndex_8c36e_6 (by decide) (fun hc => ?_) (fun hc => ?_)
      · have h := h.1 hc
        exact h.elim
      · have h := h.2 hc
        refine gc_iload_n dJ3_checkFromToIndex_8c36e_9 rfl ?_
        refine gc_iload_n dJ3_checkFromToIndex_8c36e_10 rfl ?_
        refine gc_icmp_le 22 dJ3_checkFromToIndex_8c36e_11 (by decide) (fun hc => ?_) (fun hc => ?_)
        · have h := h.1 hc
          refine gc_iload_n dJ3_checkFromToIndex_8c36e_22 rfl ?_
          exact go_iret dJ3_checkFromToIndex_8c36e_23 rfl (Nat.le_refl _) (Nat.le_refl _) ⟨_, rfl, h⟩
        · have h := h.2 hc
          exact h.elim
  | some b9 =>
    refine CallsC.ofP 0 (by decide) rfl (Nat.le_of_ble_eq_true rfl) ?_
    refine gc_iload_n dJ3_checkFromToIndex_8c36e_0 rfl ?_
    refine gc_if_lt 14 dJ3_checkFromToIndex_8c36e_1 (by decide) (fun hc => ?_) (fun hc => ?_)
    · have h := h.1 hc
      exact h.elim
    · have h := h.2 hc
      refine gc_iload_n dJ3_checkFromToIndex_8c36e_4 rfl ?_
      refine gc_iload_n dJ3_checkFromToIndex_8c36e_5 rfl ?_
      refine gc_icmp_gt 14 dJ3_checkFromToIndex_8c36e_6 (by decide) (fun hc => ?_) (fun hc => ?_)
      · have h := h.1 hc
        exact h.elim
      · have h := h.2 hc
        refine gc_iload_n dJ3_checkFromToIndex_8c36e_9 rfl ?_
        refine gc_iload_n dJ3_checkFromToIndex_8c36e_10 rfl ?_
        refine gc_icmp_le 22 dJ3_checkFromToIndex_8c36e_11 (by decide) (fun hc => ?_) (fun hc => ?_)
        · have h := h.1 hc
          refine gc_iload_n dJ3_checkFromToIndex_8c36e_22 rfl ?_
          exact go_iret dJ3_checkFromToIndex_8c36e_23 rfl (Nat.le_refl _) (Nat.le_refl _) ⟨_, rfl, h⟩
        · have h := h.2 hc
          exact h.elim
def W_J0_checkBoundsBeginEnd_23922 (p0 : Int32) (p1 : Int32) (p2 : Int32) (mem : Mm) (K : Mm → Prop) : Prop := ∀ r_3 : Option Nat, (W_J3_checkFromToIndex_8c36e p0 p1 p2 r_3 mem (fun v_6 m_6 => K m_6))
set_option maxRecDepth 100000 in
set_option maxHeartbeats 4000000 in
theorem w_J0_checkBoundsBeginEnd_23922 (X : CX) (p0 : Int32) (p1 : Int32) (p2 : Int32) (mem : Mm) (K : Mm → Prop) (h : W_J0_checkBoundsBeginEnd_23922 p0 p1 p2 mem K) : CallsU X 1 M_J0_checkBoundsBeginEnd_23922 [.int p0, .int p1, .int p2] mem K := by
  unfold W_J0_checkBoundsBeginEnd_23922 at h
  refine CallsC.ofP 0 (by decide) rfl (Nat.le_of_ble_eq_true rfl) ?_
  refine gc_iload_n dJ0_checkBoundsBeginEnd_23922_0 rfl ?_
  refine gc_iload_n dJ0_checkBoundsBeginEnd_23922_1 rfl ?_
  refine gc_iload_n dJ0_checkBoundsBeginEnd_23922_2 rfl ?_
  refine gc_getsF dJ0_checkBoundsBeginEnd_23922_3 lj_J0_1053 (fun r_3 => ?_)
  have h := h r_3
  refine go_cSI (y := M_J3_checkFromToIndex_8c36e) (As := [.int p0, .int p1, .int p2, va_rf r_3]) (rest := []) dJ0_checkBoundsBeginEnd_23922_6 lm_J0_1062 ok_J3_checkFromToIndex_8c36e (by decide) (w_J3_checkFromToIndex_8c36e X p0 p1 p2 r_3 mem _ h) rfl (Nat.le_of_ble_eq_true rfl) (fun v_6 m_6 h => ?_)
  refine gc_pop dJ0_checkBoundsBeginEnd_23922_9 rfl ?_
  exact go_vret dJ0_checkBoundsBeginEnd_23922_10 rfl (Nat.le_refl _) (Nat.le_refl _) ⟨rfl, h⟩
def W_J0_indexOf_7cf53 (j0 : Nat) (p0 : Int32) (p1 : Int32) (mem : Mm) (K : Int32 → Mm → Prop) : Prop := W_J0_isLatin1_aae02 j0 mem (fun v_1 m_1 => ((bZ v_1) = 0 → (W_J0_length_8abf5 j0 m_1 (fun v_30 m_30 => False))) ∧ (¬ (bZ v_1) = 0 → (W_J0_length_8abf5 j0 m_1 (fun v_14 m_14 => W_J1_indexOf_4cfef j0 p0 p1 v_14 m_14 (fun v_17 m_17 => K v_17 m_17)))))
set_option maxRecDepth 100000 in
set_option maxHeartbeats 4000000 in
theorem w_J0_indexOf_7cf53 (X : CX) (j0 : Nat) (hj0 : j0 < 6) (p0 : Int32) (p1 : Int32) (mem : Mm) (K : Int32 → Mm → Prop) (h : W_J0_indexOf_7cf53 j0 p0 p1 mem K) : CallsI X 2 M_J0_indexOf_7cf53 [.ref (cx_k X (6 + j0)), .int p0, .int p1] mem K := by
  unfold W_J0_indexOf_7cf53 at h
  refine CallsC.ofP 0 (by decide) rfl (Nat.le_of_ble_eq_true rfl) ?_
  refine gc_aload_n dJ0_indexOf_7cf53_0 rfl ?_
  refine go_cRZ (y := M_J0_isLatin1_aae02) (As := []) (rest := []) dJ0_indexOf_7cf53_1 lm_J0_492 ok_J0_isLatin1_aae02 (by decide) hj0 rfl (w_J0_isLatin1_aae02 X j0 hj0 mem _ h) rfl (Nat.le_of_ble_eq_true rfl) (fun v_1 m_1 h => ?_)
  refine gc_if_eq 23 dJ0_indexOf_7cf53_4 (by decide) (fun hc => ?_) (fun hc => ?_)
  · have h := h.1 hc
    refine gc_aload_n dJ0_indexOf_7cf53_23 rfl ?_
    refine gc_strv hj0 dJ0_indexOf_7cf53_24 lj_J0_9 ?_
    refine gc_iload_n dJ0_indexOf_7cf53_27 rfl ?_
    refine gc_iload_n dJ0_indexOf_7cf53_28 rfl ?_
    refine gc_aload_n dJ0_indexOf_7cf53_29 rfl ?_
    refine go_cRI (y := M_J0_length_8abf5) (As := []) (rest := [.int p1, .int p0, .ref (cx_k X (12 + j0))]) dJ0_indexOf_7cf53_30 lm_J0_505 ok_J0_length_8abf5 (by decide) hj0 rfl (w_J0_length_8abf5 X j0 hj0 m_1 _ h) rfl (Nat.le_of_ble_eq_true rfl) (fun v_30 m_30 h => ?_)
    exact h.elim
  · have h := h.2 hc
    refine gc_aload_n dJ0_indexOf_7cf53_7 rfl ?_
    refine gc_strv hj0 dJ0_indexOf_7cf53_8 lj_J0_9 ?_
    refine gc_iload_n dJ0_indexOf_7cf53_11 rfl ?_
    refine gc_iload_n dJ0_indexOf_7cf53_12 rfl ?_
    refine gc_aload_n dJ0_indexOf_7cf53_13 rfl ?_
    refine go_cRI (y := M_J0_length_8abf5) (As := []) (rest := [.int p1, .int p0, .ref (cx_k X (12 + j0))]) dJ0_indexOf_7cf53_14 lm_J0_505 ok_J0_length_8abf5 (by decide) hj0 rfl (w_J0_length_8abf5 X j0 hj0 m_1 _ h) rfl (Nat.le_of_ble_eq_true rfl) (fun v_14 m_14 h => ?_)
    refine go_cSI (y := M_J1_indexOf_4cfef) (As := [.ref (cx_k X (12 + j0)), .int p0, .int p1, .int v_14]) (rest := []) dJ0_indexOf_7cf53_17 lm_J0_637 ok_J1_indexOf_4cfef (by decide) (w_J1_indexOf_4cfef X j0 hj0 p0 p1 v_14 m_14 _ h) rfl (Nat.le_of_ble_eq_true rfl) (fun v_17 m_17 h => ?_)
    refine gc_goto 36 dJ0_indexOf_7cf53_20 (by decide) ?_
    exact go_iret dJ0_indexOf_7cf53_36 rfl (Nat.le_refl _) (Nat.le_refl _) ⟨_, rfl, h⟩
def W_J0_indexOf_0f7a4 (j0 : Nat) (p0 : Int32) (mem : Mm) (K : Int32 → Mm → Prop) : Prop := W_J0_indexOf_7cf53 j0 p0 0 mem (fun v_3 m_3 => K v_3 m_3)
set_option maxRecDepth 100000 in
set_option maxHeartbeats 4000000 in
theorem w_J0_indexOf_0f7a4 (X : CX) (j0 : Nat) (hj0 : j0 < 6) (p0 : Int32) (mem : Mm) (K : Int32 → Mm → Prop) (h : W_J0_indexOf_0f7a4 j0 p0 mem K) : CallsI X 3 M_J0_indexOf_0f7a4 [.ref (cx_k X (6 + j0)), .int p0] mem K := by
  unfold W_J0_indexOf_0f7a4 at h
  refine CallsC.ofP 0 (by decide) rfl (Nat.le_of_ble_eq_true rfl) ?_
  refine gc_aload_n dJ0_indexOf_0f7a4_0 rfl ?_
  refine gc_iload_n dJ0_indexOf_0f7a4_1 rfl ?_
  refine gc_iconst (v := 0) dJ0_indexOf_0f7a4_2 (by decide) ?_
  refine go_cRI (y := M_J0_indexOf_7cf53) (As := [.int p0, .int 0]) (rest := []) dJ0_indexOf_0f7a4_3 lm_J0_633 ok_J0_indexOf_7cf53 (by decide) hj0 rfl (w_J0_indexOf_7cf53 X j0 hj0 p0 0 mem _ h) rfl (Nat.le_of_ble_eq_true rfl) (fun v_3 m_3 h => ?_)
  exact go_iret dJ0_indexOf_0f7a4_6 rfl (Nat.le_refl _) (Nat.le_refl _) ⟨_, rfl, h⟩
def W_X7_pushes (p0 : Int32) (mem : Mm) (K : Bool → Mm → Prop) : Prop := ((mem 45 11) < 96 → (∃ i_20 : Nat, (mem 45 11) = nI i_20 ∧ i_20 < 96 ∧ (∀ m_20 : Mm, m_20 = mu mem (45 + 3) i_20 p0 → (∀ m_28 : Mm, m_28 = mu m_20 45 11 ((m_20 45 11) + 1) → (K true m_28))))) ∧ (¬ (mem 45 11) < 96 → (K false mem))
set_option maxRecDepth 100000 in
set_option maxHeartbeats 4000000 in
theorem w_X7_pushes (X : CX) (p0 : Int32) (mem : Mm) (K : Bool → Mm → Prop) (h : W_X7_pushes p0 mem K) : CallsZ X 0 M_X7_pushes [.ref (cx_n X + 45), .int p0] mem K := by
  unfold W_X7_pushes at h
  refine CallsC.ofP 0 (by decide) rfl (Nat.le_of_ble_eq_true rfl) ?_
  refine gc_aload_n dX7_pushes_0 rfl ?_
  refine go_getI dX7_pushes_1 lg_X7_51 (sz_lt (by decide)) kd_45 rfl ?_
  refine gc_bipush (v := 96) dX7_pushes_4 (by decide) ?_
  refine gc_icmp_lt 11 dX7_pushes_6 (by decide) (fun hc => ?_) (fun hc => ?_)
  · have h := h.1 hc
    refine gc_aload_n dX7_pushes_11 rfl ?_
    refine go_getR dX7_pushes_12 lg_X7_47 (sz_lt (by decide)) kd_45 rfl ?_
    refine gc_aload_n dX7_pushes_15 rfl ?_
    refine go_getI dX7_pushes_16 lg_X7_51 (sz_lt (by decide)) kd_45 rfl ?_
    refine gc_iload_n dX7_pushes_19 rfl ?_
    obtain ⟨i_20, hx_20, hi_20, h⟩ := h
    refine go_iast_ i_20 dX7_pushes_20 kd_48 hx_20 hi_20 (by decide) (fun m_20 em_20 => ?_)
    have h := h m_20 em_20
    refine gc_aload_n dX7_pushes_21 rfl ?_
    refine gc_dup dX7_pushes_22 rfl ?_
    refine go_getI dX7_pushes_23 lg_X7_51 (sz_lt (by decide)) kd_45 rfl ?_
    refine gc_iconst (v := 1) dX7_pushes_26 (by decide) ?_
    refine gc_iadd dX7_pushes_27 ?_
    refine go_putI_ dX7_pushes_28 lp_X7_51 (sz_lt (by decide)) kd_45 rfl (fun m_28 em_28 => ?_)
    have h := h m_28 em_28
    refine gc_iconst (v := 1) dX7_pushes_31 (by decide) ?_
    exact go_zret dX7_pushes_32 rfl (by decide) (Nat.le_refl _) (Nat.le_refl _) ⟨true, rfl, h⟩
  · have h := h.2 hc
    refine gc_iconst (v := 0) dX7_pushes_9 (by decide) ?_
    exact go_zret dX7_pushes_10 rfl (by decide) (Nat.le_refl _) (Nat.le_refl _) ⟨false, rfl, h⟩
def B_X7_takesPiece_144  (K : Bool → Mm → Prop)  (mem : Mm) : Prop := W_X7_byteAt (mem 45 2) mem (fun v_149 m_149 => (¬ v_149 = 33 → (K false m_149)) ∧ (v_149 = 33 → ((8 ≤ (m_149 45 9) → (K false m_149)) ∧ (¬ 8 ≤ (m_149 45 9) → (∀ m_173 : Mm, m_173 = mu m_149 45 9 ((m_149 45 9) + 1) → (W_X7_pushes 33 m_173 (fun v_179 m_179 => K v_179 m_179)))))))
set_option maxRecDepth 100000 in
set_option maxHeartbeats 4000000 in
theorem b_X7_takesPiece_144 (X : CX)   (K : Bool → Mm → Prop)  (mem : Mm)  (h : B_X7_takesPiece_144    K  mem) : GoC X 4 0 0 M_X7_takesPiece 144 [some (.ref (cx_n X + 45)), none] [] 0 0 (cellAt X mem) (sz mem) (qm X (fun r m => ∃ b : Bool, r = some (.int (bZ b)) ∧ K b m)) := by
  unfold B_X7_takesPiece_144 at h
  refine gc_aload_n dX7_takesPiece_144 rfl ?_
  refine gc_aload_n dX7_takesPiece_145 rfl ?_
  refine go_getI dX7_takesPiece_146 lg_X7_22 (sz_lt (by decide)) kd_45 rfl ?_
  refine go_cVI (y := M_X7_byteAt) (As := [.int (mem 45 2)]) (rest := []) dX7_takesPiece_149 lm_X7_98 ok_X7_byteAt (by decide) (sz_lt (by decide)) kd_45 rfl rfl (w_X7_byteAt X (mem 45 2) mem _ h) rfl (Nat.le_of_ble_eq_true rfl) (fun v_149 m_149 h => ?_)
  refine gc_bipush (v := 33) dX7_takesPiece_152 (by decide) ?_
  refine gc_icmp_ne 183 dX7_takesPiece_154 (by decide) (fun hc => ?_) (fun hc => ?_)
  · have h := h.1 hc
    refine gc_iconst (v := 0) dX7_takesPiece_183 (by decide) ?_
    exact go_zret dX7_takesPiece_184 rfl (by decide) (Nat.le_refl _) (Nat.le_refl _) ⟨false, rfl, h⟩
  · have h := h.2 hc
    refine gc_aload_n dX7_takesPiece_157 rfl ?_
    refine go_getI dX7_takesPiece_158 lg_X7_44 (sz_lt (by decide)) kd_45 rfl ?_
    refine gc_bipush (v := 8) dX7_takesPiece_161 (by decide) ?_
    refine gc_icmp_ge 183 dX7_takesPiece_163 (by decide) (fun hc => ?_) (fun hc => ?_)
    · have h := h.1 hc
      refine gc_iconst (v := 0) dX7_takesPiece_183 (by decide) ?_
      exact go_zret dX7_takesPiece_184 rfl (by decide) (Nat.le_refl _) (Nat.le_refl _) ⟨false, rfl, h⟩
    · have h := h.2 hc
      refine gc_aload_n dX7_takesPiece_166 rfl ?_
      refine gc_dup dX7_takesPiece_167 rfl ?_
      refine go_getI dX7_takesPiece_168 lg_X7_44 (sz_lt (by decide)) kd_45 rfl ?_
      refine gc_iconst (v := 1) dX7_takesPiece_171 (by decide) ?_
      refine gc_iadd dX7_takesPiece_172 ?_
      refine go_putI_ dX7_takesPiece_173 lp_X7_44 (sz_lt (by decide)) kd_45 rfl (fun m_173 em_173 => ?_)
      have h := h m_173 em_173
      refine gc_aload_n dX7_takesPiece_176 rfl ?_
      refine gc_bipush (v := 33) dX7_takesPiece_177 (by decide) ?_
      refine go_cVZ (y := M_X7_pushes) (As := [.int 33]) (rest := []) dX7_takesPiece_179 lm_X7_155 ok_X7_pushes (by decide) (sz_lt (by decide)) kd_45 rfl rfl (w_X7_pushes X 33 m_173 _ h) rfl (Nat.le_of_ble_eq_true rfl) (fun v_179 m_179 h => ?_)
      exact go_zret dX7_takesPiece_182 rfl (bZ_01 _) (Nat.le_refl _) (Nat.le_refl _) ⟨_, rfl, h⟩
def B_X7_takesPiece_82  (K : Bool → Mm → Prop) (s0 : Int32) (mem : Mm) : Prop := (s0 < 0 → (K false mem)) ∧ (¬ s0 < 0 → (W_X7_takesValue (10000 + s0) mem (fun v_93 m_93 => ((bZ v_93) = 0 → (K false m_93)) ∧ (¬ (bZ v_93) = 0 → (K true m_93)))))
set_option maxRecDepth 100000 in
set_option maxHeartbeats 4000000 in
theorem b_X7_takesPiece_82 (X : CX)   (K : Bool → Mm → Prop) (s0 : Int32) (mem : Mm)  (h : B_X7_takesPiece_82    K s0 mem) : GoC X 4 0 0 M_X7_takesPiece 82 [some (.ref (cx_n X + 45)), none] [.int s0] 0 0 (cellAt X mem) (sz mem) (qm X (fun r m => ∃ b : Bool, r = some (.int (bZ b)) ∧ K b m)) := by
  unfold B_X7_takesPiece_82 at h
  refine gc_istore_n dX7_takesPiece_82 (by decide) ?_
  refine gc_iload_n dX7_takesPiece_83 rfl ?_
  refine gc_if_lt 103 dX7_takesPiece_84 (by decide) (fun hc => ?_) (fun hc => ?_)
  · have h := h.1 hc
    refine gc_iconst (v := 0) dX7_takesPiece_103 (by decide) ?_
    exact go_zret dX7_takesPiece_104 rfl (by decide) (Nat.le_refl _) (Nat.le_refl _) ⟨false, rfl, h⟩
  · have h := h.2 hc
    refine gc_aload_n dX7_takesPiece_87 rfl ?_
    refine gc_sipush (v := 10000) dX7_takesPiece_88 (by decide) ?_
    refine gc_iload_n dX7_takesPiece_91 rfl ?_
    refine gc_iadd dX7_takesPiece_92 ?_
    refine go_cVZ (y := M_X7_takesValue) (As := [.int (10000 + s0)]) (rest := []) dX7_takesPiece_93 lm_X7_145 ok_X7_takesValue (by decide) (sz_lt (by decide)) kd_45 rfl rfl (w_X7_takesValue X (10000 + s0) mem _ h) rfl (Nat.le_of_ble_eq_true rfl) (fun v_93 m_93 h => ?_)
    refine gc_if_eq 103 dX7_takesPiece_96 (by decide) (fun hc => ?_) (fun hc => ?_)
    · have h := h.1 hc
      refine gc_iconst (v := 0) dX7_takesPiece_103 (by decide) ?_
      exact go_zret dX7_takesPiece_104 rfl (by decide) (Nat.le_refl _) (Nat.le_refl _) ⟨false, rfl, h⟩
    · have h := h.2 hc
      refine gc_iconst (v := 1) dX7_takesPiece_99 (by decide) ?_
      refine gc_goto 104 dX7_takesPiece_100 (by decide) ?_
      exact go_zret dX7_takesPiece_104 rfl (by decide) (Nat.le_refl _) (Nat.le_refl _) ⟨true, rfl, h⟩
def W_X7_takesPiece  (mem : Mm) (K : Bool → Mm → Prop) : Prop := (¬ (mem 45 1) = 2 → ((¬ (mem 45 1) = 1 → (W_X7_byteAt (mem 45 2) mem (fun v_110 m_110 => (¬ v_110 = 40 → (B_X7_takesPiece_144    K  m_110)) ∧ (v_110 = 40 → ((8 ≤ (m_110 45 8) → (B_X7_takesPiece_144    K  m_110)) ∧ (¬ 8 ≤ (m_110 45 8) → (∀ m_134 : Mm, m_134 = mu m_110 45 8 ((m_110 45 8) + 1) → (W_X7_pushes 40 m_134 (fun v_140 m_140 => K v_140 m_140))))))))) ∧ ((mem 45 1) = 1 → ((¬ ((mem 45 3) - (mem 45 2)) = 1 → (B_X7_takesPiece_82    K (-1) mem)) ∧ (((mem 45 3) - (mem 45 2)) = 1 → (W_X7_namesOf (mem 45 6) mem (fun v_63 m_63 => v_63 < 6 → (W_X7_byteAt (m_63 45 2) m_63 (fun v_71 m_71 => W_J0_indexOf_0f7a4 v_63 ((v_71.toUInt32 % 65536).toInt32) m_71 (fun v_75 m_75 => B_X7_takesPiece_82    K v_75 m_75)))))))))) ∧ ((mem 45 1) = 2 → ((4 < ((mem 45 3) - (mem 45 2)) → (K false mem)) ∧ (¬ 4 < ((mem 45 3) - (mem 45 2)) → (W_X7_numberRead  mem (fun v_23 m_23 => W_X7_takesValue v_23 m_23 (fun v_26 m_26 => ((bZ v_26) = 0 → (K false m_26)) ∧ (¬ (bZ v_26) = 0 → (K true m_26))))))))
set_option maxRecDepth 100000 in
set_option maxHeartbeats 4000000 in
theorem w_X7_takesPiece (X : CX)  (mem : Mm) (K : Bool → Mm → Prop) (h : W_X7_takesPiece  mem K) : CallsZ X 4 M_X7_takesPiece [.ref (cx_n X + 45)] mem K := by
  unfold W_X7_takesPiece at h
  refine CallsC.ofP 1 (by decide) rfl (Nat.le_of_ble_eq_true rfl) ?_
  refine gc_aload_n dX7_takesPiece_0 rfl ?_
  refine go_getI dX7_takesPiece_1 lg_X7_18 (sz_lt (by decide)) kd_45 rfl ?_
  refine gc_iconst (v := 2) dX7_takesPiece_4 (by decide) ?_
  refine gc_icmp_ne 38 dX7_takesPiece_5 (by decide) (fun hc => ?_) (fun hc => ?_)
  · have h := h.1 hc
    refine gc_aload_n dX7_takesPiece_38 rfl ?_
    refine go_getI dX7_takesPiece_39 lg_X7_18 (sz_lt (by decide)) kd_45 rfl ?_
    refine gc_iconst (v := 1) dX7_takesPiece_42 (by decide) ?_
    refine gc_icmp_ne 105 dX7_takesPiece_43 (by decide) (fun hc => ?_) (fun hc => ?_)
    · have h := h.1 hc
      refine gc_aload_n dX7_takesPiece_105 rfl ?_
      refine gc_aload_n dX7_takesPiece_106 rfl ?_
      refine go_getI dX7_takesPiece_107 lg_X7_22 (sz_lt (by decide)) kd_45 rfl ?_
      refine go_cVI (y := M_X7_byteAt) (As := [.int (mem 45 2)]) (rest := []) dX7_takesPiece_110 lm_X7_98 ok_X7_byteAt (by decide) (sz_lt (by decide)) kd_45 rfl rfl (w_X7_byteAt X (mem 45 2) mem _ h) rfl (Nat.le_of_ble_eq_true rfl) (fun v_110 m_110 h => ?_)
      refine gc_bipush (v := 40) dX7_takesPiece_113 (by decide) ?_
      refine gc_icmp_ne 144 dX7_takesPiece_115 (by decide) (fun hc => ?_) (fun hc => ?_)
      · have h := h.1 hc
        exact b_X7_takesPiece_144 X     K    m_110  h
      · have h := h.2 hc
        refine gc_aload_n dX7_takesPiece_118 rfl ?_
        refine go_getI dX7_takesPiece_119 lg_X7_41 (sz_lt (by decide)) kd_45 rfl ?_
        refine gc_bipush (v := 8) dX7_takesPiece_122 (by decide) ?_
        refine gc_icmp_ge 144 dX7_takesPiece_124 (by decide) (fun hc => ?_) (fun hc => ?_)
        · have h := h.1 hc
          exact b_X7_takesPiece_144 X     K    m_110  h
        · have h := h.2 hc
          refine gc_aload_n dX7_takesPiece_127 rfl ?_
          refine gc_dup dX7_takesPiece_128 rfl ?_
          refine go_getI dX7_takesPiece_129 lg_X7_41 (sz_lt (by decide)) kd_45 rfl ?_
          refine gc_iconst (v := 1) dX7_takesPiece_132 (by decide) ?_
          refine gc_iadd dX7_takesPiece_133 ?_
          refine go_putI_ dX7_takesPiece_134 lp_X7_41 (sz_lt (by decide)) kd_45 rfl (fun m_134 em_134 => ?_)
          have h := h m_134 em_134
          refine gc_aload_n dX7_takesPiece_137 rfl ?_
          refine gc_bipush (v := 40) dX7_takesPiece_138 (by decide) ?_
          refine go_cVZ (y := M_X7_pushes) (As := [.int 40]) (rest := []) dX7_takesPiece_140 lm_X7_155 ok_X7_pushes (by decide) (sz_lt (by decide)) kd_45 rfl rfl (w_X7_pushes X 40 m_134 _ h) rfl (Nat.le_of_ble_eq_true rfl) (fun v_140 m_140 h => ?_)
          exact go_zret dX7_takesPiece_143 rfl (bZ_01 _) (Nat.le_refl _) (Nat.le_refl _) ⟨_, rfl, h⟩
    · have h := h.2 hc
      refine gc_aload_n dX7_takesPiece_46 rfl ?_
      refine go_getI dX7_takesPiece_47 lg_X7_25 (sz_lt (by decide)) kd_45 rfl ?_
      refine gc_aload_n dX7_takesPiece_50 rfl ?_
      refine go_getI dX7_takesPiece_51 lg_X7_22 (sz_lt (by decide)) kd_45 rfl ?_
      refine gc_isub dX7_takesPiece_54 ?_
      refine gc_iconst (v := 1) dX7_takesPiece_55 (by decide) ?_
      refine gc_icmp_ne 81 dX7_takesPiece_56 (by decide) (fun hc => ?_) (fun hc => ?_)
      · have h := h.1 hc
        refine gc_iconst (v := (-1)) dX7_takesPiece_81 (by decide) ?_
        exact b_X7_takesPiece_82 X     K   (-1) mem  h
      · have h := h.2 hc
        refine gc_aload_n dX7_takesPiece_59 rfl ?_
        refine go_getI dX7_takesPiece_60 lg_X7_35 (sz_lt (by decide)) kd_45 rfl ?_
        refine go_cSS (y := M_X7_namesOf) (As := [.int (mem 45 6)]) (rest := []) dX7_takesPiece_63 lm_X7_149 ok_X7_namesOf (by decide) (w_X7_namesOf X (mem 45 6) mem _ h) rfl (Nat.le_of_ble_eq_true rfl) (fun v_63 m_63 hj_63 h => ?_)
        have h := h hj_63
        refine gc_aload_n dX7_takesPiece_66 rfl ?_
        refine gc_aload_n dX7_takesPiece_67 rfl ?_
        refine go_getI dX7_takesPiece_68 lg_X7_22 (sz_lt (by decide)) kd_45 rfl ?_
        refine go_cVI (y := M_X7_byteAt) (As := [.int (m_63 45 2)]) (rest := [.ref (cx_k X (6 + v_63))]) dX7_takesPiece_71 lm_X7_98 ok_X7_byteAt (by decide) (sz_lt (by decide)) kd_45 rfl rfl (w_X7_byteAt X (m_63 45 2) m_63 _ h) rfl (Nat.le_of_ble_eq_true rfl) (fun v_71 m_71 h => ?_)
        refine gc_i2c dX7_takesPiece_74 ?_
        refine go_cRI (y := M_J0_indexOf_0f7a4) (As := [.int ((v_71.toUInt32 % 65536).toInt32)]) (rest := []) dX7_takesPiece_75 lm_X7_152 ok_J0_indexOf_0f7a4 (by decide) hj_63 rfl (w_J0_indexOf_0f7a4 X v_63 hj_63 ((v_71.toUInt32 % 65536).toInt32) m_71 _ h) rfl (Nat.le_of_ble_eq_true rfl) (fun v_75 m_75 h => ?_)
        refine gc_goto 82 dX7_takesPiece_78 (by decide) ?_
        exact b_X7_takesPiece_82 X     K   v_75 m_75  h
  · have h := h.2 hc
    refine gc_aload_n dX7_takesPiece_8 rfl ?_
    refine go_getI dX7_takesPiece_9 lg_X7_25 (sz_lt (by decide)) kd_45 rfl ?_
    refine gc_aload_n dX7_takesPiece_12 rfl ?_
    refine go_getI dX7_takesPiece_13 lg_X7_22 (sz_lt (by decide)) kd_45 rfl ?_
    refine gc_isub dX7_takesPiece_16 ?_
    refine gc_iconst (v := 4) dX7_takesPiece_17 (by decide) ?_
    refine gc_icmp_gt 36 dX7_takesPiece_18 (by decide) (fun hc => ?_) (fun hc => ?_)
    · have h := h.1 hc
      refine gc_iconst (v := 0) dX7_takesPiece_36 (by decide) ?_
      exact go_zret dX7_takesPiece_37 rfl (by decide) (Nat.le_refl _) (Nat.le_refl _) ⟨false, rfl, h⟩
    · have h := h.2 hc
      refine gc_aload_n dX7_takesPiece_21 rfl ?_
      refine gc_aload_n dX7_takesPiece_22 rfl ?_
      refine go_cVI (y := M_X7_numberRead) (As := []) (rest := [.ref (cx_n X + 45)]) dX7_takesPiece_23 lm_X7_142 ok_X7_numberRead (by decide) (sz_lt (by decide)) kd_45 rfl rfl (w_X7_numberRead X  mem _ h) rfl (Nat.le_of_ble_eq_true rfl) (fun v_23 m_23 h => ?_)
      refine go_cVZ (y := M_X7_takesValue) (As := [.int v_23]) (rest := []) dX7_takesPiece_26 lm_X7_145 ok_X7_takesValue (by decide) (sz_lt (by decide)) kd_45 rfl rfl (w_X7_takesValue X v_23 m_23 _ h) rfl (Nat.le_of_ble_eq_true rfl) (fun v_26 m_26 h => ?_)
      refine gc_if_eq 36 dX7_takesPiece_29 (by decide) (fun hc => ?_) (fun hc => ?_)
      · have h := h.1 hc
        refine gc_iconst (v := 0) dX7_takesPiece_36 (by decide) ?_
        exact go_zret dX7_takesPiece_37 rfl (by decide) (Nat.le_refl _) (Nat.le_refl _) ⟨false, rfl, h⟩
      · have h := h.2 hc
        refine gc_iconst (v := 1) dX7_takesPiece_32 (by decide) ?_
        refine gc_goto 37 dX7_takesPiece_33 (by decide) ?_
        exact go_zret dX7_takesPiece_37 rfl (by decide) (Nat.le_refl _) (Nat.le_refl _) ⟨true, rfl, h⟩
def W_X7_tightnessOf (p0 : Int32) (mem : Mm) (K : Int32 → Mm → Prop) : Prop := (p0 = 38 → (K 2 mem)) ∧ (¬ p0 = 38 → ((p0 = 42 → (K 5 mem)) ∧ (¬ p0 = 42 → ((p0 = 43 → (K 4 mem)) ∧ (¬ p0 = 43 → ((p0 = 45 → (K 4 mem)) ∧ (¬ p0 = 45 → ((p0 = 47 → (K 5 mem)) ∧ (¬ p0 = 47 → ((p0 = 60 → (K 3 mem)) ∧ (¬ p0 = 60 → ((p0 = 61 → (K 3 mem)) ∧ (¬ p0 = 61 → ((p0 = 62 → (K 3 mem)) ∧ (¬ p0 = 62 → ((p0 = 124 → (K 1 mem)) ∧ (¬ p0 = 124 → (K 0 mem))))))))))))))))))
set_option maxRecDepth 100000 in
set_option maxHeartbeats 4000000 in
theorem w_X7_tightnessOf (X : CX) (p0 : Int32) (mem : Mm) (K : Int32 → Mm → Prop) (h : W_X7_tightnessOf p0 mem K) : CallsI X 0 M_X7_tightnessOf [.int p0] mem K := by
  unfold W_X7_tightnessOf at h
  refine CallsC.ofP 0 (by decide) rfl (Nat.le_of_ble_eq_true rfl) ?_
  refine gc_iload_n dX7_tightnessOf_0 rfl ?_
  by_cases hn0 : p0 = 38
  · have h := h.1 hn0
    refine gc_lookup (off := 85) 86 dX7_tightnessOf_1 (by decide) (by rw [hn0]; rfl) (by decide) ?_
    refine gc_iconst (v := 2) dX7_tightnessOf_86 (by decide) ?_
    exact go_iret dX7_tightnessOf_87 rfl (Nat.le_refl _) (Nat.le_refl _) ⟨_, rfl, h⟩
  · have h := h.2 hn0
    have hq0 := tab_ne hn0 (a := 38) (by decide)
    by_cases hn1 : p0 = 42
    · have h := h.1 hn1
      refine gc_lookup (off := 91) 92 dX7_tightnessOf_1 (by decide) (by rw [hn1]; rfl) (by decide) ?_
      refine gc_iconst (v := 5) dX7_tightnessOf_92 (by decide) ?_
      exact go_iret dX7_tightnessOf_93 rfl (Nat.le_refl _) (Nat.le_refl _) ⟨_, rfl, h⟩
    · have h := h.2 hn1
      have hq1 := tab_ne hn1 (a := 42) (by decide)
      by_cases hn2 : p0 = 43
      · have h := h.1 hn2
        refine gc_lookup (off := 89) 90 dX7_tightnessOf_1 (by decide) (by rw [hn2]; rfl) (by decide) ?_
        refine gc_iconst (v := 4) dX7_tightnessOf_90 (by decide) ?_
        exact go_iret dX7_tightnessOf_91 rfl (Nat.le_refl _) (Nat.le_refl _) ⟨_, rfl, h⟩
      · have h := h.2 hn2
        have hq2 := tab_ne hn2 (a := 43) (by decide)
        by_cases hn3 : p0 = 45
        · have h := h.1 hn3
          refine gc_lookup (off := 89) 90 dX7_tightnessOf_1 (by decide) (by rw [hn3]; rfl) (by decide) ?_
          refine gc_iconst (v := 4) dX7_tightnessOf_90 (by decide) ?_
          exact go_iret dX7_tightnessOf_91 rfl (Nat.le_refl _) (Nat.le_refl _) ⟨_, rfl, h⟩
        · have h := h.2 hn3
          have hq3 := tab_ne hn3 (a := 45) (by decide)
          by_cases hn4 : p0 = 47
          · have h := h.1 hn4
            refine gc_lookup (off := 91) 92 dX7_tightnessOf_1 (by decide) (by rw [hn4]; rfl) (by decide) ?_
            refine gc_iconst (v := 5) dX7_tightnessOf_92 (by decide) ?_
            exact go_iret dX7_tightnessOf_93 rfl (Nat.le_refl _) (Nat.le_refl _) ⟨_, rfl, h⟩
          · have h := h.2 hn4
            have hq4 := tab_ne hn4 (a := 47) (by decide)
            by_cases hn5 : p0 = 60
            · have h := h.1 hn5
              refine gc_lookup (off := 87) 88 dX7_tightnessOf_1 (by decide) (by rw [hn5]; rfl) (by decide) ?_
              refine gc_iconst (v := 3) dX7_tightnessOf_88 (by decide) ?_
              exact go_iret dX7_tightnessOf_89 rfl (Nat.le_refl _) (Nat.le_refl _) ⟨_, rfl, h⟩
            · have h := h.2 hn5
              have hq5 := tab_ne hn5 (a := 60) (by decide)
              by_cases hn6 : p0 = 61
              · have h := h.1 hn6
                refine gc_lookup (off := 87) 88 dX7_tightnessOf_1 (by decide) (by rw [hn6]; rfl) (by decide) ?_
                refine gc_iconst (v := 3) dX7_tightnessOf_88 (by decide) ?_
                exact go_iret dX7_tightnessOf_89 rfl (Nat.le_refl _) (Nat.le_refl _) ⟨_, rfl, h⟩
              · have h := h.2 hn6
                have hq6 := tab_ne hn6 (a := 61) (by decide)
                by_cases hn7 : p0 = 62
                · have h := h.1 hn7
                  refine gc_lookup (off := 87) 88 dX7_tightnessOf_1 (by decide) (by rw [hn7]; rfl) (by decide) ?_
                  refine gc_iconst (v := 3) dX7_tightnessOf_88 (by decide) ?_
                  exact go_iret dX7_tightnessOf_89 rfl (Nat.le_refl _) (Nat.le_refl _) ⟨_, rfl, h⟩
                · have h := h.2 hn7
                  have hq7 := tab_ne hn7 (a := 62) (by decide)
                  by_cases hn8 : p0 = 124
                  · have h := h.1 hn8
                    refine gc_lookup (off := 83) 84 dX7_tightnessOf_1 (by decide) (by rw [hn8]; rfl) (by decide) ?_
                    refine gc_iconst (v := 1) dX7_tightnessOf_84 (by decide) ?_
                    exact go_iret dX7_tightnessOf_85 rfl (Nat.le_refl _) (Nat.le_refl _) ⟨_, rfl, h⟩
                  · have h := h.2 hn8
                    have hq8 := tab_ne hn8 (a := 124) (by decide)
                    refine gc_lookup (off := 93) 94 dX7_tightnessOf_1 (by decide) (by show Op.lookupswitch.offset [(38, 85), (42, 91), (43, 89), (45, 89), (47, 91), (60, 87), (61, 87), (62, 87), (124, 83)] 93 _ = 93; rw [lv_osw (k := (38)) hn0 (by decide), lv_osw (k := (42)) hn1 (by decide), lv_osw (k := (43)) hn2 (by decide), lv_osw (k := (45)) hn3 (by decide), lv_osw (k := (47)) hn4 (by decide), lv_osw (k := (60)) hn5 (by decide), lv_osw (k := (61)) hn6 (by decide), lv_osw (k := (62)) hn7 (by decide), lv_osw (k := (124)) hn8 (by decide)]; rfl) (by decide) ?_
                    refine gc_iconst (v := 0) dX7_tightnessOf_94 (by decide) ?_
                    exact go_iret dX7_tightnessOf_95 rfl (Nat.le_refl _) (Nat.le_refl _) ⟨_, rfl, h⟩
