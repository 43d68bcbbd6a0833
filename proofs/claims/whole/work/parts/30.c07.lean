def L_X7_popSignsFrom_5 (p0 : Int32) (K : Mm → Prop) : Nat → Int32 → Int32 → Mm → Prop
  | 0, _, _, _ => False
  | n + 1, l1, l2, mem => (l2 ≤ 0 → (K mem)) ∧ (¬ l2 ≤ 0 → (∃ i_16 : Nat, (l2 - 1) = nI i_16 ∧ i_16 < 96 ∧ (W_X7_tightnessOf (mem (45 + 3) i_16) mem (fun v_17 m_17 => (v_17 < l1 → (K m_17)) ∧ (¬ v_17 < l1 → (W_X7_popSign  m_17 (fun m_25 => L_X7_popSignsFrom_5 p0  K n l1 (l2 + (-1)) m_25)))))))
set_option maxRecDepth 100000 in
set_option maxHeartbeats 4000000 in
theorem l_X7_popSignsFrom_5 (X : CX) (p0 : Int32)  (K : Mm → Prop) : ∀ (n : Nat) (l1 : Int32) (l2 : Int32) (mem : Mm), L_X7_popSignsFrom_5 p0   K n l1 l2 mem → GoC X 2 0 0 M_X7_popSignsFrom 5 [some (.ref (cx_n X + 45)), some (.int l1), some (.int l2)] [] 0 0 (cellAt X mem) (sz mem) (qm X (fun r m => r = none ∧ K m))
  := by
  intro n
  induction n with
  | zero => intro l1 l2 mem h; exact h.elim
  | succ n ih =>
    intro l1 l2 mem h
    unfold L_X7_popSignsFrom_5 at h
    refine gc_iload_n dX7_popSignsFrom_5 rfl ?_
    refine gc_if_le 34 dX7_popSignsFrom_6 (by decide) (fun hc => ?_) (fun hc => ?_)
    · have h := h.1 hc
      exact go_vret dX7_popSignsFrom_34 rfl (Nat.le_refl _) (Nat.le_refl _) ⟨rfl, h⟩
    · have h := h.2 hc
      refine gc_aload_n dX7_popSignsFrom_9 rfl ?_
      refine go_getR dX7_popSignsFrom_10 lg_X7_47 (sz_lt (by decide)) kd_45 rfl ?_
      refine gc_iload_n dX7_popSignsFrom_13 rfl ?_
      refine gc_iconst (v := 1) dX7_popSignsFrom_14 (by decide) ?_
      refine gc_isub dX7_popSignsFrom_15 ?_
      obtain ⟨i_16, hx_16, hi_16, h⟩ := h
      refine go_iald i_16 dX7_popSignsFrom_16 kd_48 hx_16 hi_16 ?_
      refine go_cSI (y := M_X7_tightnessOf) (As := [.int (mem (45 + 3) i_16)]) (rest := []) dX7_popSignsFrom_17 lm_X7_170 ok_X7_tightnessOf (by decide) (w_X7_tightnessOf X (mem (45 + 3) i_16) mem _ h) rfl (Nat.le_of_ble_eq_true rfl) (fun v_17 m_17 h => ?_)
      refine gc_iload_n dX7_popSignsFrom_20 rfl ?_
      refine gc_icmp_lt 34 dX7_popSignsFrom_21 (by decide) (fun hc => ?_) (fun hc => ?_)
      · have h := h.1 hc
        exact go_vret dX7_popSignsFrom_34 rfl (Nat.le_refl _) (Nat.le_refl _) ⟨rfl, h⟩
      · have h := h.2 hc
        refine gc_aload_n dX7_popSignsFrom_24 rfl ?_
        refine go_cVU (y := M_X7_popSign) (As := []) (rest := []) dX7_popSignsFrom_25 lm_X7_164 ok_X7_popSign (by decide) (sz_lt (by decide)) kd_45 rfl rfl (w_X7_popSign X  m_17 _ h) rfl (Nat.le_of_ble_eq_true rfl) (fun m_25 h => ?_)
        refine gc_iinc (v := l2 + (-1)) dX7_popSignsFrom_28 rfl rfl (by decide) ?_
        refine gc_goto 5 dX7_popSignsFrom_31 (by decide) ?_
        exact ih l1 (l2 + (-1)) m_25  h
def W_X7_popSignsFrom (p0 : Int32) (mem : Mm) (K : Mm → Prop) : Prop := ∃ nz : Nat, L_X7_popSignsFrom_5 p0   K nz p0 (mem 45 11) mem
set_option maxRecDepth 100000 in
set_option maxHeartbeats 4000000 in
theorem w_X7_popSignsFrom (X : CX) (p0 : Int32) (mem : Mm) (K : Mm → Prop) (h : W_X7_popSignsFrom p0 mem K) : CallsU X 2 M_X7_popSignsFrom [.ref (cx_n X + 45), .int p0] mem K := by
  unfold W_X7_popSignsFrom at h
  refine CallsC.ofP 1 (by decide) rfl (Nat.le_of_ble_eq_true rfl) ?_
  refine gc_aload_n dX7_popSignsFrom_0 rfl ?_
  refine go_getI dX7_popSignsFrom_1 lg_X7_51 (sz_lt (by decide)) kd_45 rfl ?_
  refine gc_istore_n dX7_popSignsFrom_4 (by decide) ?_
  obtain ⟨n9, h⟩ := h
  exact l_X7_popSignsFrom_5 X p0    K   n9 p0 (mem 45 11) mem  h
def W_X7_closeParen  (mem : Mm) (K : Mm → Prop) : Prop := W_X7_popSignsFrom 1 mem (fun m_2 => ((m_2 45 11) ≤ 0 → (∀ m_29 : Mm, m_29 = mu m_2 45 8 ((m_2 45 8) - 1) → (W_X7_endPiece  m_29 (fun m_33 => K m_33)))) ∧ (¬ (m_2 45 11) ≤ 0 → (∀ m_19 : Mm, m_19 = mu m_2 45 11 ((m_2 45 11) - 1) → (∀ m_29 : Mm, m_29 = mu m_19 45 8 ((m_19 45 8) - 1) → (W_X7_endPiece  m_29 (fun m_33 => K m_33))))))
set_option maxRecDepth 100000 in
set_option maxHeartbeats 4000000 in
theorem w_X7_closeParen (X : CX)  (mem : Mm) (K : Mm → Prop) (h : W_X7_closeParen  mem K) : CallsU X 3 M_X7_closeParen [.ref (cx_n X + 45)] mem K := by
  unfold W_X7_closeParen at h
  refine CallsC.ofP 0 (by decide) rfl (Nat.le_of_ble_eq_true rfl) ?_
  refine gc_aload_n dX7_closeParen_0 rfl ?_
  refine gc_iconst (v := 1) dX7_closeParen_1 (by decide) ?_
  refine go_cVU (y := M_X7_popSignsFrom) (As := [.int 1]) (rest := []) dX7_closeParen_2 lm_X7_77 ok_X7_popSignsFrom (by decide) (sz_lt (by decide)) kd_45 rfl rfl (w_X7_popSignsFrom X 1 mem _ h) rfl (Nat.le_of_ble_eq_true rfl) (fun m_2 h => ?_)
  refine gc_aload_n dX7_closeParen_5 rfl ?_
  refine go_getI dX7_closeParen_6 lg_X7_51 (sz_lt (by decide)) kd_45 rfl ?_
  refine gc_if_le 22 dX7_closeParen_9 (by decide) (fun hc => ?_) (fun hc => ?_)
  · have h := h.1 hc
    refine gc_aload_n dX7_closeParen_22 rfl ?_
    refine gc_dup dX7_closeParen_23 rfl ?_
    refine go_getI dX7_closeParen_24 lg_X7_41 (sz_lt (by decide)) kd_45 rfl ?_
    refine gc_iconst (v := 1) dX7_closeParen_27 (by decide) ?_
    refine gc_isub dX7_closeParen_28 ?_
    refine go_putI_ dX7_closeParen_29 lp_X7_41 (sz_lt (by decide)) kd_45 rfl (fun m_29 em_29 => ?_)
    have h := h m_29 em_29
    refine gc_aload_n dX7_closeParen_32 rfl ?_
    refine go_cVU (y := M_X7_endPiece) (As := []) (rest := []) dX7_closeParen_33 lm_X7_161 ok_X7_endPiece (by decide) (sz_lt (by decide)) kd_45 rfl rfl (w_X7_endPiece X  m_29 _ h) rfl (Nat.le_of_ble_eq_true rfl) (fun m_33 h => ?_)
    exact go_vret dX7_closeParen_36 rfl (Nat.le_refl _) (Nat.le_refl _) ⟨rfl, h⟩
  · have h := h.2 hc
    refine gc_aload_n dX7_closeParen_12 rfl ?_
    refine gc_dup dX7_closeParen_13 rfl ?_
    refine go_getI dX7_closeParen_14 lg_X7_51 (sz_lt (by decide)) kd_45 rfl ?_
    refine gc_iconst (v := 1) dX7_closeParen_17 (by decide) ?_
    refine gc_isub dX7_closeParen_18 ?_
    refine go_putI_ dX7_closeParen_19 lp_X7_51 (sz_lt (by decide)) kd_45 rfl (fun m_19 em_19 => ?_)
    have h := h m_19 em_19
    refine gc_aload_n dX7_closeParen_22 rfl ?_
    refine gc_dup dX7_closeParen_23 rfl ?_
    refine go_getI dX7_closeParen_24 lg_X7_41 (sz_lt (by decide)) kd_45 rfl ?_
    refine gc_iconst (v := 1) dX7_closeParen_27 (by decide) ?_
    refine gc_isub dX7_closeParen_28 ?_
    refine go_putI_ dX7_closeParen_29 lp_X7_41 (sz_lt (by decide)) kd_45 rfl (fun m_29 em_29 => ?_)
    have h := h m_29 em_29
    refine gc_aload_n dX7_closeParen_32 rfl ?_
    refine go_cVU (y := M_X7_endPiece) (As := []) (rest := []) dX7_closeParen_33 lm_X7_161 ok_X7_endPiece (by decide) (sz_lt (by decide)) kd_45 rfl rfl (w_X7_endPiece X  m_29 _ h) rfl (Nat.le_of_ble_eq_true rfl) (fun m_33 h => ?_)
    exact go_vret dX7_closeParen_36 rfl (Nat.le_refl _) (Nat.le_refl _) ⟨rfl, h⟩
def B_X7_takesJoining_62  (K : Bool → Mm → Prop) (l1 : Int32) (l2 : Int32) (s0 : Int32) (mem : Mm) : Prop := W_X7_popSignsFrom s0 mem (fun m_62 => (¬ l2 = 3 → (∀ m_99 : Mm, m_99 = mu m_62 45 5 1 → (W_X7_pushes l1 m_99 (fun v_104 m_104 => K v_104 m_104)))) ∧ (l2 = 3 → (((m_62 45 11) ≤ 0 → (∀ m_99 : Mm, m_99 = mu m_62 45 5 1 → (W_X7_pushes l1 m_99 (fun v_104 m_104 => K v_104 m_104)))) ∧ (¬ (m_62 45 11) ≤ 0 → (∃ i_87 : Nat, ((m_62 45 11) - 1) = nI i_87 ∧ i_87 < 96 ∧ (W_X7_tightnessOf (m_62 (45 + 3) i_87) m_62 (fun v_88 m_88 => (¬ v_88 = 3 → (∀ m_99 : Mm, m_99 = mu m_88 45 5 1 → (W_X7_pushes l1 m_99 (fun v_104 m_104 => K v_104 m_104)))) ∧ (v_88 = 3 → (K false m_88)))))))))
set_option maxRecDepth 100000 in
set_option maxHeartbeats 4000000 in
theorem b_X7_takesJoining_62 (X : CX)   (K : Bool → Mm → Prop) (l1 : Int32) (l2 : Int32) (s0 : Int32) (mem : Mm)  (h : B_X7_takesJoining_62    K l1 l2 s0 mem) : GoC X 4 0 0 M_X7_takesJoining 62 [some (.ref (cx_n X + 45)), some (.int l1), some (.int l2)] [.int s0, .ref (cx_n X + 45)] 0 0 (cellAt X mem) (sz mem) (qm X (fun r m => ∃ b : Bool, r = some (.int (bZ b)) ∧ K b m)) := by
  unfold B_X7_takesJoining_62 at h
  refine go_cVU (y := M_X7_popSignsFrom) (As := [.int s0]) (rest := []) dX7_takesJoining_62 lm_X7_77 ok_X7_popSignsFrom (by decide) (sz_lt (by decide)) kd_45 rfl rfl (w_X7_popSignsFrom X s0 mem _ h) rfl (Nat.le_of_ble_eq_true rfl) (fun m_62 h => ?_)
  refine gc_iload_n dX7_takesJoining_65 rfl ?_
  refine gc_iconst (v := 3) dX7_takesJoining_66 (by decide) ?_
  refine gc_icmp_ne 97 dX7_takesJoining_67 (by decide) (fun hc => ?_) (fun hc => ?_)
  · have h := h.1 hc
    refine gc_aload_n dX7_takesJoining_97 rfl ?_
    refine gc_iconst (v := 1) dX7_takesJoining_98 (by decide) ?_
    refine go_putZ_ dX7_takesJoining_99 lp_X7_32 (sz_lt (by decide)) kd_45 rfl (by decide) (fun m_99 em_99 => ?_)
    have h := h m_99 em_99
    refine gc_aload_n dX7_takesJoining_102 rfl ?_
    refine gc_iload_n dX7_takesJoining_103 rfl ?_
    refine go_cVZ (y := M_X7_pushes) (As := [.int l1]) (rest := []) dX7_takesJoining_104 lm_X7_155 ok_X7_pushes (by decide) (sz_lt (by decide)) kd_45 rfl rfl (w_X7_pushes X l1 m_99 _ h) rfl (Nat.le_of_ble_eq_true rfl) (fun v_104 m_104 h => ?_)
    exact go_zret dX7_takesJoining_107 rfl (bZ_01 _) (Nat.le_refl _) (Nat.le_refl _) ⟨_, rfl, h⟩
  · have h := h.2 hc
    refine gc_aload_n dX7_takesJoining_70 rfl ?_
    refine go_getI dX7_takesJoining_71 lg_X7_51 (sz_lt (by decide)) kd_45 rfl ?_
    refine gc_if_le 97 dX7_takesJoining_74 (by decide) (fun hc => ?_) (fun hc => ?_)
    · have h := h.1 hc
      refine gc_aload_n dX7_takesJoining_97 rfl ?_
      refine gc_iconst (v := 1) dX7_takesJoining_98 (by decide) ?_
      refine go_putZ_ dX7_takesJoining_99 lp_X7_32 (sz_lt (by decide)) kd_45 rfl (by decide) (fun m_99 em_99 => ?_)
      have h := h m_99 em_99
      refine gc_aload_n dX7_takesJoining_102 rfl ?_
      refine gc_iload_n dX7_takesJoining_103 rfl ?_
      refine go_cVZ (y := M_X7_pushes) (As := [.int l1]) (rest := []) dX7_takesJoining_104 lm_X7_155 ok_X7_pushes (by decide) (sz_lt (by decide)) kd_45 rfl rfl (w_X7_pushes X l1 m_99 _ h) rfl (Nat.le_of_ble_eq_true rfl) (fun v_104 m_104 h => ?_)
      exact go_zret dX7_takesJoining_107 rfl (bZ_01 _) (Nat.le_refl _) (Nat.le_refl _) ⟨_, rfl, h⟩
    · have h := h.2 hc
      refine gc_aload_n dX7_takesJoining_77 rfl ?_
      refine go_getR dX7_takesJoining_78 lg_X7_47 (sz_lt (by decide)) kd_45 rfl ?_
      refine gc_aload_n dX7_takesJoining_81 rfl ?_
      refine go_getI dX7_takesJoining_82 lg_X7_51 (sz_lt (by decide)) kd_45 rfl ?_
      refine gc_iconst (v := 1) dX7_takesJoining_85 (by decide) ?_
      refine gc_isub dX7_takesJoining_86 ?_
      obtain ⟨i_87, hx_87, hi_87, h⟩ := h
      refine go_iald i_87 dX7_takesJoining_87 kd_48 hx_87 hi_87 ?_
      refine go_cSI (y := M_X7_tightnessOf) (As := [.int (m_62 (45 + 3) i_87)]) (rest := []) dX7_takesJoining_88 lm_X7_170 ok_X7_tightnessOf (by decide) (w_X7_tightnessOf X (m_62 (45 + 3) i_87) m_62 _ h) rfl (Nat.le_of_ble_eq_true rfl) (fun v_88 m_88 h => ?_)
      refine gc_iconst (v := 3) dX7_takesJoining_91 (by decide) ?_
      refine gc_icmp_ne 97 dX7_takesJoining_92 (by decide) (fun hc => ?_) (fun hc => ?_)
      · have h := h.1 hc
        refine gc_aload_n dX7_takesJoining_97 rfl ?_
        refine gc_iconst (v := 1) dX7_takesJoining_98 (by decide) ?_
        refine go_putZ_ dX7_takesJoining_99 lp_X7_32 (sz_lt (by decide)) kd_45 rfl (by decide) (fun m_99 em_99 => ?_)
        have h := h m_99 em_99
        refine gc_aload_n dX7_takesJoining_102 rfl ?_
        refine gc_iload_n dX7_takesJoining_103 rfl ?_
        refine go_cVZ (y := M_X7_pushes) (As := [.int l1]) (rest := []) dX7_takesJoining_104 lm_X7_155 ok_X7_pushes (by decide) (sz_lt (by decide)) kd_45 rfl rfl (w_X7_pushes X l1 m_99 _ h) rfl (Nat.le_of_ble_eq_true rfl) (fun v_104 m_104 h => ?_)
        exact go_zret dX7_takesJoining_107 rfl (bZ_01 _) (Nat.le_refl _) (Nat.le_refl _) ⟨_, rfl, h⟩
      · have h := h.2 hc
        refine gc_iconst (v := 0) dX7_takesJoining_95 (by decide) ?_
        exact go_zret dX7_takesJoining_96 rfl (by decide) (Nat.le_refl _) (Nat.le_refl _) ⟨false, rfl, h⟩
def B_X7_takesJoining_28  (K : Bool → Mm → Prop) (l1 : Int32) (mem : Mm) : Prop := (¬ (mem 45 1) = 3 → (K false mem)) ∧ ((mem 45 1) = 3 → (W_X7_tightnessOf l1 mem (fun v_37 m_37 => (¬ v_37 = 0 → ((¬ v_37 = 3 → (B_X7_takesJoining_62    K l1 v_37 v_37 m_37)) ∧ (v_37 = 3 → (B_X7_takesJoining_62    K l1 v_37 4 m_37)))) ∧ (v_37 = 0 → (K false m_37)))))
set_option maxRecDepth 100000 in
set_option maxHeartbeats 4000000 in
theorem b_X7_takesJoining_28 (X : CX)   (K : Bool → Mm → Prop) (l1 : Int32) (mem : Mm)  (h : B_X7_takesJoining_28    K l1 mem) : GoC X 4 0 0 M_X7_takesJoining 28 [some (.ref (cx_n X + 45)), some (.int l1), none] [] 0 0 (cellAt X mem) (sz mem) (qm X (fun r m => ∃ b : Bool, r = some (.int (bZ b)) ∧ K b m)) := by
  unfold B_X7_takesJoining_28 at h
  refine gc_aload_n dX7_takesJoining_28 rfl ?_
  refine go_getI dX7_takesJoining_29 lg_X7_18 (sz_lt (by decide)) kd_45 rfl ?_
  refine gc_iconst (v := 3) dX7_takesJoining_32 (by decide) ?_
  refine gc_icmp_ne 43 dX7_takesJoining_33 (by decide) (fun hc => ?_) (fun hc => ?_)
  · have h := h.1 hc
    refine gc_iconst (v := 0) dX7_takesJoining_43 (by decide) ?_
    refine gc_istore_n dX7_takesJoining_44 (by decide) ?_
    refine gc_iload_n dX7_takesJoining_45 rfl ?_
    refine gc_if_ne 51 dX7_takesJoining_46 (by decide) (fun hc => absurd hc (by decide)) (fun hc => ?_)
    refine gc_iconst (v := 0) dX7_takesJoining_49 (by decide) ?_
    exact go_zret dX7_takesJoining_50 rfl (by decide) (Nat.le_refl _) (Nat.le_refl _) ⟨false, rfl, h⟩
  · have h := h.2 hc
    refine gc_iload_n dX7_takesJoining_36 rfl ?_
    refine go_cSI (y := M_X7_tightnessOf) (As := [.int l1]) (rest := []) dX7_takesJoining_37 lm_X7_170 ok_X7_tightnessOf (by decide) (w_X7_tightnessOf X l1 mem _ h) rfl (Nat.le_of_ble_eq_true rfl) (fun v_37 m_37 h => ?_)
    refine gc_goto 44 dX7_takesJoining_40 (by decide) ?_
    refine gc_istore_n dX7_takesJoining_44 (by decide) ?_
    refine gc_iload_n dX7_takesJoining_45 rfl ?_
    refine gc_if_ne 51 dX7_takesJoining_46 (by decide) (fun hc => ?_) (fun hc => ?_)
    · have h := h.1 hc
      refine gc_aload_n dX7_takesJoining_51 rfl ?_
      refine gc_iload_n dX7_takesJoining_52 rfl ?_
      refine gc_iconst (v := 3) dX7_takesJoining_53 (by decide) ?_
      refine gc_icmp_ne 61 dX7_takesJoining_54 (by decide) (fun hc => ?_) (fun hc => ?_)
      · have h := h.1 hc
        refine gc_iload_n dX7_takesJoining_61 rfl ?_
        exact b_X7_takesJoining_62 X     K   l1 v_37 v_37 m_37  h
      · have h := h.2 hc
        refine gc_iconst (v := 4) dX7_takesJoining_57 (by decide) ?_
        refine gc_goto 62 dX7_takesJoining_58 (by decide) ?_
        exact b_X7_takesJoining_62 X     K   l1 v_37 4 m_37  h
    · have h := h.2 hc
      refine gc_iconst (v := 0) dX7_takesJoining_49 (by decide) ?_
      exact go_zret dX7_takesJoining_50 rfl (by decide) (Nat.le_refl _) (Nat.le_refl _) ⟨false, rfl, h⟩
def W_X7_takesJoining  (mem : Mm) (K : Bool → Mm → Prop) : Prop := W_X7_byteAt (mem 45 2) mem (fun v_5 m_5 => (¬ v_5 = 41 → (B_X7_takesJoining_28    K v_5 m_5)) ∧ (v_5 = 41 → (((m_5 45 8) ≤ 0 → (B_X7_takesJoining_28    K v_5 m_5)) ∧ (¬ (m_5 45 8) ≤ 0 → (W_X7_closeParen  m_5 (fun m_23 => K true m_23))))))
set_option maxRecDepth 100000 in
set_option maxHeartbeats 4000000 in
theorem w_X7_takesJoining (X : CX)  (mem : Mm) (K : Bool → Mm → Prop) (h : W_X7_takesJoining  mem K) : CallsZ X 4 M_X7_takesJoining [.ref (cx_n X + 45)] mem K := by
  unfold W_X7_takesJoining at h
  refine CallsC.ofP 2 (by decide) rfl (Nat.le_of_ble_eq_true rfl) ?_
  refine gc_aload_n dX7_takesJoining_0 rfl ?_
  refine gc_aload_n dX7_takesJoining_1 rfl ?_
  refine go_getI dX7_takesJoining_2 lg_X7_22 (sz_lt (by decide)) kd_45 rfl ?_
  refine go_cVI (y := M_X7_byteAt) (As := [.int (mem 45 2)]) (rest := []) dX7_takesJoining_5 lm_X7_98 ok_X7_byteAt (by decide) (sz_lt (by decide)) kd_45 rfl rfl (w_X7_byteAt X (mem 45 2) mem _ h) rfl (Nat.le_of_ble_eq_true rfl) (fun v_5 m_5 h => ?_)
  refine gc_istore_n dX7_takesJoining_8 (by decide) ?_
  refine gc_iload_n dX7_takesJoining_9 rfl ?_
  refine gc_bipush (v := 41) dX7_takesJoining_10 (by decide) ?_
  refine gc_icmp_ne 28 dX7_takesJoining_12 (by decide) (fun hc => ?_) (fun hc => ?_)
  · have h := h.1 hc
    exact b_X7_takesJoining_28 X     K   v_5 m_5  h
  · have h := h.2 hc
    refine gc_aload_n dX7_takesJoining_15 rfl ?_
    refine go_getI dX7_takesJoining_16 lg_X7_41 (sz_lt (by decide)) kd_45 rfl ?_
    refine gc_if_le 28 dX7_takesJoining_19 (by decide) (fun hc => ?_) (fun hc => ?_)
    · have h := h.1 hc
      exact b_X7_takesJoining_28 X     K   v_5 m_5  h
    · have h := h.2 hc
      refine gc_aload_n dX7_takesJoining_22 rfl ?_
      refine go_cVU (y := M_X7_closeParen) (As := []) (rest := []) dX7_takesJoining_23 lm_X7_167 ok_X7_closeParen (by decide) (sz_lt (by decide)) kd_45 rfl rfl (w_X7_closeParen X  m_5 _ h) rfl (Nat.le_of_ble_eq_true rfl) (fun m_23 h => ?_)
      refine gc_iconst (v := 1) dX7_takesJoining_26 (by decide) ?_
      exact go_zret dX7_takesJoining_27 rfl (by decide) (Nat.le_refl _) (Nat.le_refl _) ⟨true, rfl, h⟩
def L_X7_faultFound_31  (K : Int32 → Mm → Prop) : Nat → Int32 → Mm → Prop
  | 0, _, _ => False
  | n + 1, l1, mem => (96 < l1 → (K (mem 45 2) mem)) ∧ (¬ 96 < l1 → (W_X7_nextWord  mem (fun m_38 => (¬ (m_38 45 1) = 0 → ((¬ (m_38 45 4) = 0 → (K (m_38 45 2) m_38)) ∧ ((m_38 45 4) = 0 → (((m_38 45 5) = 0 → (W_X7_takesJoining  m_38 (fun v_96 m_96 => (¬ (bZ v_96) = 0 → (L_X7_faultFound_31   K n (l1 + 1) m_96)) ∧ ((bZ v_96) = 0 → (K (m_96 45 2) m_96))))) ∧ (¬ (m_38 45 5) = 0 → (W_X7_takesPiece  m_38 (fun v_86 m_86 => ((bZ v_86) = 0 → (K (m_86 45 2) m_86)) ∧ (¬ (bZ v_86) = 0 → (L_X7_faultFound_31   K n (l1 + 1) m_86))))))))) ∧ ((m_38 45 1) = 0 → ((¬ (m_38 45 5) = 0 → (K (m_38 45 2) m_38)) ∧ ((m_38 45 5) = 0 → (((m_38 45 8) ≤ 0 → (K (-1) m_38)) ∧ (¬ (m_38 45 8) ≤ 0 → (K (m_38 45 2) m_38)))))))))
set_option maxRecDepth 100000 in
set_option maxHeartbeats 4000000 in
theorem l_X7_faultFound_31 (X : CX)   (K : Int32 → Mm → Prop) : ∀ (n : Nat) (l1 : Int32) (mem : Mm), L_X7_faultFound_31    K n l1 mem → GoC X 6 0 0 M_X7_faultFound 31 [some (.ref (cx_n X + 45)), some (.int l1)] [] 0 0 (cellAt X mem) (sz mem) (qm X (fun r m => ∃ v : Int32, r = some (.int v) ∧ K v m))
  := by
  intro n
  induction n with
  | zero => intro l1 mem h; exact h.elim
  | succ n ih =>
    intro l1 mem h
    unfold L_X7_faultFound_31 at h
    refine gc_iload_n dX7_faultFound_31 rfl ?_
    refine gc_bipush (v := 96) dX7_faultFound_32 (by decide) ?_
    refine gc_icmp_gt 113 dX7_faultFound_34 (by decide) (fun hc => ?_) (fun hc => ?_)
    · have h := h.1 hc
      refine gc_aload_n dX7_faultFound_113 rfl ?_
      refine go_getI dX7_faultFound_114 lg_X7_22 (sz_lt (by decide)) kd_45 rfl ?_
      exact go_iret dX7_faultFound_117 rfl (Nat.le_refl _) (Nat.le_refl _) ⟨_, rfl, h⟩
    · have h := h.2 hc
      refine gc_aload_n dX7_faultFound_37 rfl ?_
      refine go_cVU (y := M_X7_nextWord) (As := []) (rest := []) dX7_faultFound_38 lm_X7_63 ok_X7_nextWord (by decide) (sz_lt (by decide)) kd_45 rfl rfl (w_X7_nextWord X  mem _ h) rfl (Nat.le_of_ble_eq_true rfl) (fun m_38 h => ?_)
      refine gc_aload_n dX7_faultFound_41 rfl ?_
      refine go_getI dX7_faultFound_42 lg_X7_18 (sz_lt (by decide)) kd_45 rfl ?_
      refine gc_if_ne 71 dX7_faultFound_45 (by decide) (fun hc => ?_) (fun hc => ?_)
      · have h := h.1 hc
        refine gc_aload_n dX7_faultFound_71 rfl ?_
        refine go_getI dX7_faultFound_72 lg_X7_28 (sz_lt (by decide)) kd_45 rfl ?_
        refine gc_if_ne 102 dX7_faultFound_75 (by decide) (fun hc => ?_) (fun hc => ?_)
        · have h := h.1 hc
          refine gc_aload_n dX7_faultFound_102 rfl ?_
          refine go_getI dX7_faultFound_103 lg_X7_22 (sz_lt (by decide)) kd_45 rfl ?_
          exact go_iret dX7_faultFound_106 rfl (Nat.le_refl _) (Nat.le_refl _) ⟨_, rfl, h⟩
        · have h := h.2 hc
          refine gc_aload_n dX7_faultFound_78 rfl ?_
          refine go_getI dX7_faultFound_79 lg_X7_32 (sz_lt (by decide)) kd_45 rfl ?_
          refine gc_if_eq 95 dX7_faultFound_82 (by decide) (fun hc => ?_) (fun hc => ?_)
          · have h := h.1 hc
            refine gc_aload_n dX7_faultFound_95 rfl ?_
            refine go_cVZ (y := M_X7_takesJoining) (As := []) (rest := []) dX7_faultFound_96 lm_X7_74 ok_X7_takesJoining (by decide) (sz_lt (by decide)) kd_45 rfl rfl (w_X7_takesJoining X  m_38 _ h) rfl (Nat.le_of_ble_eq_true rfl) (fun v_96 m_96 h => ?_)
            refine gc_if_ne 107 dX7_faultFound_99 (by decide) (fun hc => ?_) (fun hc => ?_)
            · have h := h.1 hc
              refine gc_iinc (v := l1 + 1) dX7_faultFound_107 rfl rfl (by decide) ?_
              refine gc_goto 31 dX7_faultFound_110 (by decide) ?_
              exact ih (l1 + 1) m_96  h
            · have h := h.2 hc
              refine gc_aload_n dX7_faultFound_102 rfl ?_
              refine go_getI dX7_faultFound_103 lg_X7_22 (sz_lt (by decide)) kd_45 rfl ?_
              exact go_iret dX7_faultFound_106 rfl (Nat.le_refl _) (Nat.le_refl _) ⟨_, rfl, h⟩
          · have h := h.2 hc
            refine gc_aload_n dX7_faultFound_85 rfl ?_
            refine go_cVZ (y := M_X7_takesPiece) (As := []) (rest := []) dX7_faultFound_86 lm_X7_70 ok_X7_takesPiece (by decide) (sz_lt (by decide)) kd_45 rfl rfl (w_X7_takesPiece X  m_38 _ h) rfl (Nat.le_of_ble_eq_true rfl) (fun v_86 m_86 h => ?_)
            refine gc_if_eq 102 dX7_faultFound_89 (by decide) (fun hc => ?_) (fun hc => ?_)
            · have h := h.1 hc
              refine gc_aload_n dX7_faultFound_102 rfl ?_
              refine go_getI dX7_faultFound_103 lg_X7_22 (sz_lt (by decide)) kd_45 rfl ?_
              exact go_iret dX7_faultFound_106 rfl (Nat.le_refl _) (Nat.le_refl _) ⟨_, rfl, h⟩
            · have h := h.2 hc
              refine gc_goto 107 dX7_faultFound_92 (by decide) ?_
              refine gc_iinc (v := l1 + 1) dX7_faultFound_107 rfl rfl (by decide) ?_
              refine gc_goto 31 dX7_faultFound_110 (by decide) ?_
              exact ih (l1 + 1) m_86  h
      · have h := h.2 hc
        refine gc_aload_n dX7_faultFound_48 rfl ?_
        refine go_getI dX7_faultFound_49 lg_X7_32 (sz_lt (by decide)) kd_45 rfl ?_
        refine gc_if_ne 62 dX7_faultFound_52 (by decide) (fun hc => ?_) (fun hc => ?_)
        · have h := h.1 hc
          refine gc_aload_n dX7_faultFound_62 rfl ?_
          refine go_getI dX7_faultFound_63 lg_X7_22 (sz_lt (by decide)) kd_45 rfl ?_
          refine gc_goto 70 dX7_faultFound_66 (by decide) ?_
          exact go_iret dX7_faultFound_70 rfl (Nat.le_refl _) (Nat.le_refl _) ⟨_, rfl, h⟩
        · have h := h.2 hc
          refine gc_aload_n dX7_faultFound_55 rfl ?_
          refine go_getI dX7_faultFound_56 lg_X7_41 (sz_lt (by decide)) kd_45 rfl ?_
          refine gc_if_le 69 dX7_faultFound_59 (by decide) (fun hc => ?_) (fun hc => ?_)
          · have h := h.1 hc
            refine gc_iconst (v := (-1)) dX7_faultFound_69 (by decide) ?_
            exact go_iret dX7_faultFound_70 rfl (Nat.le_refl _) (Nat.le_refl _) ⟨_, rfl, h⟩
          · have h := h.2 hc
            refine gc_aload_n dX7_faultFound_62 rfl ?_
            refine go_getI dX7_faultFound_63 lg_X7_22 (sz_lt (by decide)) kd_45 rfl ?_
            refine gc_goto 70 dX7_faultFound_66 (by decide) ?_
            exact go_iret dX7_faultFound_70 rfl (Nat.le_refl _) (Nat.le_refl _) ⟨_, rfl, h⟩
def W_X7_faultFound  (mem : Mm) (K : Int32 → Mm → Prop) : Prop := W_X7_startAgain  mem (fun m_1 => W_X7_nextWord  m_1 (fun m_5 => W_X7_keyRead  m_5 (fun v_10 m_10 => ∀ m_13 : Mm, m_13 = mu m_10 45 6 v_10 → (((m_13 45 6) < 3 → (∃ nz : Nat, L_X7_faultFound_31    K nz 0 m_13)) ∧ (¬ (m_13 45 6) < 3 → (K (m_13 45 2) m_13))))))
set_option maxRecDepth 100000 in
set_option maxHeartbeats 4000000 in
theorem w_X7_faultFound (X : CX)  (mem : Mm) (K : Int32 → Mm → Prop) (h : W_X7_faultFound  mem K) : CallsI X 6 M_X7_faultFound [.ref (cx_n X + 45)] mem K := by
  unfold W_X7_faultFound at h
  refine CallsC.ofP 1 (by decide) rfl (Nat.le_of_ble_eq_true rfl) ?_
  refine gc_aload_n dX7_faultFound_0 rfl ?_
  refine go_cVU (y := M_X7_startAgain) (As := []) (rest := []) dX7_faultFound_1 lm_X7_60 ok_X7_startAgain (by decide) (sz_lt (by decide)) kd_45 rfl rfl (w_X7_startAgain X  mem _ h) rfl (Nat.le_of_ble_eq_true rfl) (fun m_1 h => ?_)
  refine gc_aload_n dX7_faultFound_4 rfl ?_
  refine go_cVU (y := M_X7_nextWord) (As := []) (rest := []) dX7_faultFound_5 lm_X7_63 ok_X7_nextWord (by decide) (sz_lt (by decide)) kd_45 rfl rfl (w_X7_nextWord X  m_1 _ h) rfl (Nat.le_of_ble_eq_true rfl) (fun m_5 h => ?_)
  refine gc_aload_n dX7_faultFound_8 rfl ?_
  refine gc_aload_n dX7_faultFound_9 rfl ?_
  refine go_cVI (y := M_X7_keyRead) (As := []) (rest := [.ref (cx_n X + 45)]) dX7_faultFound_10 lm_X7_66 ok_X7_keyRead (by decide) (sz_lt (by decide)) kd_45 rfl rfl (w_X7_keyRead X  m_5 _ h) rfl (Nat.le_of_ble_eq_true rfl) (fun v_10 m_10 h => ?_)
  refine go_putI_ dX7_faultFound_13 lp_X7_35 (sz_lt (by decide)) kd_45 rfl (fun m_13 em_13 => ?_)
  have h := h m_13 em_13
  refine gc_aload_n dX7_faultFound_16 rfl ?_
  refine go_getI dX7_faultFound_17 lg_X7_35 (sz_lt (by decide)) kd_45 rfl ?_
  refine gc_iconst (v := 3) dX7_faultFound_20 (by decide) ?_
  refine gc_icmp_lt 29 dX7_faultFound_21 (by decide) (fun hc => ?_) (fun hc => ?_)
  · have h := h.1 hc
    refine gc_iconst (v := 0) dX7_faultFound_29 (by decide) ?_
    refine gc_istore_n dX7_faultFound_30 (by decide) ?_
    obtain ⟨n9, h⟩ := h
    exact l_X7_faultFound_31 X     K   n9 0 m_13  h
  · have h := h.2 hc
    refine gc_aload_n dX7_faultFound_24 rfl ?_
    refine go_getI dX7_faultFound_25 lg_X7_22 (sz_lt (by decide)) kd_45 rfl ?_
    exact go_iret dX7_faultFound_28 rfl (Nat.le_refl _) (Nat.le_refl _) ⟨_, rfl, h⟩
def W_X0_takeText (a0 : Nat) (j1 : Nat) (mem : Mm) (K : Int32 → Mm → Prop) : Prop := (14 ≤ (mem a0 8) → (K (-1000000003) mem)) ∧ (¬ 14 ≤ (mem a0 8) → (j1 < nTx mem ∧ (W_X8_isWithin (mem (106 + 3 * j1) 0) 0 2 mem (fun v_15 m_15 => (¬ (bZ v_15) = 0 → (j1 < nTx m_15 ∧ ∃ i_33 : Nat, (m_15 a0 8) = nI i_33 ∧ i_33 < 14 ∧ (∀ m_33 : Mm, m_33 = mu m_15 (a0 + 2) i_33 (nI j1) → (j1 < nTx m_33 ∧ (∃ i_46 : Nat, (m_33 (106 + 3 * j1) 0) = nI i_46 ∧ i_46 < 3 ∧ (∀ m_46 : Mm, m_46 = mu m_33 (a0 + 3) i_46 (m_33 a0 8) → (∀ m_54 : Mm, m_54 = mu m_46 a0 8 ((m_46 a0 8) + 1) → (K ((m_54 a0 8) - 1) m_54)))))))) ∧ ((bZ v_15) = 0 → (K (-1000000003) m_15))))))
set_option maxRecDepth 100000 in
set_option maxHeartbeats 4000000 in
theorem w_X0_takeText (X : CX) (a0 : Nat) (ha0 : isAl a0) (j1 : Nat) (mem : Mm) (K : Int32 → Mm → Prop) (h : W_X0_takeText a0 j1 mem K) : CallsI X 1 M_X0_takeText [.ref (cx_n X + a0), .ref (cx_n X + (106 + 3 * j1))] mem K := by
  unfold W_X0_takeText at h
  refine CallsC.ofP 0 (by decide) rfl (Nat.le_of_ble_eq_true rfl) ?_
  refine gc_aload_n dX0_takeText_0 rfl ?_
  refine go_getI dX0_takeText_1 lg_X0_42 (sz_lt (al_lt ha0)) (al_kd ha0) rfl ?_
  refine gc_bipush (v := 14) dX0_takeText_4 (by decide) ?_
  refine gc_icmp_ge 21 dX0_takeText_6 (by decide) (fun hc => ?_) (fun hc => ?_)
  · have h := h.1 hc
    refine gc_ldc (v := (-1000000003)) dX0_takeText_21 lk_X0_99 ?_
    exact go_iret dX0_takeText_23 rfl (Nat.le_refl _) (Nat.le_refl _) ⟨_, rfl, h⟩
  · have h := h.2 hc
    refine gc_aload_n dX0_takeText_9 rfl ?_
    obtain ⟨hj, h⟩ := h
    refine go_getI dX0_takeText_10 lg_X0_109 (by have := tx_lt hj; omega) (kd_tx _) rfl ?_
    refine gc_iconst (v := 0) dX0_takeText_13 (by decide) ?_
    refine gc_iconst (v := 2) dX0_takeText_14 (by decide) ?_
    refine go_cSZ (y := M_X8_isWithin) (As := [.int (mem (106 + 3 * j1) 0), .int 0, .int 2]) (rest := []) dX0_takeText_15 lm_X0_112 ok_X8_isWithin (by decide) (w_X8_isWithin X (mem (106 + 3 * j1) 0) 0 2 mem _ h) rfl (Nat.le_of_ble_eq_true rfl) (fun v_15 m_15 h => ?_)
    refine gc_if_ne 24 dX0_takeText_18 (by decide) (fun hc => ?_) (fun hc => ?_)
    · have h := h.1 hc
      refine gc_aload_n dX0_takeText_24 rfl ?_
      refine go_getR dX0_takeText_25 lg_X0_38 (sz_lt (al_lt ha0)) (al_kd ha0) rfl ?_
      refine gc_aload_n dX0_takeText_28 rfl ?_
      refine go_getI dX0_takeText_29 lg_X0_42 (sz_lt (al_lt ha0)) (al_kd ha0) rfl ?_
      refine gc_aload_n dX0_takeText_32 rfl ?_
      obtain ⟨hj, i_33, hx_33, hi_33, h⟩ := h
      refine go_texJ i_33 ha0 dX0_takeText_33 hx_33 hi_33 hj (fun m_33 em_33 => ?_)
      have h := h m_33 em_33
      refine gc_aload_n dX0_takeText_34 rfl ?_
      refine go_getR dX0_takeText_35 lg_X0_45 (sz_lt (al_lt ha0)) (al_kd ha0) rfl ?_
      refine gc_aload_n dX0_takeText_38 rfl ?_
      obtain ⟨hj, h⟩ := h
      refine go_getI dX0_takeText_39 lg_X0_109 (by have := tx_lt hj; omega) (kd_tx _) rfl ?_
      refine gc_aload_n dX0_takeText_42 rfl ?_
      refine go_getI dX0_takeText_43 lg_X0_42 (sz_lt (al_lt ha0)) (al_kd ha0) rfl ?_
      obtain ⟨i_46, hx_46, hi_46, h⟩ := h
      refine go_iast_ i_46 dX0_takeText_46 (al_ct ha0) hx_46 hi_46 (by omega) (fun m_46 em_46 => ?_)
      have h := h m_46 em_46
      refine gc_aload_n dX0_takeText_47 rfl ?_
      refine gc_dup dX0_takeText_48 rfl ?_
      refine go_getI dX0_takeText_49 lg_X0_42 (sz_lt (al_lt ha0)) (al_kd ha0) rfl ?_
      refine gc_iconst (v := 1) dX0_takeText_52 (by decide) ?_
      refine gc_iadd dX0_takeText_53 ?_
      refine go_putI_ dX0_takeText_54 lp_X0_42 (sz_lt (al_lt ha0)) (al_kd ha0) rfl (fun m_54 em_54 => ?_)
      have h := h m_54 em_54
      refine gc_aload_n dX0_takeText_57 rfl ?_
      refine go_getI dX0_takeText_58 lg_X0_42 (sz_lt (al_lt ha0)) (al_kd ha0) rfl ?_
      refine gc_iconst (v := 1) dX0_takeText_61 (by decide) ?_
      refine gc_isub dX0_takeText_62 ?_
      exact go_iret dX0_takeText_63 rfl (Nat.le_refl _) (Nat.le_refl _) ⟨_, rfl, h⟩
    · have h := h.2 hc
      refine gc_ldc (v := (-1000000003)) dX0_takeText_21 lk_X0_99 ?_
      exact go_iret dX0_takeText_23 rfl (Nat.le_refl _) (Nat.le_refl _) ⟨_, rfl, h⟩
def W_X8_textTold (p0 : Int32) (p1 : Int32) (mem : Mm) (K : Int32 → Mm → Prop) : Prop := W_X8_isWithin p0 0 ((mem 1 8) - 1) mem (fun v_11 m_11 => ((bZ v_11) = 0 → (K (-1000000001) m_11)) ∧ (¬ (bZ v_11) = 0 → (W_X8_isWithin p1 0 1 m_11 (fun v_20 m_20 => (¬ (bZ v_20) = 0 → (∃ i_37 : Nat, p0 = nI i_37 ∧ i_37 < 14 ∧ ((m_20 (1 + 2) i_37 < 0 → (K (-1000000001) m_20)) ∧ (¬ m_20 (1 + 2) i_37 < 0 → ((¬ p1 = 0 → (((m_20 (1 + 2) i_37).toNatClampNeg) < nTx m_20 ∧ (K (m_20 (106 + 3 * ((m_20 (1 + 2) i_37).toNatClampNeg)) 1) m_20))) ∧ (p1 = 0 → (((m_20 (1 + 2) i_37).toNatClampNeg) < nTx m_20 ∧ (K (m_20 (106 + 3 * ((m_20 (1 + 2) i_37).toNatClampNeg)) 0) m_20)))))))) ∧ ((bZ v_20) = 0 → (K (-1000000001) m_20))))))
set_option maxRecDepth 100000 in
set_option maxHeartbeats 4000000 in
theorem w_X8_textTold (X : CX) (p0 : Int32) (p1 : Int32) (mem : Mm) (K : Int32 → Mm → Prop) (h : W_X8_textTold p0 p1 mem K) : CallsI X 1 M_X8_textTold [.ref (cx_n X + 0), .int p0, .int p1] mem K := by
  unfold W_X8_textTold at h
  refine CallsC.ofP 1 (by decide) rfl (Nat.le_of_ble_eq_true rfl) ?_
  refine gc_iload_n dX8_textTold_0 rfl ?_
  refine gc_iconst (v := 0) dX8_textTold_1 (by decide) ?_
  refine gc_aload_n dX8_textTold_2 rfl ?_
  refine go_getR dX8_textTold_3 lg_X8_10 (sz_lt (by decide)) kd_0 rfl ?_
  refine go_getI dX8_textTold_6 lg_X8_262 (sz_lt (al_lt al_1)) (al_kd al_1) rfl ?_
  refine gc_iconst (v := 1) dX8_textTold_9 (by decide) ?_
  refine gc_isub dX8_textTold_10 ?_
  refine go_cSZ (y := M_X8_isWithin) (As := [.int p0, .int 0, .int ((mem 1 8) - 1)]) (rest := []) dX8_textTold_11 lm_X8_70 ok_X8_isWithin (by decide) (w_X8_isWithin X p0 0 ((mem 1 8) - 1) mem _ h) rfl (Nat.le_of_ble_eq_true rfl) (fun v_11 m_11 h => ?_)
  refine gc_if_eq 26 dX8_textTold_14 (by decide) (fun hc => ?_) (fun hc => ?_)
  · have h := h.1 hc
    refine gc_ldc (v := (-1000000001)) dX8_textTold_26 lk_X8_74 ?_
    exact go_iret dX8_textTold_28 rfl (Nat.le_refl _) (Nat.le_refl _) ⟨_, rfl, h⟩
  · have h := h.2 hc
    refine gc_iload_n dX8_textTold_17 rfl ?_
    refine gc_iconst (v := 0) dX8_textTold_18 (by decide) ?_
    refine gc_iconst (v := 1) dX8_textTold_19 (by decide) ?_
    refine go_cSZ (y := M_X8_isWithin) (As := [.int p1, .int 0, .int 1]) (rest := []) dX8_textTold_20 lm_X8_70 ok_X8_isWithin (by decide) (w_X8_isWithin X p1 0 1 m_11 _ h) rfl (Nat.le_of_ble_eq_true rfl) (fun v_20 m_20 h => ?_)
    refine gc_if_ne 29 dX8_textTold_23 (by decide) (fun hc => ?_) (fun hc => ?_)
    · have h := h.1 hc
      refine gc_aload_n dX8_textTold_29 rfl ?_
      refine go_getR dX8_textTold_30 lg_X8_10 (sz_lt (by decide)) kd_0 rfl ?_
      refine go_getR dX8_textTold_33 lg_X8_273 (sz_lt (al_lt al_1)) (al_kd al_1) rfl ?_
      refine gc_iload_n dX8_textTold_36 rfl ?_
      obtain ⟨i_37, hx_37, hi_37, h⟩ := h
      refine go_texts i_37 al_1 dX8_textTold_37 hx_37 hi_37 (fun hv => ?_) (fun hv => ?_)
      · have h := h.1 hv
        refine gc_astoreN_n dX8_textTold_38 (by decide) ?_
        refine gc_aloadN_n dX8_textTold_39 rfl ?_
        refine gc_ifnonnullN dX8_textTold_40 ?_
        refine gc_ldc (v := (-1000000001)) dX8_textTold_43 lk_X8_74 ?_
        exact go_iret dX8_textTold_45 rfl (Nat.le_refl _) (Nat.le_refl _) ⟨_, rfl, h⟩
      · have h := h.2 hv
        refine gc_astore_n dX8_textTold_38 (by decide) ?_
        refine gc_aload_n dX8_textTold_39 rfl ?_
        refine gc_ifnonnull 46 dX8_textTold_40 (by decide) ?_
        refine gc_iload_n dX8_textTold_46 rfl ?_
        refine gc_if_ne 57 dX8_textTold_47 (by decide) (fun hc => ?_) (fun hc => ?_)
        · have h := h.1 hc
          refine gc_aload_n dX8_textTold_57 rfl ?_
          obtain ⟨hj, h⟩ := h
          refine go_getI dX8_textTold_58 lg_X8_280 (by have := tx_lt hj; omega) (kd_tx _) rfl ?_
          exact go_iret dX8_textTold_61 rfl (Nat.le_refl _) (Nat.le_refl _) ⟨_, rfl, h⟩
        · have h := h.2 hc
          refine gc_aload_n dX8_textTold_50 rfl ?_
          obtain ⟨hj, h⟩ := h
          refine go_getI dX8_textTold_51 lg_X8_277 (by have := tx_lt hj; omega) (kd_tx _) rfl ?_
          refine gc_goto 61 dX8_textTold_54 (by decide) ?_
          exact go_iret dX8_textTold_61 rfl (Nat.le_refl _) (Nat.le_refl _) ⟨_, rfl, h⟩
    · have h := h.2 hc
      refine gc_ldc (v := (-1000000001)) dX8_textTold_26 lk_X8_74 ?_
      exact go_iret dX8_textTold_28 rfl (Nat.le_refl _) (Nat.le_refl _) ⟨_, rfl, h⟩
def W_X8_why (p0 : Int32) (mem : Mm) (K : Int32 → Mm → Prop) : Prop := W_X8_isWithin p0 0 2 mem (fun v_3 m_3 => ((bZ v_3) = 0 → (K (-1000000001) m_3)) ∧ (¬ (bZ v_3) = 0 → (∃ i_17 : Nat, p0 = nI i_17 ∧ i_17 < 3 ∧ (K (m_3 (1 + 3) i_17) m_3))))
set_option maxRecDepth 100000 in
set_option maxHeartbeats 4000000 in
theorem w_X8_why (X : CX) (p0 : Int32) (mem : Mm) (K : Int32 → Mm → Prop) (h : W_X8_why p0 mem K) : CallsI X 1 M_X8_why [.ref (cx_n X + 0), .int p0] mem K := by
  unfold W_X8_why at h
  refine CallsC.ofP 0 (by decide) rfl (Nat.le_of_ble_eq_true rfl) ?_
  refine gc_iload_n dX8_why_0 rfl ?_
  refine gc_iconst (v := 0) dX8_why_1 (by decide) ?_
  refine gc_iconst (v := 2) dX8_why_2 (by decide) ?_
  refine go_cSZ (y := M_X8_isWithin) (As := [.int p0, .int 0, .int 2]) (rest := []) dX8_why_3 lm_X8_70 ok_X8_isWithin (by decide) (w_X8_isWithin X p0 0 2 mem _ h) rfl (Nat.le_of_ble_eq_true rfl) (fun v_3 m_3 h => ?_)
  refine gc_if_eq 21 dX8_why_6 (by decide) (fun hc => ?_) (fun hc => ?_)
  · have h := h.1 hc
    refine gc_ldc (v := (-1000000001)) dX8_why_21 lk_X8_74 ?_
    exact go_iret dX8_why_23 rfl (Nat.le_refl _) (Nat.le_refl _) ⟨_, rfl, h⟩
  · have h := h.2 hc
    refine gc_aload_n dX8_why_9 rfl ?_
    refine go_getR dX8_why_10 lg_X8_10 (sz_lt (by decide)) kd_0 rfl ?_
    refine go_getR dX8_why_13 lg_X8_283 (sz_lt (al_lt al_1)) (al_kd al_1) rfl ?_
    refine gc_iload_n dX8_why_16 rfl ?_
    obtain ⟨i_17, hx_17, hi_17, h⟩ := h
    refine go_iald i_17 dX8_why_17 (al_ct al_1) hx_17 hi_17 ?_
    refine gc_goto 23 dX8_why_18 (by decide) ?_
    exact go_iret dX8_why_23 rfl (Nat.le_refl _) (Nat.le_refl _) ⟨_, rfl, h⟩
def W_X3_becomeRow (a0 : Nat) (p0 : Int32) (p1 : Int32) (mem : Mm) (K : Mm → Prop) : Prop := ∀ m_2 : Mm, m_2 = mu mem a0 0 p0 → (∀ m_7 : Mm, m_7 = mu m_2 a0 1 p1 → (W_J7_fill_53178 (a0 + 1) 24 0 m_7 (fun m_15 => K m_15)))
set_option maxRecDepth 100000 in
set_option maxHeartbeats 4000000 in
theorem w_X3_becomeRow (X : CX) (a0 : Nat) (ha0 : isSh a0) (p0 : Int32) (p1 : Int32) (mem : Mm) (K : Mm → Prop) (h : W_X3_becomeRow a0 p0 p1 mem K) : CallsU X 1 M_X3_becomeRow [.ref (cx_n X + a0), .int p0, .int p1] mem K := by
  unfold W_X3_becomeRow at h
  refine CallsC.ofP 0 (by decide) rfl (Nat.le_of_ble_eq_true rfl) ?_
  refine gc_aload_n dX3_becomeRow_0 rfl ?_
  refine gc_iload_n dX3_becomeRow_1 rfl ?_
  refine go_putI_ dX3_becomeRow_2 lp_X3_11 (sz_lt ha0.2.2) ha0.1 rfl (fun m_2 em_2 => ?_)
  have h := h m_2 em_2
  refine gc_aload_n dX3_becomeRow_5 rfl ?_
  refine gc_iload_n dX3_becomeRow_6 rfl ?_
  refine go_putI_ dX3_becomeRow_7 lp_X3_15 (sz_lt ha0.2.2) ha0.1 rfl (fun m_7 em_7 => ?_)
  have h := h m_7 em_7
  refine gc_aload_n dX3_becomeRow_10 rfl ?_
  refine go_getR dX3_becomeRow_11 lg_X3_18 (sz_lt ha0.2.2) ha0.1 rfl ?_
  refine gc_iconst (v := 0) dX3_becomeRow_14 (by decide) ?_
  refine go_cSU (y := M_J7_fill_53178) (As := [.ref (cx_n X + (a0 + 1)), .int 0]) (rest := []) dX3_becomeRow_15 lm_X3_22 ok_J7_fill_53178 (by decide) (w_J7_fill_53178 X (a0 + 1) 24 ⟨ha0.2.1, by omega⟩ 0 m_7 _ h) rfl (Nat.le_of_ble_eq_true rfl) (fun m_15 h => ?_)
  exact go_vret dX3_becomeRow_18 rfl (Nat.le_refl _) (Nat.le_refl _) ⟨rfl, h⟩
def W_X8_sheet (p0 : Int32) (p1 : Int32) (p2 : Int32) (mem : Mm) (K : Int32 → Mm → Prop) : Prop := W_X8_isSheet p0 mem (fun v_1 m_1 => ((bZ v_1) = 0 → (K (-1000000001) m_1)) ∧ (¬ (bZ v_1) = 0 → (W_X8_isWithin p1 (-1) 1 m_1 (fun v_10 m_10 => (¬ (bZ v_10) = 0 → ((¬ p1 = (-1) → ((p2 ≤ 24 → ((0 ≤ p2 → (∃ i_59 : Nat, p0 = nI i_59 ∧ i_59 < 4 ∧ (W_X3_becomeRow (54 + 2 * i_59) p1 p2 m_10 (fun m_62 => K p2 m_62)))) ∧ (¬ 0 ≤ p2 → (K (-1000000014) m_10)))) ∧ (¬ p2 ≤ 24 → (K (-1000000001) m_10)))) ∧ (p1 = (-1) → (∃ i_29 : Nat, p0 = nI i_29 ∧ i_29 < 4 ∧ (W_X3_becomeRow (54 + 2 * i_29) (-1) 0 m_10 (fun m_32 => K 0 m_32)))))) ∧ ((bZ v_10) = 0 → (K (-1000000001) m_10))))))
set_option maxRecDepth 100000 in
set_option maxHeartbeats 4000000 in
theorem w_X8_sheet (X : CX) (p0 : Int32) (p1 : Int32) (p2 : Int32) (mem : Mm) (K : Int32 → Mm → Prop) (h : W_X8_sheet p0 p1 p2 mem K) : CallsI X 2 M_X8_sheet [.ref (cx_n X + 0), .int p0, .int p1, .int p2] mem K := by
  unfold W_X8_sheet at h
  refine CallsC.ofP 0 (by decide) rfl (Nat.le_of_ble_eq_true rfl) ?_
  refine gc_iload_n dX8_sheet_0 rfl ?_
  refine go_cSZ (y := M_X8_isSheet) (As := [.int p0]) (rest := []) dX8_sheet_1 lm_X8_216 ok_X8_isSheet (by decide) (w_X8_isSheet X p0 mem _ h) rfl (Nat.le_of_ble_eq_true rfl) (fun v_1 m_1 h => ?_)
  refine gc_if_eq 16 dX8_sheet_4 (by decide) (fun hc => ?_) (fun hc => ?_)
  · have h := h.1 hc
    refine gc_ldc (v := (-1000000001)) dX8_sheet_16 lk_X8_74 ?_
    exact go_iret dX8_sheet_18 rfl (Nat.le_refl _) (Nat.le_refl _) ⟨_, rfl, h⟩
  · have h := h.2 hc
    refine gc_iload_n dX8_sheet_7 rfl ?_
    refine gc_iconst (v := (-1)) dX8_sheet_8 (by decide) ?_
    refine gc_iconst (v := 1) dX8_sheet_9 (by decide) ?_
    refine go_cSZ (y := M_X8_isWithin) (As := [.int p1, .int (-1), .int 1]) (rest := []) dX8_sheet_10 lm_X8_70 ok_X8_isWithin (by decide) (w_X8_isWithin X p1 (-1) 1 m_1 _ h) rfl (Nat.le_of_ble_eq_true rfl) (fun v_10 m_10 h => ?_)
    refine gc_if_ne 19 dX8_sheet_13 (by decide) (fun hc => ?_) (fun hc => ?_)
    · have h := h.1 hc
      refine gc_iload_n dX8_sheet_19 rfl ?_
      refine gc_iconst (v := (-1)) dX8_sheet_20 (by decide) ?_
      refine gc_icmp_ne 37 dX8_sheet_21 (by decide) (fun hc => ?_) (fun hc => ?_)
      · have h := h.1 hc
        refine gc_iload_n dX8_sheet_37 rfl ?_
        refine gc_bipush (v := 24) dX8_sheet_38 (by decide) ?_
        refine gc_icmp_le 46 dX8_sheet_40 (by decide) (fun hc => ?_) (fun hc => ?_)
        · have h := h.1 hc
          refine gc_iload_n dX8_sheet_46 rfl ?_
          refine gc_if_ge 54 dX8_sheet_47 (by decide) (fun hc => ?_) (fun hc => ?_)
          · have h := h.1 hc
            refine gc_aload_n dX8_sheet_54 rfl ?_
            refine go_getR dX8_sheet_55 lg_X8_47 (sz_lt (by decide)) kd_0 rfl ?_
            refine gc_iload_n dX8_sheet_58 rfl ?_
            obtain ⟨i_59, hx_59, hi_59, h⟩ := h
            refine go_sheets i_59 dX8_sheet_59 hx_59 hi_59 ?_
            refine gc_iload_n dX8_sheet_60 rfl ?_
            refine gc_iload_n dX8_sheet_61 rfl ?_
            refine go_cVU (y := M_X3_becomeRow) (As := [.int p1, .int p2]) (rest := []) dX8_sheet_62 lm_X8_286 ok_X3_becomeRow (by decide) (sz_lt (sh_ok hi_59).2.2) (sh_ok hi_59).1 rfl rfl (w_X3_becomeRow X (54 + 2 * i_59) (sh_ok hi_59) p1 p2 m_10 _ h) rfl (Nat.le_of_ble_eq_true rfl) (fun m_62 h => ?_)
            refine gc_iload_n dX8_sheet_65 rfl ?_
            exact go_iret dX8_sheet_66 rfl (Nat.le_refl _) (Nat.le_refl _) ⟨_, rfl, h⟩
          · have h := h.2 hc
            refine gc_ldcw (v := (-1000000014)) dX8_sheet_50 lk_X8_290 ?_
            exact go_iret dX8_sheet_53 rfl (Nat.le_refl _) (Nat.le_refl _) ⟨_, rfl, h⟩
        · have h := h.2 hc
          refine gc_ldc (v := (-1000000001)) dX8_sheet_43 lk_X8_74 ?_
          exact go_iret dX8_sheet_45 rfl (Nat.le_refl _) (Nat.le_refl _) ⟨_, rfl, h⟩
      · have h := h.2 hc
        refine gc_aload_n dX8_sheet_24 rfl ?_
        refine go_getR dX8_sheet_25 lg_X8_47 (sz_lt (by decide)) kd_0 rfl ?_
        refine gc_iload_n dX8_sheet_28 rfl ?_
        obtain ⟨i_29, hx_29, hi_29, h⟩ := h
        refine go_sheets i_29 dX8_sheet_29 hx_29 hi_29 ?_
        refine gc_iconst (v := (-1)) dX8_sheet_30 (by decide) ?_
        refine gc_iconst (v := 0) dX8_sheet_31 (by decide) ?_
        refine go_cVU (y := M_X3_becomeRow) (As := [.int (-1), .int 0]) (rest := []) dX8_sheet_32 lm_X8_286 ok_X3_becomeRow (by decide) (sz_lt (sh_ok hi_29).2.2) (sh_ok hi_29).1 rfl rfl (w_X3_becomeRow X (54 + 2 * i_29) (sh_ok hi_29) (-1) 0 m_10 _ h) rfl (Nat.le_of_ble_eq_true rfl) (fun m_32 h => ?_)
        refine gc_iconst (v := 0) dX8_sheet_35 (by decide) ?_
        exact go_iret dX8_sheet_36 rfl (Nat.le_refl _) (Nat.le_refl _) ⟨_, rfl, h⟩
    · have h := h.2 hc
      refine gc_ldc (v := (-1000000001)) dX8_sheet_16 lk_X8_74 ?_
      exact go_iret dX8_sheet_18 rfl (Nat.le_refl _) (Nat.le_refl _) ⟨_, rfl, h⟩
def W_X8_mark (p0 : Int32) (p1 : Int32) (p2 : Int32) (mem : Mm) (K : Int32 → Mm → Prop) : Prop := W_X8_isSheet p0 mem (fun v_1 m_1 => (¬ (bZ v_1) = 0 → (∃ i_15 : Nat, p0 = nI i_15 ∧ i_15 < 4 ∧ (W_X3_isMissing (54 + 2 * i_15) m_1 (fun v_20 m_20 => ((bZ v_20) = 0 → (W_X3_has (54 + 2 * i_15) p1 m_20 (fun v_32 m_32 => (¬ (bZ v_32) = 0 → ((¬ (m_32 (54 + 2 * i_15) 0) = 0 → ((p2 = (-1000000005) → (∃ i_99 : Nat, p1 = nI i_99 ∧ i_99 < 24 ∧ (∀ m_99 : Mm, m_99 = mu m_32 ((54 + 2 * i_15) + 1) i_99 p2 → (K 1 m_99)))) ∧ (¬ p2 = (-1000000005) → (W_X8_isWithin p2 (-99999) 99999 m_32 (fun v_83 m_83 => (¬ (bZ v_83) = 0 → (∃ i_99 : Nat, p1 = nI i_99 ∧ i_99 < 24 ∧ (∀ m_99 : Mm, m_99 = mu m_83 ((54 + 2 * i_15) + 1) i_99 p2 → (K 1 m_99)))) ∧ ((bZ v_83) = 0 → (K (-1000000001) m_83))))))) ∧ ((m_32 (54 + 2 * i_15) 0) = 0 → ((¬ p2 = (-1000000005) → (∃ i_67 : Nat, p1 = nI i_67 ∧ i_67 < 24 ∧ (∀ m_67 : Mm, m_67 = mu m_32 ((54 + 2 * i_15) + 1) i_67 p2.toInt16.toInt32 → (K 1 m_67)))) ∧ (p2 = (-1000000005) → (K (-1000000012) m_32)))))) ∧ ((bZ v_32) = 0 → (K (-1000000013) m_32))))) ∧ (¬ (bZ v_20) = 0 → (K (-1000000011) m_20)))))) ∧ ((bZ v_1) = 0 → (K (-1000000001) m_1)))
set_option maxRecDepth 100000 in
set_option maxHeartbeats 4000000 in
theorem w_X8_mark (X : CX) (p0 : Int32) (p1 : Int32) (p2 : Int32) (mem : Mm) (K : Int32 → Mm → Prop) (h : W_X8_mark p0 p1 p2 mem K) : CallsI X 2 M_X8_mark [.ref (cx_n X + 0), .int p0, .int p1, .int p2] mem K := by
  unfold W_X8_mark at h
  refine CallsC.ofP 1 (by decide) rfl (Nat.le_of_ble_eq_true rfl) ?_
  refine gc_iload_n dX8_mark_0 rfl ?_
  refine go_cSZ (y := M_X8_isSheet) (As := [.int p0]) (rest := []) dX8_mark_1 lm_X8_216 ok_X8_isSheet (by decide) (w_X8_isSheet X p0 mem _ h) rfl (Nat.le_of_ble_eq_true rfl) (fun v_1 m_1 h => ?_)
  refine gc_if_ne 10 dX8_mark_4 (by decide) (fun hc => ?_) (fun hc => ?_)
  · have h := h.1 hc
    refine gc_aload_n dX8_mark_10 rfl ?_
    refine go_getR dX8_mark_11 lg_X8_47 (sz_lt (by decide)) kd_0 rfl ?_
    refine gc_iload_n dX8_mark_14 rfl ?_
    obtain ⟨i_15, hx_15, hi_15, h⟩ := h
    refine go_sheets i_15 dX8_mark_15 hx_15 hi_15 ?_
    refine gc_astore dX8_mark_16 (by decide) ?_
    refine gc_aload dX8_mark_18 rfl ?_
    refine go_cVZ (y := M_X3_isMissing) (As := []) (rest := []) dX8_mark_20 lm_X8_219 ok_X3_isMissing (by decide) (sz_lt (sh_ok hi_15).2.2) (sh_ok hi_15).1 rfl rfl (w_X3_isMissing X (54 + 2 * i_15) (sh_ok hi_15) m_1 _ h) rfl (Nat.le_of_ble_eq_true rfl) (fun v_20 m_20 h => ?_)
    refine gc_if_eq 29 dX8_mark_23 (by decide) (fun hc => ?_) (fun hc => ?_)
    · have h := h.1 hc
      refine gc_aload dX8_mark_29 rfl ?_
      refine gc_iload_n dX8_mark_31 rfl ?_
      refine go_cVZ (y := M_X3_has) (As := [.int p1]) (rest := []) dX8_mark_32 lm_X8_291 ok_X3_has (by decide) (sz_lt (sh_ok hi_15).2.2) (sh_ok hi_15).1 rfl rfl (w_X3_has X (54 + 2 * i_15) (sh_ok hi_15) p1 m_20 _ h) rfl (Nat.le_of_ble_eq_true rfl) (fun v_32 m_32 h => ?_)
      refine gc_if_ne 42 dX8_mark_35 (by decide) (fun hc => ?_) (fun hc => ?_)
      · have h := h.1 hc
        refine gc_aload dX8_mark_42 rfl ?_
        refine go_getI dX8_mark_44 lg_X8_293 (sz_lt (sh_ok hi_15).2.2) (sh_ok hi_15).1 rfl ?_
        refine gc_if_ne 70 dX8_mark_47 (by decide) (fun hc => ?_) (fun hc => ?_)
        · have h := h.1 hc
          refine gc_iload_n dX8_mark_70 rfl ?_
          refine gc_ldc (v := (-1000000005)) dX8_mark_71 lk_X8_183 ?_
          refine gc_icmp_eq 92 dX8_mark_73 (by decide) (fun hc => ?_) (fun hc => ?_)
          · have h := h.1 hc
            refine gc_aload dX8_mark_92 rfl ?_
            refine go_getR dX8_mark_94 lg_X8_238 (sz_lt (sh_ok hi_15).2.2) (sh_ok hi_15).1 rfl ?_
            refine gc_iload_n dX8_mark_97 rfl ?_
            refine gc_iload_n dX8_mark_98 rfl ?_
            obtain ⟨i_99, hx_99, hi_99, h⟩ := h
            refine go_iast_ i_99 dX8_mark_99 (sh_ok hi_15).2.1 hx_99 hi_99 (by omega) (fun m_99 em_99 => ?_)
            have h := h m_99 em_99
            refine gc_iconst (v := 1) dX8_mark_100 (by decide) ?_
            exact go_iret dX8_mark_101 rfl (Nat.le_refl _) (Nat.le_refl _) ⟨_, rfl, h⟩
          · have h := h.2 hc
            refine gc_iload_n dX8_mark_76 rfl ?_
            refine gc_ldcw (v := (-99999)) dX8_mark_77 lk_X8_296 ?_
            refine gc_ldcw (v := 99999) dX8_mark_80 lk_X8_297 ?_
            refine go_cSZ (y := M_X8_isWithin) (As := [.int p2, .int (-99999), .int 99999]) (rest := []) dX8_mark_83 lm_X8_70 ok_X8_isWithin (by decide) (w_X8_isWithin X p2 (-99999) 99999 m_32 _ h) rfl (Nat.le_of_ble_eq_true rfl) (fun v_83 m_83 h => ?_)
            refine gc_if_ne 92 dX8_mark_86 (by decide) (fun hc => ?_) (fun hc => ?_)
            · have h := h.1 hc
              refine gc_aload dX8_mark_92 rfl ?_
              refine go_getR dX8_mark_94 lg_X8_238 (sz_lt (sh_ok hi_15).2.2) (sh_ok hi_15).1 rfl ?_
              refine gc_iload_n dX8_mark_97 rfl ?_
              refine gc_iload_n dX8_mark_98 rfl ?_
              obtain ⟨i_99, hx_99, hi_99, h⟩ := h
              refine go_iast_ i_99 dX8_mark_99 (sh_ok hi_15).2.1 hx_99 hi_99 (by omega) (fun m_99 em_99 => ?_)
              have h := h m_99 em_99
              refine gc_iconst (v := 1) dX8_mark_100 (by decide) ?_
              exact go_iret dX8_mark_101 rfl (Nat.le_refl _) (Nat.le_refl _) ⟨_, rfl, h⟩
            · have h := h.2 hc
              refine gc_ldc (v := (-1000000001)) dX8_mark_89 lk_X8_74 ?_
              exact go_iret dX8_mark_91 rfl (Nat.le_refl _) (Nat.le_refl _) ⟨_, rfl, h⟩
        · have h := h.2 hc
          refine gc_iload_n dX8_mark_50 rfl ?_
          refine gc_ldc (v := (-1000000005)) dX8_mark_51 lk_X8_183 ?_
          refine gc_icmp_ne 59 dX8_mark_53 (by decide) (fun hc => ?_) (fun hc => ?_)
          · have h := h.1 hc
            refine gc_aload dX8_mark_59 rfl ?_
            refine go_getR dX8_mark_61 lg_X8_238 (sz_lt (sh_ok hi_15).2.2) (sh_ok hi_15).1 rfl ?_
            refine gc_iload_n dX8_mark_64 rfl ?_
            refine gc_iload_n dX8_mark_65 rfl ?_
            refine gc_i2s dX8_mark_66 ?_
            obtain ⟨i_67, hx_67, hi_67, h⟩ := h
            refine go_iast_ i_67 dX8_mark_67 (sh_ok hi_15).2.1 hx_67 hi_67 (by omega) (fun m_67 em_67 => ?_)
            have h := h m_67 em_67
            refine gc_iconst (v := 1) dX8_mark_68 (by decide) ?_
            exact go_iret dX8_mark_69 rfl (Nat.le_refl _) (Nat.le_refl _) ⟨_, rfl, h⟩
          · have h := h.2 hc
            refine gc_ldc (v := (-1000000012)) dX8_mark_56 lk_X8_125 ?_
            exact go_iret dX8_mark_58 rfl (Nat.le_refl _) (Nat.le_refl _) ⟨_, rfl, h⟩
      · have h := h.2 hc
        refine gc_ldcw (v := (-1000000013)) dX8_mark_38 lk_X8_292 ?_
        exact go_iret dX8_mark_41 rfl (Nat.le_refl _) (Nat.le_refl _) ⟨_, rfl, h⟩
    · have h := h.2 hc
      refine gc_ldc (v := (-1000000011)) dX8_mark_26 lk_X8_223 ?_
      exact go_iret dX8_mark_28 rfl (Nat.le_refl _) (Nat.le_refl _) ⟨_, rfl, h⟩
  · have h := h.2 hc
    refine gc_ldc (v := (-1000000001)) dX8_mark_7 lk_X8_74 ?_
    exact go_iret dX8_mark_9 rfl (Nat.le_refl _) (Nat.le_refl _) ⟨_, rfl, h⟩
def L_X8_pour_32 (p0 : Int32) (K : Int32 → Mm → Prop) : Nat → Nat → Int32 → Int32 → Mm → Prop
  | 0, _, _, _, _ => False
  | n + 1, l2, l3, l4, mem => ((mem 1 1) ≤ l4 → (K l3 mem)) ∧ (¬ (mem 1 1) ≤ l4 → (((mem l2 1) ≤ l4 → (K l3 mem)) ∧ (¬ (mem l2 1) ≤ l4 → (W_X3_isNumber l2 l4 mem (fun v_56 m_56 => ((bZ v_56) = 0 → (L_X8_pour_32 p0  K n l2 l3 (l4 + 1) m_56)) ∧ (¬ (bZ v_56) = 0 → (∃ i_68 : Nat, l4 = nI i_68 ∧ i_68 < 24 ∧ (W_X8_held (m_56 (l2 + 1) i_68) 99 m_56 (fun v_71 m_71 => ∃ i_87 : Nat, l4 = nI i_87 ∧ i_87 < 9 ∧ ((v_71 = (m_71 (1 + 4 + i_87) 1) → (∃ i_106 : Nat, l4 = nI i_106 ∧ i_106 < 9 ∧ (∀ m_109 : Mm, m_109 = mu m_71 (1 + 4 + i_106) 1 v_71 → (L_X8_pour_32 p0  K n l2 l3 (l4 + 1) m_109)))) ∧ (¬ v_71 = (m_71 (1 + 4 + i_87) 1) → (∃ i_106 : Nat, l4 = nI i_106 ∧ i_106 < 9 ∧ (∀ m_109 : Mm, m_109 = mu m_71 (1 + 4 + i_106) 1 v_71 → (L_X8_pour_32 p0  K n l2 (l3 + 1) (l4 + 1) m_109))))))))))))))
set_option maxRecDepth 100000 in
set_option maxHeartbeats 4000000 in
theorem l_X8_pour_32 (X : CX) (p0 : Int32)  (K : Int32 → Mm → Prop) : ∀ (n : Nat) (l2 : Nat) (l3 : Int32) (l4 : Int32) (mem : Mm) (hl2 : isSh l2), L_X8_pour_32 p0   K n l2 l3 l4 mem → GoC X 2 0 0 M_X8_pour 32 [some (.ref (cx_n X + 0)), none, some (.ref (cx_n X + l2)), some (.int l3), some (.int l4), none] [] 0 0 (cellAt X mem) (sz mem) (qm X (fun r m => ∃ v : Int32, r = some (.int v) ∧ K v m))
  := by
  intro n
  induction n with
  | zero => intro l2 l3 l4 mem hl2 h; exact h.elim
  | succ n ih =>
    intro l2 l3 l4 mem hl2 h
    unfold L_X8_pour_32 at h
    refine gc_iload dX8_pour_32 rfl ?_
    refine gc_aload_n dX8_pour_34 rfl ?_
    refine go_getR dX8_pour_35 lg_X8_10 (sz_lt (by decide)) kd_0 rfl ?_
    refine go_getI dX8_pour_38 lg_X8_75 (sz_lt (al_lt al_1)) (al_kd al_1) rfl ?_
    refine gc_icmp_ge 118 dX8_pour_41 (by decide) (fun hc => ?_) (fun hc => ?_)
    · have h := h.1 hc
      refine gc_iload_n dX8_pour_118 rfl ?_
      exact go_iret dX8_pour_119 rfl (Nat.le_refl _) (Nat.le_refl _) ⟨_, rfl, h⟩
    · have h := h.2 hc
      refine gc_iload dX8_pour_44 rfl ?_
      refine gc_aload_n dX8_pour_46 rfl ?_
      refine go_getI dX8_pour_47 lg_X8_234 (sz_lt hl2.2.2) hl2.1 rfl ?_
      refine gc_icmp_ge 118 dX8_pour_50 (by decide) (fun hc => ?_) (fun hc => ?_)
      · have h := h.1 hc
        refine gc_iload_n dX8_pour_118 rfl ?_
        exact go_iret dX8_pour_119 rfl (Nat.le_refl _) (Nat.le_refl _) ⟨_, rfl, h⟩
      · have h := h.2 hc
        refine gc_aload_n dX8_pour_53 rfl ?_
        refine gc_iload dX8_pour_54 rfl ?_
        refine go_cVZ (y := M_X3_isNumber) (As := [.int l4]) (rest := []) dX8_pour_56 lm_X8_235 ok_X3_isNumber (by decide) (sz_lt hl2.2.2) hl2.1 rfl rfl (w_X3_isNumber X l2 hl2 l4 mem _ h) rfl (Nat.le_of_ble_eq_true rfl) (fun v_56 m_56 h => ?_)
        refine gc_if_eq 112 dX8_pour_59 (by decide) (fun hc => ?_) (fun hc => ?_)
        · have h := h.1 hc
          refine gc_iinc (v := l4 + 1) dX8_pour_112 rfl rfl (by decide) ?_
          refine gc_goto 32 dX8_pour_115 (by decide) ?_
          exact ih l2 l3 (l4 + 1) m_56 hl2 h
        · have h := h.2 hc
          refine gc_aload_n dX8_pour_62 rfl ?_
          refine go_getR dX8_pour_63 lg_X8_238 (sz_lt hl2.2.2) hl2.1 rfl ?_
          refine gc_iload dX8_pour_66 rfl ?_
          obtain ⟨i_68, hx_68, hi_68, h⟩ := h
          refine go_iald i_68 dX8_pour_68 hl2.2.1 hx_68 hi_68 ?_
          refine gc_bipush (v := 99) dX8_pour_69 (by decide) ?_
          refine go_cSI (y := M_X8_held) (As := [.int (m_56 (l2 + 1) i_68), .int 99]) (rest := []) dX8_pour_71 lm_X8_298 ok_X8_held (by decide) (w_X8_held X (m_56 (l2 + 1) i_68) 99 m_56 _ h) rfl (Nat.le_of_ble_eq_true rfl) (fun v_71 m_71 h => ?_)
          refine gc_istore dX8_pour_74 (by decide) ?_
          refine gc_iload dX8_pour_76 rfl ?_
          refine gc_aload_n dX8_pour_78 rfl ?_
          refine go_getR dX8_pour_79 lg_X8_10 (sz_lt (by decide)) kd_0 rfl ?_
          refine go_getR dX8_pour_82 lg_X8_87 (sz_lt (al_lt al_1)) (al_kd al_1) rfl ?_
          refine gc_iload dX8_pour_85 rfl ?_
          obtain ⟨i_87, hx_87, hi_87, h⟩ := h
          refine go_men i_87 al_1 dX8_pour_87 hx_87 hi_87 ?_
          refine go_getI dX8_pour_88 lg_X8_96 (sz_lt (al_man al_1 hi_87).2) (al_man al_1 hi_87).1 rfl ?_
          refine gc_icmp_eq 97 dX8_pour_91 (by decide) (fun hc => ?_) (fun hc => ?_)
          · have h := h.1 hc
            refine gc_aload_n dX8_pour_97 rfl ?_
            refine go_getR dX8_pour_98 lg_X8_10 (sz_lt (by decide)) kd_0 rfl ?_
            refine go_getR dX8_pour_101 lg_X8_87 (sz_lt (al_lt al_1)) (al_kd al_1) rfl ?_
            refine gc_iload dX8_pour_104 rfl ?_
            obtain ⟨i_106, hx_106, hi_106, h⟩ := h
            refine go_men i_106 al_1 dX8_pour_106 hx_106 hi_106 ?_
            refine gc_iload dX8_pour_107 rfl ?_
            refine go_putI_ dX8_pour_109 lp_X8_96 (sz_lt (al_man al_1 hi_106).2) (al_man al_1 hi_106).1 rfl (fun m_109 em_109 => ?_)
            have h := h m_109 em_109
            refine gc_iinc (v := l4 + 1) dX8_pour_112 rfl rfl (by decide) ?_
            refine gc_goto 32 dX8_pour_115 (by decide) ?_
            refine gc_forget 5 ?_
            exact ih l2 l3 (l4 + 1) m_109 hl2 h
          · have h := h.2 hc
            refine gc_iinc (v := l3 + 1) dX8_pour_94 rfl rfl (by decide) ?_
            refine gc_aload_n dX8_pour_97 rfl ?_
            refine go_getR dX8_pour_98 lg_X8_10 (sz_lt (by decide)) kd_0 rfl ?_
            refine go_getR dX8_pour_101 lg_X8_87 (sz_lt (al_lt al_1)) (al_kd al_1) rfl ?_
            refine gc_iload dX8_pour_104 rfl ?_
            obtain ⟨i_106, hx_106, hi_106, h⟩ := h
            refine go_men i_106 al_1 dX8_pour_106 hx_106 hi_106 ?_
            refine gc_iload dX8_pour_107 rfl ?_
            refine go_putI_ dX8_pour_109 lp_X8_96 (sz_lt (al_man al_1 hi_106).2) (al_man al_1 hi_106).1 rfl (fun m_109 em_109 => ?_)
            have h := h m_109 em_109
            refine gc_iinc (v := l4 + 1) dX8_pour_112 rfl rfl (by decide) ?_
            refine gc_goto 32 dX8_pour_115 (by decide) ?_
            refine gc_forget 5 ?_
            exact ih l2 (l3 + 1) (l4 + 1) m_109 hl2 h
def W_X8_pour (p0 : Int32) (mem : Mm) (K : Int32 → Mm → Prop) : Prop := W_X8_isSheet p0 mem (fun v_1 m_1 => (¬ (bZ v_1) = 0 → (∃ i_15 : Nat, p0 = nI i_15 ∧ i_15 < 4 ∧ (W_X3_isMissing (54 + 2 * i_15) m_1 (fun v_18 m_18 => ((bZ v_18) = 0 → (∃ nz : Nat, L_X8_pour_32 p0   K nz (54 + 2 * i_15) 0 0 m_18)) ∧ (¬ (bZ v_18) = 0 → (K (-1000000011) m_18)))))) ∧ ((bZ v_1) = 0 → (K (-1000000001) m_1)))
set_option maxRecDepth 100000 in
set_option maxHeartbeats 4000000 in
theorem w_X8_pour (X : CX) (p0 : Int32) (mem : Mm) (K : Int32 → Mm → Prop) (h : W_X8_pour p0 mem K) : CallsI X 2 M_X8_pour [.ref (cx_n X + 0), .int p0] mem K := by
  unfold W_X8_pour at h
  refine CallsC.ofP 4 (by decide) rfl (Nat.le_of_ble_eq_true rfl) ?_
  refine gc_iload_n dX8_pour_0 rfl ?_
  refine go_cSZ (y := M_X8_isSheet) (As := [.int p0]) (rest := []) dX8_pour_1 lm_X8_216 ok_X8_isSheet (by decide) (w_X8_isSheet X p0 mem _ h) rfl (Nat.le_of_ble_eq_true rfl) (fun v_1 m_1 h => ?_)
  refine gc_if_ne 10 dX8_pour_4 (by decide) (fun hc => ?_) (fun hc => ?_)
  · have h := h.1 hc
    refine gc_aload_n dX8_pour_10 rfl ?_
    refine go_getR dX8_pour_11 lg_X8_47 (sz_lt (by decide)) kd_0 rfl ?_
    refine gc_iload_n dX8_pour_14 rfl ?_
    obtain ⟨i_15, hx_15, hi_15, h⟩ := h
    refine go_sheets i_15 dX8_pour_15 hx_15 hi_15 ?_
    refine gc_astore_n dX8_pour_16 (by decide) ?_
    refine gc_aload_n dX8_pour_17 rfl ?_
    refine go_cVZ (y := M_X3_isMissing) (As := []) (rest := []) dX8_pour_18 lm_X8_219 ok_X3_isMissing (by decide) (sz_lt (sh_ok hi_15).2.2) (sh_ok hi_15).1 rfl rfl (w_X3_isMissing X (54 + 2 * i_15) (sh_ok hi_15) m_1 _ h) rfl (Nat.le_of_ble_eq_true rfl) (fun v_18 m_18 h => ?_)
    refine gc_if_eq 27 dX8_pour_21 (by decide) (fun hc => ?_) (fun hc => ?_)
    · have h := h.1 hc
      refine gc_iconst (v := 0) dX8_pour_27 (by decide) ?_
      refine gc_istore_n dX8_pour_28 (by decide) ?_
      refine gc_iconst (v := 0) dX8_pour_29 (by decide) ?_
      refine gc_istore dX8_pour_30 (by decide) ?_
      refine gc_forget 1 ?_
      obtain ⟨n9, h⟩ := h
      exact l_X8_pour_32 X p0    K   n9 (54 + 2 * i_15) 0 0 m_18 (sh_ok hi_15) h
    · have h := h.2 hc
      refine gc_ldc (v := (-1000000011)) dX8_pour_24 lk_X8_223 ?_
      exact go_iret dX8_pour_26 rfl (Nat.le_refl _) (Nat.le_refl _) ⟨_, rfl, h⟩
  · have h := h.2 hc
    refine gc_ldc (v := (-1000000001)) dX8_pour_7 lk_X8_74 ?_
    exact go_iret dX8_pour_9 rfl (Nat.le_refl _) (Nat.le_refl _) ⟨_, rfl, h⟩
def L_X8_reads_29 (p0 : Int32) (K : Int32 → Mm → Prop) : Nat → Nat → Int32 → Mm → Prop
  | 0, _, _, _ => False
  | n + 1, l2, l3, mem => ((mem l2 1) ≤ l3 → (K (-1000000005) mem)) ∧ (¬ (mem l2 1) ≤ l3 → (W_X3_isNumber l2 l3 mem (fun v_39 m_39 => ((bZ v_39) = 0 → (L_X8_reads_29 p0  K n l2 (l3 + 1) m_39)) ∧ (¬ (bZ v_39) = 0 → (W_X0_has 1 l3 m_39 (fun v_50 m_50 => ((bZ v_50) = 0 → (K l3 m_50)) ∧ (¬ (bZ v_50) = 0 → (∃ i_61 : Nat, l3 = nI i_61 ∧ i_61 < 24 ∧ (∃ i_70 : Nat, l3 = nI i_70 ∧ i_70 < 9 ∧ (((m_50 (l2 + 1) i_61) = (m_50 (1 + 4 + i_70) 2) → (L_X8_reads_29 p0  K n l2 (l3 + 1) m_50)) ∧ (¬ (m_50 (l2 + 1) i_61) = (m_50 (1 + 4 + i_70) 2) → (K l3 m_50))))))))))))
set_option maxRecDepth 100000 in
set_option maxHeartbeats 4000000 in
theorem l_X8_reads_29 (X : CX) (p0 : Int32)  (K : Int32 → Mm → Prop) : ∀ (n : Nat) (l2 : Nat) (l3 : Int32) (mem : Mm) (hl2 : isSh l2), L_X8_reads_29 p0   K n l2 l3 mem → GoC X 2 0 0 M_X8_reads 29 [some (.ref (cx_n X + 0)), none, some (.ref (cx_n X + l2)), some (.int l3)] [] 0 0 (cellAt X mem) (sz mem) (qm X (fun r m => ∃ v : Int32, r = some (.int v) ∧ K v m))
  := by
  intro n
  induction n with
  | zero => intro l2 l3 mem hl2 h; exact h.elim
  | succ n ih =>
    intro l2 l3 mem hl2 h
    unfold L_X8_reads_29 at h
    refine gc_iload_n dX8_reads_29 rfl ?_
    refine gc_aload_n dX8_reads_30 rfl ?_
    refine go_getI dX8_reads_31 lg_X8_234 (sz_lt hl2.2.2) hl2.1 rfl ?_
    refine gc_icmp_ge 85 dX8_reads_34 (by decide) (fun hc => ?_) (fun hc => ?_)
    · have h := h.1 hc
      refine gc_ldc (v := (-1000000005)) dX8_reads_85 lk_X8_183 ?_
      exact go_iret dX8_reads_87 rfl (Nat.le_refl _) (Nat.le_refl _) ⟨_, rfl, h⟩
    · have h := h.2 hc
      refine gc_aload_n dX8_reads_37 rfl ?_
      refine gc_iload_n dX8_reads_38 rfl ?_
      refine go_cVZ (y := M_X3_isNumber) (As := [.int l3]) (rest := []) dX8_reads_39 lm_X8_235 ok_X3_isNumber (by decide) (sz_lt hl2.2.2) hl2.1 rfl rfl (w_X3_isNumber X l2 hl2 l3 mem _ h) rfl (Nat.le_of_ble_eq_true rfl) (fun v_39 m_39 h => ?_)
      refine gc_if_eq 79 dX8_reads_42 (by decide) (fun hc => ?_) (fun hc => ?_)
      · have h := h.1 hc
        refine gc_iinc (v := l3 + 1) dX8_reads_79 rfl rfl (by decide) ?_
        refine gc_goto 29 dX8_reads_82 (by decide) ?_
        exact ih l2 (l3 + 1) m_39 hl2 h
      · have h := h.2 hc
        refine gc_aload_n dX8_reads_45 rfl ?_
        refine go_getR dX8_reads_46 lg_X8_10 (sz_lt (by decide)) kd_0 rfl ?_
        refine gc_iload_n dX8_reads_49 rfl ?_
        refine go_cVZ (y := M_X0_has) (As := [.int l3]) (rest := []) dX8_reads_50 lm_X8_83 ok_X0_has (by decide) (sz_lt (al_lt al_1)) (al_kd al_1) rfl rfl (w_X0_has X 1 al_1 l3 m_39 _ h) rfl (Nat.le_of_ble_eq_true rfl) (fun v_50 m_50 h => ?_)
        refine gc_if_eq 77 dX8_reads_53 (by decide) (fun hc => ?_) (fun hc => ?_)
        · have h := h.1 hc
          refine gc_iload_n dX8_reads_77 rfl ?_
          exact go_iret dX8_reads_78 rfl (Nat.le_refl _) (Nat.le_refl _) ⟨_, rfl, h⟩
        · have h := h.2 hc
          refine gc_aload_n dX8_reads_56 rfl ?_
          refine go_getR dX8_reads_57 lg_X8_238 (sz_lt hl2.2.2) hl2.1 rfl ?_
          refine gc_iload_n dX8_reads_60 rfl ?_
          obtain ⟨i_61, hx_61, hi_61, h⟩ := h
          refine go_iald i_61 dX8_reads_61 hl2.2.1 hx_61 hi_61 ?_
          refine gc_aload_n dX8_reads_62 rfl ?_
          refine go_getR dX8_reads_63 lg_X8_10 (sz_lt (by decide)) kd_0 rfl ?_
          refine go_getR dX8_reads_66 lg_X8_87 (sz_lt (al_lt al_1)) (al_kd al_1) rfl ?_
          refine gc_iload_n dX8_reads_69 rfl ?_
          obtain ⟨i_70, hx_70, hi_70, h⟩ := h
          refine go_men i_70 al_1 dX8_reads_70 hx_70 hi_70 ?_
          refine go_getI dX8_reads_71 lg_X8_99 (sz_lt (al_man al_1 hi_70).2) (al_man al_1 hi_70).1 rfl ?_
          refine gc_icmp_eq 79 dX8_reads_74 (by decide) (fun hc => ?_) (fun hc => ?_)
          · have h := h.1 hc
            refine gc_iinc (v := l3 + 1) dX8_reads_79 rfl rfl (by decide) ?_
            refine gc_goto 29 dX8_reads_82 (by decide) ?_
            exact ih l2 (l3 + 1) m_50 hl2 h
          · have h := h.2 hc
            refine gc_iload_n dX8_reads_77 rfl ?_
            exact go_iret dX8_reads_78 rfl (Nat.le_refl _) (Nat.le_refl _) ⟨_, rfl, h⟩
def W_X8_reads (p0 : Int32) (mem : Mm) (K : Int32 → Mm → Prop) : Prop := W_X8_isSheet p0 mem (fun v_1 m_1 => (¬ (bZ v_1) = 0 → (∃ i_15 : Nat, p0 = nI i_15 ∧ i_15 < 4 ∧ (W_X3_isMissing (54 + 2 * i_15) m_1 (fun v_18 m_18 => ((bZ v_18) = 0 → (∃ nz : Nat, L_X8_reads_29 p0   K nz (54 + 2 * i_15) 0 m_18)) ∧ (¬ (bZ v_18) = 0 → (K (-1000000011) m_18)))))) ∧ ((bZ v_1) = 0 → (K (-1000000001) m_1)))
set_option maxRecDepth 100000 in
set_option maxHeartbeats 4000000 in
theorem w_X8_reads (X : CX) (p0 : Int32) (mem : Mm) (K : Int32 → Mm → Prop) (h : W_X8_reads p0 mem K) : CallsI X 2 M_X8_reads [.ref (cx_n X + 0), .int p0] mem K := by
  unfold W_X8_reads at h
  refine CallsC.ofP 2 (by decide) rfl (Nat.le_of_ble_eq_true rfl) ?_
  refine gc_iload_n dX8_reads_0 rfl ?_
  refine go_cSZ (y := M_X8_isSheet) (As := [.int p0]) (rest := []) dX8_reads_1 lm_X8_216 ok_X8_isSheet (by decide) (w_X8_isSheet X p0 mem _ h) rfl (Nat.le_of_ble_eq_true rfl) (fun v_1 m_1 h => ?_)
  refine gc_if_ne 10 dX8_reads_4 (by decide) (fun hc => ?_) (fun hc => ?_)
  · have h := h.1 hc
    refine gc_aload_n dX8_reads_10 rfl ?_
    refine go_getR dX8_reads_11 lg_X8_47 (sz_lt (by decide)) kd_0 rfl ?_
    refine gc_iload_n dX8_reads_14 rfl ?_
    obtain ⟨i_15, hx_15, hi_15, h⟩ := h
    refine go_sheets i_15 dX8_reads_15 hx_15 hi_15 ?_
    refine gc_astore_n dX8_reads_16 (by decide) ?_
    refine gc_aload_n dX8_reads_17 rfl ?_
    refine go_cVZ (y := M_X3_isMissing) (As := []) (rest := []) dX8_reads_18 lm_X8_219 ok_X3_isMissing (by decide) (sz_lt (sh_ok hi_15).2.2) (sh_ok hi_15).1 rfl rfl (w_X3_isMissing X (54 + 2 * i_15) (sh_ok hi_15) m_1 _ h) rfl (Nat.le_of_ble_eq_true rfl) (fun v_18 m_18 h => ?_)
    refine gc_if_eq 27 dX8_reads_21 (by decide) (fun hc => ?_) (fun hc => ?_)
    · have h := h.1 hc
      refine gc_iconst (v := 0) dX8_reads_27 (by decide) ?_
      refine gc_istore_n dX8_reads_28 (by decide) ?_
      refine gc_forget 1 ?_
      obtain ⟨n9, h⟩ := h
      exact l_X8_reads_29 X p0    K   n9 (54 + 2 * i_15) 0 m_18 (sh_ok hi_15) h
    · have h := h.2 hc
      refine gc_ldc (v := (-1000000011)) dX8_reads_24 lk_X8_223 ?_
      exact go_iret dX8_reads_26 rfl (Nat.le_refl _) (Nat.le_refl _) ⟨_, rfl, h⟩
  · have h := h.2 hc
    refine gc_ldc (v := (-1000000001)) dX8_reads_7 lk_X8_74 ?_
    exact go_iret dX8_reads_9 rfl (Nat.le_refl _) (Nat.le_refl _) ⟨_, rfl, h⟩
