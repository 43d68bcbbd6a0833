def L_X9_takesKey_55  (kb12 : Int32 → Mm → Prop) (K : Bool → Mm → Prop) : Nat → Int32 → Int32 → Int32 → Int32 → Mm → Prop
  | 0, _, _, _, _, _ => False
  | n + 1, l1, l2, l3, l4, mem => (l2 ≤ l4 → ((l3 = 0 → (kb12 (l1 + 1) mem)) ∧ (¬ l3 = 0 → (∀ m_112 : Mm, m_112 = mu mem 82 15 l1 → (W_X9_go  m_112 (fun m_116 => K true m_116)))))) ∧ (¬ l2 ≤ l4 → ((l3 = 0 → ((l3 = 0 → (kb12 (l1 + 1) mem)) ∧ (¬ l3 = 0 → (∀ m_112 : Mm, m_112 = mu mem 82 15 l1 → (W_X9_go  m_112 (fun m_116 => K true m_116)))))) ∧ (¬ l3 = 0 → (∃ i_76 : Nat, ((mem 82 11) + l4) = nI i_76 ∧ i_76 < 96 ∧ (∃ i_86 : Nat, l1 = nI i_86 ∧ i_86 < 4 ∧ (∃ i_90 : Nat, ((mem 91 i_86) + l4) = nI i_90 ∧ i_90 < 12 ∧ ((¬ (mem 89 i_76) = (mem 90 i_90) → (L_X9_takesKey_55  kb12 K n l1 l2 0 (l4 + 1) mem)) ∧ ((mem 89 i_76) = (mem 90 i_90) → (L_X9_takesKey_55  kb12 K n l1 l2 1 (l4 + 1) mem)))))))))
set_option maxRecDepth 100000 in
set_option maxHeartbeats 4000000 in
theorem l_X9_takesKey_55 (X : CX)   (kb12 : Int32 → Mm → Prop) (K : Bool → Mm → Prop) (hkb12 : ∀ (l1 : Int32) (mem : Mm), kb12 l1 mem → GoC X 2 0 0 M_X9_takesKey 12 [some (.ref (cx_n X + 82)), some (.int l1), none, none, none] [] 0 0 (cellAt X mem) (sz mem) (qm X (fun r m => ∃ b : Bool, r = some (.int (bZ b)) ∧ K b m))) : ∀ (n : Nat) (l1 : Int32) (l2 : Int32) (l3 : Int32) (l4 : Int32) (mem : Mm), L_X9_takesKey_55   kb12 K n l1 l2 l3 l4 mem → GoC X 2 0 0 M_X9_takesKey 55 [some (.ref (cx_n X + 82)), some (.int l1), some (.int l2), some (.int l3), some (.int l4)] [] 0 0 (cellAt X mem) (sz mem) (qm X (fun r m => ∃ b : Bool, r = some (.int (bZ b)) ∧ K b m))
  := by
  intro n
  induction n with
  | zero => intro l1 l2 l3 l4 mem h; exact h.elim
  | succ n ih =>
    intro l1 l2 l3 l4 mem h
    unfold L_X9_takesKey_55 at h
    refine gc_iload dX9_takesKey_55 rfl ?_
    refine gc_iload_n dX9_takesKey_57 rfl ?_
    refine gc_icmp_ge 106 dX9_takesKey_58 (by decide) (fun hc => ?_) (fun hc => ?_)
    · have h := h.1 hc
      refine gc_iload_n dX9_takesKey_106 rfl ?_
      refine gc_if_eq 121 dX9_takesKey_107 (by decide) (fun hc => ?_) (fun hc => ?_)
      · have h := h.1 hc
        refine gc_iinc (v := l1 + 1) dX9_takesKey_121 rfl rfl (by decide) ?_
        refine gc_goto 12 dX9_takesKey_124 (by decide) ?_
        refine gc_forget 2 ?_
        refine gc_forget 3 ?_
        refine gc_forget 4 ?_
        exact hkb12 (l1 + 1) mem  h
      · have h := h.2 hc
        refine gc_aload_n dX9_takesKey_110 rfl ?_
        refine gc_iload_n dX9_takesKey_111 rfl ?_
        refine go_putI_ dX9_takesKey_112 lp_X9_242 (sz_lt (by decide)) kd_82 rfl (fun m_112 em_112 => ?_)
        have h := h m_112 em_112
        refine gc_aload_n dX9_takesKey_115 rfl ?_
        refine go_cVU (y := M_X9_go) (As := []) (rest := []) dX9_takesKey_116 lm_X9_245 ok_X9_go (by decide) (sz_lt (by decide)) kd_82 rfl rfl (w_X9_go X  m_112 _ h) rfl (Nat.le_of_ble_eq_true rfl) (fun m_116 h => ?_)
        refine gc_iconst (v := 1) dX9_takesKey_119 (by decide) ?_
        exact go_zret dX9_takesKey_120 rfl (by decide) (Nat.le_refl _) (Nat.le_refl _) ⟨true, rfl, h⟩
    · have h := h.2 hc
      refine gc_iload_n dX9_takesKey_61 rfl ?_
      refine gc_if_eq 106 dX9_takesKey_62 (by decide) (fun hc => ?_) (fun hc => ?_)
      · have h := h.1 hc
        refine gc_iload_n dX9_takesKey_106 rfl ?_
        refine gc_if_eq 121 dX9_takesKey_107 (by decide) (fun hc => ?_) (fun hc => ?_)
        · have h := h.1 hc
          refine gc_iinc (v := l1 + 1) dX9_takesKey_121 rfl rfl (by decide) ?_
          refine gc_goto 12 dX9_takesKey_124 (by decide) ?_
          refine gc_forget 2 ?_
          refine gc_forget 3 ?_
          refine gc_forget 4 ?_
          exact hkb12 (l1 + 1) mem  h
        · have h := h.2 hc
          refine gc_aload_n dX9_takesKey_110 rfl ?_
          refine gc_iload_n dX9_takesKey_111 rfl ?_
          refine go_putI_ dX9_takesKey_112 lp_X9_242 (sz_lt (by decide)) kd_82 rfl (fun m_112 em_112 => ?_)
          have h := h m_112 em_112
          refine gc_aload_n dX9_takesKey_115 rfl ?_
          refine go_cVU (y := M_X9_go) (As := []) (rest := []) dX9_takesKey_116 lm_X9_245 ok_X9_go (by decide) (sz_lt (by decide)) kd_82 rfl rfl (w_X9_go X  m_112 _ h) rfl (Nat.le_of_ble_eq_true rfl) (fun m_116 h => ?_)
          refine gc_iconst (v := 1) dX9_takesKey_119 (by decide) ?_
          exact go_zret dX9_takesKey_120 rfl (by decide) (Nat.le_refl _) (Nat.le_refl _) ⟨true, rfl, h⟩
      · have h := h.2 hc
        refine gc_aload_n dX9_takesKey_65 rfl ?_
        refine go_getR dX9_takesKey_66 lg_X9_28 (sz_lt (by decide)) kd_82 rfl ?_
        refine gc_aload_n dX9_takesKey_69 rfl ?_
        refine go_getI dX9_takesKey_70 lg_X9_224 (sz_lt (by decide)) kd_82 rfl ?_
        refine gc_iload dX9_takesKey_73 rfl ?_
        refine gc_iadd dX9_takesKey_75 ?_
        obtain ⟨i_76, hx_76, hi_76, h⟩ := h
        refine go_iald i_76 dX9_takesKey_76 kd_89 hx_76 hi_76 ?_
        refine gc_aload_n dX9_takesKey_77 rfl ?_
        refine go_getR dX9_takesKey_78 lg_X9_31 (sz_lt (by decide)) kd_82 rfl ?_
        refine gc_aload_n dX9_takesKey_81 rfl ?_
        refine go_getR dX9_takesKey_82 lg_X9_35 (sz_lt (by decide)) kd_82 rfl ?_
        refine gc_iload_n dX9_takesKey_85 rfl ?_
        obtain ⟨i_86, hx_86, hi_86, h⟩ := h
        refine go_iald i_86 dX9_takesKey_86 kd_91 hx_86 hi_86 ?_
        refine gc_iload dX9_takesKey_87 rfl ?_
        refine gc_iadd dX9_takesKey_89 ?_
        obtain ⟨i_90, hx_90, hi_90, h⟩ := h
        refine go_cald i_90 dX9_takesKey_90 kd_90 hx_90 hi_90 ?_
        refine gc_icmp_ne 98 dX9_takesKey_91 (by decide) (fun hc => ?_) (fun hc => ?_)
        · have h := h.1 hc
          refine gc_iconst (v := 0) dX9_takesKey_98 (by decide) ?_
          refine gc_istore_n dX9_takesKey_99 (by decide) ?_
          refine gc_iinc (v := l4 + 1) dX9_takesKey_100 rfl rfl (by decide) ?_
          refine gc_goto 55 dX9_takesKey_103 (by decide) ?_
          exact ih l1 l2 0 (l4 + 1) mem  h
        · have h := h.2 hc
          refine gc_iconst (v := 1) dX9_takesKey_94 (by decide) ?_
          refine gc_goto 99 dX9_takesKey_95 (by decide) ?_
          refine gc_istore_n dX9_takesKey_99 (by decide) ?_
          refine gc_iinc (v := l4 + 1) dX9_takesKey_100 rfl rfl (by decide) ?_
          refine gc_goto 55 dX9_takesKey_103 (by decide) ?_
          exact ih l1 l2 1 (l4 + 1) mem  h
def L_X9_takesKey_12  (K : Bool → Mm → Prop) : Nat → Int32 → Mm → Prop
  | 0, _, _ => False
  | n + 1, l1, mem => (3 ≤ l1 → (K false mem)) ∧ (¬ 3 ≤ l1 → (∃ i_24 : Nat, (l1 + 1) = nI i_24 ∧ i_24 < 4 ∧ (∃ i_30 : Nat, l1 = nI i_30 ∧ i_30 < 4 ∧ ((¬ ((mem 91 i_24) - (mem 91 i_30)) = ((mem 82 10) - (mem 82 11)) → (∃ nz : Nat, L_X9_takesKey_55   (fun zl1 zm => L_X9_takesKey_12   K n zl1 zm) K nz l1 ((mem 91 i_24) - (mem 91 i_30)) 0 0 mem)) ∧ (((mem 91 i_24) - (mem 91 i_30)) = ((mem 82 10) - (mem 82 11)) → (∃ nz : Nat, L_X9_takesKey_55   (fun zl1 zm => L_X9_takesKey_12   K n zl1 zm) K nz l1 ((mem 91 i_24) - (mem 91 i_30)) 1 0 mem))))))
set_option maxRecDepth 100000 in
set_option maxHeartbeats 4000000 in
theorem l_X9_takesKey_12 (X : CX)   (K : Bool → Mm → Prop) : ∀ (n : Nat) (l1 : Int32) (mem : Mm), L_X9_takesKey_12    K n l1 mem → GoC X 2 0 0 M_X9_takesKey 12 [some (.ref (cx_n X + 82)), some (.int l1), none, none, none] [] 0 0 (cellAt X mem) (sz mem) (qm X (fun r m => ∃ b : Bool, r = some (.int (bZ b)) ∧ K b m))
  := by
  intro n
  induction n with
  | zero => intro l1 mem h; exact h.elim
  | succ n ih =>
    intro l1 mem h
    unfold L_X9_takesKey_12 at h
    refine gc_iload_n dX9_takesKey_12 rfl ?_
    refine gc_iconst (v := 3) dX9_takesKey_13 (by decide) ?_
    refine gc_icmp_ge 127 dX9_takesKey_14 (by decide) (fun hc => ?_) (fun hc => ?_)
    · have h := h.1 hc
      refine gc_iconst (v := 0) dX9_takesKey_127 (by decide) ?_
      exact go_zret dX9_takesKey_128 rfl (by decide) (Nat.le_refl _) (Nat.le_refl _) ⟨false, rfl, h⟩
    · have h := h.2 hc
      refine gc_aload_n dX9_takesKey_17 rfl ?_
      refine go_getR dX9_takesKey_18 lg_X9_35 (sz_lt (by decide)) kd_82 rfl ?_
      refine gc_iload_n dX9_takesKey_21 rfl ?_
      refine gc_iconst (v := 1) dX9_takesKey_22 (by decide) ?_
      refine gc_iadd dX9_takesKey_23 ?_
      obtain ⟨i_24, hx_24, hi_24, h⟩ := h
      refine go_iald i_24 dX9_takesKey_24 kd_91 hx_24 hi_24 ?_
      refine gc_aload_n dX9_takesKey_25 rfl ?_
      refine go_getR dX9_takesKey_26 lg_X9_35 (sz_lt (by decide)) kd_82 rfl ?_
      refine gc_iload_n dX9_takesKey_29 rfl ?_
      obtain ⟨i_30, hx_30, hi_30, h⟩ := h
      refine go_iald i_30 dX9_takesKey_30 kd_91 hx_30 hi_30 ?_
      refine gc_isub dX9_takesKey_31 ?_
      refine gc_istore_n dX9_takesKey_32 (by decide) ?_
      refine gc_iload_n dX9_takesKey_33 rfl ?_
      refine gc_aload_n dX9_takesKey_34 rfl ?_
      refine go_getI dX9_takesKey_35 lg_X9_221 (sz_lt (by decide)) kd_82 rfl ?_
      refine gc_aload_n dX9_takesKey_38 rfl ?_
      refine go_getI dX9_takesKey_39 lg_X9_224 (sz_lt (by decide)) kd_82 rfl ?_
      refine gc_isub dX9_takesKey_42 ?_
      refine gc_icmp_ne 50 dX9_takesKey_43 (by decide) (fun hc => ?_) (fun hc => ?_)
      · have h := h.1 hc
        refine gc_iconst (v := 0) dX9_takesKey_50 (by decide) ?_
        refine gc_istore_n dX9_takesKey_51 (by decide) ?_
        refine gc_iconst (v := 0) dX9_takesKey_52 (by decide) ?_
        refine gc_istore dX9_takesKey_53 (by decide) ?_
        obtain ⟨n9, h⟩ := h
        exact l_X9_takesKey_55 X    (fun zl1 zm => L_X9_takesKey_12   K n zl1 zm) K  ih n9 l1 ((mem 91 i_24) - (mem 91 i_30)) 0 0 mem  h
      · have h := h.2 hc
        refine gc_iconst (v := 1) dX9_takesKey_46 (by decide) ?_
        refine gc_goto 51 dX9_takesKey_47 (by decide) ?_
        refine gc_istore_n dX9_takesKey_51 (by decide) ?_
        refine gc_iconst (v := 0) dX9_takesKey_52 (by decide) ?_
        refine gc_istore dX9_takesKey_53 (by decide) ?_
        obtain ⟨n9, h⟩ := h
        exact l_X9_takesKey_55 X    (fun zl1 zm => L_X9_takesKey_12   K n zl1 zm) K  ih n9 l1 ((mem 91 i_24) - (mem 91 i_30)) 1 0 mem  h
def W_X9_takesKey  (mem : Mm) (K : Bool → Mm → Prop) : Prop := ((mem 82 12) = 1 → (∃ nz : Nat, L_X9_takesKey_12    K nz 0 mem)) ∧ (¬ (mem 82 12) = 1 → (K false mem))
set_option maxRecDepth 100000 in
set_option maxHeartbeats 4000000 in
theorem w_X9_takesKey (X : CX)  (mem : Mm) (K : Bool → Mm → Prop) (h : W_X9_takesKey  mem K) : CallsZ X 2 M_X9_takesKey [.ref (cx_n X + 82)] mem K := by
  unfold W_X9_takesKey at h
  refine CallsC.ofP 4 (by decide) rfl (Nat.le_of_ble_eq_true rfl) ?_
  refine gc_aload_n dX9_takesKey_0 rfl ?_
  refine go_getI dX9_takesKey_1 lg_X9_230 (sz_lt (by decide)) kd_82 rfl ?_
  refine gc_iconst (v := 1) dX9_takesKey_4 (by decide) ?_
  refine gc_icmp_eq 10 dX9_takesKey_5 (by decide) (fun hc => ?_) (fun hc => ?_)
  · have h := h.1 hc
    refine gc_iconst (v := 0) dX9_takesKey_10 (by decide) ?_
    refine gc_istore_n dX9_takesKey_11 (by decide) ?_
    obtain ⟨n9, h⟩ := h
    exact l_X9_takesKey_12 X     K   n9 0 mem  h
  · have h := h.2 hc
    refine gc_iconst (v := 0) dX9_takesKey_8 (by decide) ?_
    exact go_zret dX9_takesKey_9 rfl (by decide) (Nat.le_refl _) (Nat.le_refl _) ⟨false, rfl, h⟩
def W_X9_nameOf (p0 : Int32) (mem : Mm) (K : Int32 → Mm → Prop) : Prop := ((mem 82 15) = 0 → ((¬ p0 = 110 → ((¬ p0 = 119 → ((¬ p0 = 102 → ((¬ p0 = 115 → (K (-1) mem)) ∧ (p0 = 115 → (K 3 mem)))) ∧ (p0 = 102 → (K 2 mem)))) ∧ (p0 = 119 → (K 1 mem)))) ∧ (p0 = 110 → (K 0 mem)))) ∧ (¬ (mem 82 15) = 0 → (((mem 82 15) = 1 → ((¬ p0 = 102 → ((¬ p0 = 115 → (K (-1) mem)) ∧ (p0 = 115 → (K 1 mem)))) ∧ (p0 = 102 → (K 0 mem)))) ∧ (¬ (mem 82 15) = 1 → ((¬ p0 = 110 → ((¬ p0 = 119 → (K (-1) mem)) ∧ (p0 = 119 → (K 1 mem)))) ∧ (p0 = 110 → (K 0 mem))))))
set_option maxRecDepth 100000 in
set_option maxHeartbeats 4000000 in
theorem w_X9_nameOf (X : CX) (p0 : Int32) (mem : Mm) (K : Int32 → Mm → Prop) (h : W_X9_nameOf p0 mem K) : CallsI X 0 M_X9_nameOf [.ref (cx_n X + 82), .int p0] mem K := by
  unfold W_X9_nameOf at h
  refine CallsC.ofP 0 (by decide) rfl (Nat.le_of_ble_eq_true rfl) ?_
  refine gc_aload_n dX9_nameOf_0 rfl ?_
  refine go_getI dX9_nameOf_1 lg_X9_242 (sz_lt (by decide)) kd_82 rfl ?_
  by_cases hn0 : (mem 82 15) = 0
  · have h := h.1 hn0
    refine gc_lookup (off := 28) 32 dX9_nameOf_4 (by decide) (by rw [hn0]; rfl) (by decide) ?_
    refine gc_iload_n dX9_nameOf_32 rfl ?_
    refine gc_bipush (v := 110) dX9_nameOf_33 (by decide) ?_
    refine gc_icmp_ne 42 dX9_nameOf_35 (by decide) (fun hc => ?_) (fun hc => ?_)
    · have h := h.1 hc
      refine gc_iload_n dX9_nameOf_42 rfl ?_
      refine gc_bipush (v := 119) dX9_nameOf_43 (by decide) ?_
      refine gc_icmp_ne 52 dX9_nameOf_45 (by decide) (fun hc => ?_) (fun hc => ?_)
      · have h := h.1 hc
        refine gc_iload_n dX9_nameOf_52 rfl ?_
        refine gc_bipush (v := 102) dX9_nameOf_53 (by decide) ?_
        refine gc_icmp_ne 62 dX9_nameOf_55 (by decide) (fun hc => ?_) (fun hc => ?_)
        · have h := h.1 hc
          refine gc_iload_n dX9_nameOf_62 rfl ?_
          refine gc_bipush (v := 115) dX9_nameOf_63 (by decide) ?_
          refine gc_icmp_ne 72 dX9_nameOf_65 (by decide) (fun hc => ?_) (fun hc => ?_)
          · have h := h.1 hc
            refine gc_iconst (v := (-1)) dX9_nameOf_72 (by decide) ?_
            exact go_iret dX9_nameOf_73 rfl (Nat.le_refl _) (Nat.le_refl _) ⟨_, rfl, h⟩
          · have h := h.2 hc
            refine gc_iconst (v := 3) dX9_nameOf_68 (by decide) ?_
            refine gc_goto 73 dX9_nameOf_69 (by decide) ?_
            exact go_iret dX9_nameOf_73 rfl (Nat.le_refl _) (Nat.le_refl _) ⟨_, rfl, h⟩
        · have h := h.2 hc
          refine gc_iconst (v := 2) dX9_nameOf_58 (by decide) ?_
          refine gc_goto 73 dX9_nameOf_59 (by decide) ?_
          exact go_iret dX9_nameOf_73 rfl (Nat.le_refl _) (Nat.le_refl _) ⟨_, rfl, h⟩
      · have h := h.2 hc
        refine gc_iconst (v := 1) dX9_nameOf_48 (by decide) ?_
        refine gc_goto 73 dX9_nameOf_49 (by decide) ?_
        exact go_iret dX9_nameOf_73 rfl (Nat.le_refl _) (Nat.le_refl _) ⟨_, rfl, h⟩
    · have h := h.2 hc
      refine gc_iconst (v := 0) dX9_nameOf_38 (by decide) ?_
      refine gc_goto 73 dX9_nameOf_39 (by decide) ?_
      exact go_iret dX9_nameOf_73 rfl (Nat.le_refl _) (Nat.le_refl _) ⟨_, rfl, h⟩
  · have h := h.2 hn0
    have hq0 := tab_ne hn0 (a := 0) (by decide)
    by_cases hn1 : (mem 82 15) = 1
    · have h := h.1 hn1
      refine gc_lookup (off := 70) 74 dX9_nameOf_4 (by decide) (by rw [hn1]; rfl) (by decide) ?_
      refine gc_iload_n dX9_nameOf_74 rfl ?_
      refine gc_bipush (v := 102) dX9_nameOf_75 (by decide) ?_
      refine gc_icmp_ne 84 dX9_nameOf_77 (by decide) (fun hc => ?_) (fun hc => ?_)
      · have h := h.1 hc
        refine gc_iload_n dX9_nameOf_84 rfl ?_
        refine gc_bipush (v := 115) dX9_nameOf_85 (by decide) ?_
        refine gc_icmp_ne 94 dX9_nameOf_87 (by decide) (fun hc => ?_) (fun hc => ?_)
        · have h := h.1 hc
          refine gc_iconst (v := (-1)) dX9_nameOf_94 (by decide) ?_
          exact go_iret dX9_nameOf_95 rfl (Nat.le_refl _) (Nat.le_refl _) ⟨_, rfl, h⟩
        · have h := h.2 hc
          refine gc_iconst (v := 1) dX9_nameOf_90 (by decide) ?_
          refine gc_goto 95 dX9_nameOf_91 (by decide) ?_
          exact go_iret dX9_nameOf_95 rfl (Nat.le_refl _) (Nat.le_refl _) ⟨_, rfl, h⟩
      · have h := h.2 hc
        refine gc_iconst (v := 0) dX9_nameOf_80 (by decide) ?_
        refine gc_goto 95 dX9_nameOf_81 (by decide) ?_
        exact go_iret dX9_nameOf_95 rfl (Nat.le_refl _) (Nat.le_refl _) ⟨_, rfl, h⟩
    · have h := h.2 hn1
      have hq1 := tab_ne hn1 (a := 1) (by decide)
      refine gc_lookup (off := 92) 96 dX9_nameOf_4 (by decide) (by show Op.lookupswitch.offset [(0, 28), (1, 70)] 92 _ = 92; rw [lv_osw (k := (0)) hn0 (by decide), lv_osw (k := (1)) hn1 (by decide)]; rfl) (by decide) ?_
      refine gc_iload_n dX9_nameOf_96 rfl ?_
      refine gc_bipush (v := 110) dX9_nameOf_97 (by decide) ?_
      refine gc_icmp_ne 106 dX9_nameOf_99 (by decide) (fun hc => ?_) (fun hc => ?_)
      · have h := h.1 hc
        refine gc_iload_n dX9_nameOf_106 rfl ?_
        refine gc_bipush (v := 119) dX9_nameOf_107 (by decide) ?_
        refine gc_icmp_ne 116 dX9_nameOf_109 (by decide) (fun hc => ?_) (fun hc => ?_)
        · have h := h.1 hc
          refine gc_iconst (v := (-1)) dX9_nameOf_116 (by decide) ?_
          exact go_iret dX9_nameOf_117 rfl (Nat.le_refl _) (Nat.le_refl _) ⟨_, rfl, h⟩
        · have h := h.2 hc
          refine gc_iconst (v := 1) dX9_nameOf_112 (by decide) ?_
          refine gc_goto 117 dX9_nameOf_113 (by decide) ?_
          exact go_iret dX9_nameOf_117 rfl (Nat.le_refl _) (Nat.le_refl _) ⟨_, rfl, h⟩
      · have h := h.2 hc
        refine gc_iconst (v := 0) dX9_nameOf_102 (by decide) ?_
        refine gc_goto 117 dX9_nameOf_103 (by decide) ?_
        exact go_iret dX9_nameOf_117 rfl (Nat.le_refl _) (Nat.le_refl _) ⟨_, rfl, h⟩
def W_X9_rank (p0 : Int32) (mem : Mm) (K : Int32 → Mm → Prop) : Prop := (¬ p0 = (-1) → ((¬ p0 = (-2) → ((p0 < (-5) → ((p0 < (-7) → ((p0 < (-9) → (K 6 mem)) ∧ (¬ p0 < (-9) → (K 5 mem)))) ∧ (¬ p0 < (-7) → (K 4 mem)))) ∧ (¬ p0 < (-5) → (K 3 mem)))) ∧ (p0 = (-2) → (K 2 mem)))) ∧ (p0 = (-1) → (K 1 mem))
set_option maxRecDepth 100000 in
set_option maxHeartbeats 4000000 in
theorem w_X9_rank (X : CX) (p0 : Int32) (mem : Mm) (K : Int32 → Mm → Prop) (h : W_X9_rank p0 mem K) : CallsI X 0 M_X9_rank [.int p0] mem K := by
  unfold W_X9_rank at h
  refine CallsC.ofP 0 (by decide) rfl (Nat.le_of_ble_eq_true rfl) ?_
  refine gc_iload_n dX9_rank_0 rfl ?_
  refine gc_iconst (v := (-1)) dX9_rank_1 (by decide) ?_
  refine gc_icmp_ne 9 dX9_rank_2 (by decide) (fun hc => ?_) (fun hc => ?_)
  · have h := h.1 hc
    refine gc_iload_n dX9_rank_9 rfl ?_
    refine gc_bipush (v := (-2)) dX9_rank_10 (by decide) ?_
    refine gc_icmp_ne 19 dX9_rank_12 (by decide) (fun hc => ?_) (fun hc => ?_)
    · have h := h.1 hc
      refine gc_iload_n dX9_rank_19 rfl ?_
      refine gc_bipush (v := (-5)) dX9_rank_20 (by decide) ?_
      refine gc_icmp_lt 29 dX9_rank_22 (by decide) (fun hc => ?_) (fun hc => ?_)
      · have h := h.1 hc
        refine gc_iload_n dX9_rank_29 rfl ?_
        refine gc_bipush (v := (-7)) dX9_rank_30 (by decide) ?_
        refine gc_icmp_lt 39 dX9_rank_32 (by decide) (fun hc => ?_) (fun hc => ?_)
        · have h := h.1 hc
          refine gc_iload_n dX9_rank_39 rfl ?_
          refine gc_bipush (v := (-9)) dX9_rank_40 (by decide) ?_
          refine gc_icmp_lt 49 dX9_rank_42 (by decide) (fun hc => ?_) (fun hc => ?_)
          · have h := h.1 hc
            refine gc_bipush (v := 6) dX9_rank_49 (by decide) ?_
            exact go_iret dX9_rank_51 rfl (Nat.le_refl _) (Nat.le_refl _) ⟨_, rfl, h⟩
          · have h := h.2 hc
            refine gc_iconst (v := 5) dX9_rank_45 (by decide) ?_
            refine gc_goto 51 dX9_rank_46 (by decide) ?_
            exact go_iret dX9_rank_51 rfl (Nat.le_refl _) (Nat.le_refl _) ⟨_, rfl, h⟩
        · have h := h.2 hc
          refine gc_iconst (v := 4) dX9_rank_35 (by decide) ?_
          refine gc_goto 51 dX9_rank_36 (by decide) ?_
          exact go_iret dX9_rank_51 rfl (Nat.le_refl _) (Nat.le_refl _) ⟨_, rfl, h⟩
      · have h := h.2 hc
        refine gc_iconst (v := 3) dX9_rank_25 (by decide) ?_
        refine gc_goto 51 dX9_rank_26 (by decide) ?_
        exact go_iret dX9_rank_51 rfl (Nat.le_refl _) (Nat.le_refl _) ⟨_, rfl, h⟩
    · have h := h.2 hc
      refine gc_iconst (v := 2) dX9_rank_15 (by decide) ?_
      refine gc_goto 51 dX9_rank_16 (by decide) ?_
      exact go_iret dX9_rank_51 rfl (Nat.le_refl _) (Nat.le_refl _) ⟨_, rfl, h⟩
  · have h := h.2 hc
    refine gc_iconst (v := 1) dX9_rank_5 (by decide) ?_
    refine gc_goto 51 dX9_rank_6 (by decide) ?_
    exact go_iret dX9_rank_51 rfl (Nat.le_refl _) (Nat.le_refl _) ⟨_, rfl, h⟩
def L_X9_settle_0 (p0 : Int32) (K : Mm → Prop) : Nat → Int32 → Mm → Prop
  | 0, _, _ => False
  | n + 1, l1, mem => ((mem 82 22) ≤ 0 → (K mem)) ∧ (¬ (mem 82 22) ≤ 0 → (∃ i_17 : Nat, ((mem 82 22) - 1) = nI i_17 ∧ i_17 < 96 ∧ (((mem 93 i_17) = (-11) → (K mem)) ∧ (¬ (mem 93 i_17) = (-11) → (∃ i_33 : Nat, ((mem 82 22) - 1) = nI i_33 ∧ i_33 < 96 ∧ (W_X9_rank (mem 93 i_33) mem (fun v_34 m_34 => (v_34 < l1 → (K m_34)) ∧ (¬ v_34 < l1 → (∀ m_48 : Mm, m_48 = mu m_34 82 22 ((m_34 82 22) - 1) → (∃ i_67 : Nat, (m_48 82 22) = nI i_67 ∧ i_67 < 96 ∧ (∃ i_68 : Nat, (m_48 82 19) = nI i_68 ∧ i_68 < 96 ∧ (∀ m_68 : Mm, m_68 = mu m_48 92 i_68 (m_48 93 i_67) → (∀ m_76 : Mm, m_76 = mu m_68 82 19 ((m_68 82 19) + 1) → (L_X9_settle_0 p0  K n l1 m_76))))))))))))))
set_option maxRecDepth 100000 in
set_option maxHeartbeats 4000000 in
theorem l_X9_settle_0 (X : CX) (p0 : Int32)  (K : Mm → Prop) : ∀ (n : Nat) (l1 : Int32) (mem : Mm), L_X9_settle_0 p0   K n l1 mem → GoC X 1 0 0 M_X9_settle 0 [some (.ref (cx_n X + 82)), some (.int l1)] [] 0 0 (cellAt X mem) (sz mem) (qm X (fun r m => r = none ∧ K m))
  := by
  intro n
  induction n with
  | zero => intro l1 mem h; exact h.elim
  | succ n ih =>
    intro l1 mem h
    unfold L_X9_settle_0 at h
    refine gc_aload_n dX9_settle_0 rfl ?_
    refine go_getI dX9_settle_1 lg_X9_248 (sz_lt (by decide)) kd_82 rfl ?_
    refine gc_if_le 82 dX9_settle_4 (by decide) (fun hc => ?_) (fun hc => ?_)
    · have h := h.1 hc
      exact go_vret dX9_settle_82 rfl (Nat.le_refl _) (Nat.le_refl _) ⟨rfl, h⟩
    · have h := h.2 hc
      refine gc_aload_n dX9_settle_7 rfl ?_
      refine go_getR dX9_settle_8 lg_X9_41 (sz_lt (by decide)) kd_82 rfl ?_
      refine gc_aload_n dX9_settle_11 rfl ?_
      refine go_getI dX9_settle_12 lg_X9_248 (sz_lt (by decide)) kd_82 rfl ?_
      refine gc_iconst (v := 1) dX9_settle_15 (by decide) ?_
      refine gc_isub dX9_settle_16 ?_
      obtain ⟨i_17, hx_17, hi_17, h⟩ := h
      refine go_iald i_17 dX9_settle_17 kd_93 hx_17 hi_17 ?_
      refine gc_bipush (v := (-11)) dX9_settle_18 (by decide) ?_
      refine gc_icmp_eq 82 dX9_settle_20 (by decide) (fun hc => ?_) (fun hc => ?_)
      · have h := h.1 hc
        exact go_vret dX9_settle_82 rfl (Nat.le_refl _) (Nat.le_refl _) ⟨rfl, h⟩
      · have h := h.2 hc
        refine gc_aload_n dX9_settle_23 rfl ?_
        refine go_getR dX9_settle_24 lg_X9_41 (sz_lt (by decide)) kd_82 rfl ?_
        refine gc_aload_n dX9_settle_27 rfl ?_
        refine go_getI dX9_settle_28 lg_X9_248 (sz_lt (by decide)) kd_82 rfl ?_
        refine gc_iconst (v := 1) dX9_settle_31 (by decide) ?_
        refine gc_isub dX9_settle_32 ?_
        obtain ⟨i_33, hx_33, hi_33, h⟩ := h
        refine go_iald i_33 dX9_settle_33 kd_93 hx_33 hi_33 ?_
        refine go_cSI (y := M_X9_rank) (As := [.int (mem 93 i_33)]) (rest := []) dX9_settle_34 lm_X9_251 ok_X9_rank (by decide) (w_X9_rank X (mem 93 i_33) mem _ h) rfl (Nat.le_of_ble_eq_true rfl) (fun v_34 m_34 h => ?_)
        refine gc_iload_n dX9_settle_37 rfl ?_
        refine gc_icmp_lt 82 dX9_settle_38 (by decide) (fun hc => ?_) (fun hc => ?_)
        · have h := h.1 hc
          exact go_vret dX9_settle_82 rfl (Nat.le_refl _) (Nat.le_refl _) ⟨rfl, h⟩
        · have h := h.2 hc
          refine gc_aload_n dX9_settle_41 rfl ?_
          refine gc_dup dX9_settle_42 rfl ?_
          refine go_getI dX9_settle_43 lg_X9_248 (sz_lt (by decide)) kd_82 rfl ?_
          refine gc_iconst (v := 1) dX9_settle_46 (by decide) ?_
          refine gc_isub dX9_settle_47 ?_
          refine go_putI_ dX9_settle_48 lp_X9_248 (sz_lt (by decide)) kd_82 rfl (fun m_48 em_48 => ?_)
          have h := h m_48 em_48
          refine gc_aload_n dX9_settle_51 rfl ?_
          refine go_getR dX9_settle_52 lg_X9_38 (sz_lt (by decide)) kd_82 rfl ?_
          refine gc_aload_n dX9_settle_55 rfl ?_
          refine go_getI dX9_settle_56 lg_X9_254 (sz_lt (by decide)) kd_82 rfl ?_
          refine gc_aload_n dX9_settle_59 rfl ?_
          refine go_getR dX9_settle_60 lg_X9_41 (sz_lt (by decide)) kd_82 rfl ?_
          refine gc_aload_n dX9_settle_63 rfl ?_
          refine go_getI dX9_settle_64 lg_X9_248 (sz_lt (by decide)) kd_82 rfl ?_
          obtain ⟨i_67, hx_67, hi_67, h⟩ := h
          refine go_iald i_67 dX9_settle_67 kd_93 hx_67 hi_67 ?_
          obtain ⟨i_68, hx_68, hi_68, h⟩ := h
          refine go_iast_ i_68 dX9_settle_68 kd_92 hx_68 hi_68 (by decide) (fun m_68 em_68 => ?_)
          have h := h m_68 em_68
          refine gc_aload_n dX9_settle_69 rfl ?_
          refine gc_dup dX9_settle_70 rfl ?_
          refine go_getI dX9_settle_71 lg_X9_254 (sz_lt (by decide)) kd_82 rfl ?_
          refine gc_iconst (v := 1) dX9_settle_74 (by decide) ?_
          refine gc_iadd dX9_settle_75 ?_
          refine go_putI_ dX9_settle_76 lp_X9_254 (sz_lt (by decide)) kd_82 rfl (fun m_76 em_76 => ?_)
          have h := h m_76 em_76
          refine gc_goto 0 dX9_settle_79 (by decide) ?_
          exact ih l1 m_76  h
def W_X9_settle (p0 : Int32) (mem : Mm) (K : Mm → Prop) : Prop := ∃ nz : Nat, L_X9_settle_0 p0   K nz p0 mem
set_option maxRecDepth 100000 in
set_option maxHeartbeats 4000000 in
theorem w_X9_settle (X : CX) (p0 : Int32) (mem : Mm) (K : Mm → Prop) (h : W_X9_settle p0 mem K) : CallsU X 1 M_X9_settle [.ref (cx_n X + 82), .int p0] mem K := by
  unfold W_X9_settle at h
  refine CallsC.ofP 0 (by decide) rfl (Nat.le_of_ble_eq_true rfl) ?_
  obtain ⟨n9, h⟩ := h
  exact l_X9_settle_0 X p0    K   n9 p0 mem  h
def B_X9_takesPart_87  (K : Bool → Mm → Prop) (s0 : Int32) (s1 : Int32) (mem : Mm) : Prop := ∃ i_87 : Nat, s1 = nI i_87 ∧ i_87 < 96 ∧ (∀ m_87 : Mm, m_87 = mu mem 92 i_87 s0 → (∀ m_95 : Mm, m_95 = mu m_87 82 19 ((m_87 82 19) + 1) → (∀ m_105 : Mm, m_105 = mu m_95 82 20 ((m_95 82 20) + 1) → (W_X9_settle 6 m_105 (fun m_111 => W_X9_go  m_111 (fun m_115 => K true m_115))))))
set_option maxRecDepth 100000 in
set_option maxHeartbeats 4000000 in
theorem b_X9_takesPart_87 (X : CX)   (K : Bool → Mm → Prop) (s0 : Int32) (s1 : Int32) (mem : Mm)  (h : B_X9_takesPart_87    K s0 s1 mem) : GoC X 2 0 0 M_X9_takesPart 87 [some (.ref (cx_n X + 82)), none] [.int s0, .int s1, .ref (cx_n X + 92)] 0 0 (cellAt X mem) (sz mem) (qm X (fun r m => ∃ b : Bool, r = some (.int (bZ b)) ∧ K b m)) := by
  unfold B_X9_takesPart_87 at h
  obtain ⟨i_87, hx_87, hi_87, h⟩ := h
  refine go_iast_ i_87 dX9_takesPart_87 kd_92 hx_87 hi_87 (by decide) (fun m_87 em_87 => ?_)
  have h := h m_87 em_87
  refine gc_aload_n dX9_takesPart_88 rfl ?_
  refine gc_dup dX9_takesPart_89 rfl ?_
  refine go_getI dX9_takesPart_90 lg_X9_254 (sz_lt (by decide)) kd_82 rfl ?_
  refine gc_iconst (v := 1) dX9_takesPart_93 (by decide) ?_
  refine gc_iadd dX9_takesPart_94 ?_
  refine go_putI_ dX9_takesPart_95 lp_X9_254 (sz_lt (by decide)) kd_82 rfl (fun m_95 em_95 => ?_)
  have h := h m_95 em_95
  refine gc_aload_n dX9_takesPart_98 rfl ?_
  refine gc_dup dX9_takesPart_99 rfl ?_
  refine go_getI dX9_takesPart_100 lg_X9_260 (sz_lt (by decide)) kd_82 rfl ?_
  refine gc_iconst (v := 1) dX9_takesPart_103 (by decide) ?_
  refine gc_iadd dX9_takesPart_104 ?_
  refine go_putI_ dX9_takesPart_105 lp_X9_260 (sz_lt (by decide)) kd_82 rfl (fun m_105 em_105 => ?_)
  have h := h m_105 em_105
  refine gc_aload_n dX9_takesPart_108 rfl ?_
  refine gc_bipush (v := 6) dX9_takesPart_109 (by decide) ?_
  refine go_cVU (y := M_X9_settle) (As := [.int 6]) (rest := []) dX9_takesPart_111 lm_X9_263 ok_X9_settle (by decide) (sz_lt (by decide)) kd_82 rfl rfl (w_X9_settle X 6 m_105 _ h) rfl (Nat.le_of_ble_eq_true rfl) (fun m_111 h => ?_)
  refine gc_aload_n dX9_takesPart_114 rfl ?_
  refine go_cVU (y := M_X9_go) (As := []) (rest := []) dX9_takesPart_115 lm_X9_245 ok_X9_go (by decide) (sz_lt (by decide)) kd_82 rfl rfl (w_X9_go X  m_111 _ h) rfl (Nat.le_of_ble_eq_true rfl) (fun m_115 h => ?_)
  refine gc_iconst (v := 1) dX9_takesPart_118 (by decide) ?_
  exact go_zret dX9_takesPart_119 rfl (by decide) (Nat.le_refl _) (Nat.le_refl _) ⟨true, rfl, h⟩
def B_X9_takesPart_52  (K : Bool → Mm → Prop)  (mem : Mm) : Prop := (¬ (mem 82 12) = 2 → (W_X9_nameOf (mem 82 13) mem (fun v_83 m_83 => B_X9_takesPart_87    K (10000 + v_83) (mem 82 19) m_83))) ∧ ((mem 82 12) = 2 → (B_X9_takesPart_87    K (mem 82 13) (mem 82 19) mem))
set_option maxRecDepth 100000 in
set_option maxHeartbeats 4000000 in
theorem b_X9_takesPart_52 (X : CX)   (K : Bool → Mm → Prop)  (mem : Mm)  (h : B_X9_takesPart_52    K  mem) : GoC X 2 0 0 M_X9_takesPart 52 [some (.ref (cx_n X + 82)), none] [] 0 0 (cellAt X mem) (sz mem) (qm X (fun r m => ∃ b : Bool, r = some (.int (bZ b)) ∧ K b m)) := by
  unfold B_X9_takesPart_52 at h
  refine gc_aload_n dX9_takesPart_52 rfl ?_
  refine go_getR dX9_takesPart_53 lg_X9_38 (sz_lt (by decide)) kd_82 rfl ?_
  refine gc_aload_n dX9_takesPart_56 rfl ?_
  refine go_getI dX9_takesPart_57 lg_X9_254 (sz_lt (by decide)) kd_82 rfl ?_
  refine gc_aload_n dX9_takesPart_60 rfl ?_
  refine go_getI dX9_takesPart_61 lg_X9_230 (sz_lt (by decide)) kd_82 rfl ?_
  refine gc_iconst (v := 2) dX9_takesPart_64 (by decide) ?_
  refine gc_icmp_ne 75 dX9_takesPart_65 (by decide) (fun hc => ?_) (fun hc => ?_)
  · have h := h.1 hc
    refine gc_sipush (v := 10000) dX9_takesPart_75 (by decide) ?_
    refine gc_aload_n dX9_takesPart_78 rfl ?_
    refine gc_aload_n dX9_takesPart_79 rfl ?_
    refine go_getI dX9_takesPart_80 lg_X9_236 (sz_lt (by decide)) kd_82 rfl ?_
    refine go_cVI (y := M_X9_nameOf) (As := [.int (mem 82 13)]) (rest := [.int 10000, .int (mem 82 19), .ref (cx_n X + 92)]) dX9_takesPart_83 lm_X9_257 ok_X9_nameOf (by decide) (sz_lt (by decide)) kd_82 rfl rfl (w_X9_nameOf X (mem 82 13) mem _ h) rfl (Nat.le_of_ble_eq_true rfl) (fun v_83 m_83 h => ?_)
    refine gc_iadd dX9_takesPart_86 ?_
    exact b_X9_takesPart_87 X     K   (10000 + v_83) (mem 82 19) m_83  h
  · have h := h.2 hc
    refine gc_aload_n dX9_takesPart_68 rfl ?_
    refine go_getI dX9_takesPart_69 lg_X9_236 (sz_lt (by decide)) kd_82 rfl ?_
    refine gc_goto 87 dX9_takesPart_72 (by decide) ?_
    exact b_X9_takesPart_87 X     K   (mem 82 13) (mem 82 19) mem  h
def W_X9_takesPart  (mem : Mm) (K : Bool → Mm → Prop) : Prop := (¬ (mem 82 12) = 1 → (((mem 82 12) = 2 → (B_X9_takesPart_52    K  mem)) ∧ (¬ (mem 82 12) = 2 → (K false mem)))) ∧ ((mem 82 12) = 1 → ((¬ ((mem 82 10) - (mem 82 11)) = 1 → (((mem 82 12) = 2 → (B_X9_takesPart_52    K  mem)) ∧ (¬ (mem 82 12) = 2 → (K false mem)))) ∧ (((mem 82 10) - (mem 82 11)) = 1 → (W_X9_nameOf (mem 82 13) mem (fun v_26 m_26 => (v_26 < 0 → (((m_26 82 12) = 2 → (B_X9_takesPart_52    K  m_26)) ∧ (¬ (m_26 82 12) = 2 → (K false m_26)))) ∧ (¬ v_26 < 0 → (((m_26 82 12) = 2 → (B_X9_takesPart_52    K  m_26)) ∧ (¬ (m_26 82 12) = 2 → (B_X9_takesPart_52    K  m_26)))))))))
set_option maxRecDepth 100000 in
set_option maxHeartbeats 4000000 in
theorem w_X9_takesPart (X : CX)  (mem : Mm) (K : Bool → Mm → Prop) (h : W_X9_takesPart  mem K) : CallsZ X 2 M_X9_takesPart [.ref (cx_n X + 82)] mem K := by
  unfold W_X9_takesPart at h
  refine CallsC.ofP 1 (by decide) rfl (Nat.le_of_ble_eq_true rfl) ?_
  refine gc_aload_n dX9_takesPart_0 rfl ?_
  refine go_getI dX9_takesPart_1 lg_X9_230 (sz_lt (by decide)) kd_82 rfl ?_
  refine gc_iconst (v := 1) dX9_takesPart_4 (by decide) ?_
  refine gc_icmp_ne 36 dX9_takesPart_5 (by decide) (fun hc => ?_) (fun hc => ?_)
  · have h := h.1 hc
    refine gc_iconst (v := 0) dX9_takesPart_36 (by decide) ?_
    refine gc_istore_n dX9_takesPart_37 (by decide) ?_
    refine gc_aload_n dX9_takesPart_38 rfl ?_
    refine go_getI dX9_takesPart_39 lg_X9_230 (sz_lt (by decide)) kd_82 rfl ?_
    refine gc_iconst (v := 2) dX9_takesPart_42 (by decide) ?_
    refine gc_icmp_eq 52 dX9_takesPart_43 (by decide) (fun hc => ?_) (fun hc => ?_)
    · have h := h.1 hc
      refine gc_forget 1 ?_
      exact b_X9_takesPart_52 X     K    mem  h
    · have h := h.2 hc
      refine gc_iload_n dX9_takesPart_46 rfl ?_
      refine gc_if_ne 52 dX9_takesPart_47 (by decide) (fun hc => absurd hc (by decide)) (fun hc => ?_)
      refine gc_iconst (v := 0) dX9_takesPart_50 (by decide) ?_
      exact go_zret dX9_takesPart_51 rfl (by decide) (Nat.le_refl _) (Nat.le_refl _) ⟨false, rfl, h⟩
  · have h := h.2 hc
    refine gc_aload_n dX9_takesPart_8 rfl ?_
    refine go_getI dX9_takesPart_9 lg_X9_221 (sz_lt (by decide)) kd_82 rfl ?_
    refine gc_aload_n dX9_takesPart_12 rfl ?_
    refine go_getI dX9_takesPart_13 lg_X9_224 (sz_lt (by decide)) kd_82 rfl ?_
    refine gc_isub dX9_takesPart_16 ?_
    refine gc_iconst (v := 1) dX9_takesPart_17 (by decide) ?_
    refine gc_icmp_ne 36 dX9_takesPart_18 (by decide) (fun hc => ?_) (fun hc => ?_)
    · have h := h.1 hc
      refine gc_iconst (v := 0) dX9_takesPart_36 (by decide) ?_
      refine gc_istore_n dX9_takesPart_37 (by decide) ?_
      refine gc_aload_n dX9_takesPart_38 rfl ?_
      refine go_getI dX9_takesPart_39 lg_X9_230 (sz_lt (by decide)) kd_82 rfl ?_
      refine gc_iconst (v := 2) dX9_takesPart_42 (by decide) ?_
      refine gc_icmp_eq 52 dX9_takesPart_43 (by decide) (fun hc => ?_) (fun hc => ?_)
      · have h := h.1 hc
        refine gc_forget 1 ?_
        exact b_X9_takesPart_52 X     K    mem  h
      · have h := h.2 hc
        refine gc_iload_n dX9_takesPart_46 rfl ?_
        refine gc_if_ne 52 dX9_takesPart_47 (by decide) (fun hc => absurd hc (by decide)) (fun hc => ?_)
        refine gc_iconst (v := 0) dX9_takesPart_50 (by decide) ?_
        exact go_zret dX9_takesPart_51 rfl (by decide) (Nat.le_refl _) (Nat.le_refl _) ⟨false, rfl, h⟩
    · have h := h.2 hc
      refine gc_aload_n dX9_takesPart_21 rfl ?_
      refine gc_aload_n dX9_takesPart_22 rfl ?_
      refine go_getI dX9_takesPart_23 lg_X9_236 (sz_lt (by decide)) kd_82 rfl ?_
      refine go_cVI (y := M_X9_nameOf) (As := [.int (mem 82 13)]) (rest := []) dX9_takesPart_26 lm_X9_257 ok_X9_nameOf (by decide) (sz_lt (by decide)) kd_82 rfl rfl (w_X9_nameOf X (mem 82 13) mem _ h) rfl (Nat.le_of_ble_eq_true rfl) (fun v_26 m_26 h => ?_)
      refine gc_if_lt 36 dX9_takesPart_29 (by decide) (fun hc => ?_) (fun hc => ?_)
      · have h := h.1 hc
        refine gc_iconst (v := 0) dX9_takesPart_36 (by decide) ?_
        refine gc_istore_n dX9_takesPart_37 (by decide) ?_
        refine gc_aload_n dX9_takesPart_38 rfl ?_
        refine go_getI dX9_takesPart_39 lg_X9_230 (sz_lt (by decide)) kd_82 rfl ?_
        refine gc_iconst (v := 2) dX9_takesPart_42 (by decide) ?_
        refine gc_icmp_eq 52 dX9_takesPart_43 (by decide) (fun hc => ?_) (fun hc => ?_)
        · have h := h.1 hc
          refine gc_forget 1 ?_
          exact b_X9_takesPart_52 X     K    m_26  h
        · have h := h.2 hc
          refine gc_iload_n dX9_takesPart_46 rfl ?_
          refine gc_if_ne 52 dX9_takesPart_47 (by decide) (fun hc => absurd hc (by decide)) (fun hc => ?_)
          refine gc_iconst (v := 0) dX9_takesPart_50 (by decide) ?_
          exact go_zret dX9_takesPart_51 rfl (by decide) (Nat.le_refl _) (Nat.le_refl _) ⟨false, rfl, h⟩
      · have h := h.2 hc
        refine gc_iconst (v := 1) dX9_takesPart_32 (by decide) ?_
        refine gc_goto 37 dX9_takesPart_33 (by decide) ?_
        refine gc_istore_n dX9_takesPart_37 (by decide) ?_
        refine gc_aload_n dX9_takesPart_38 rfl ?_
        refine go_getI dX9_takesPart_39 lg_X9_230 (sz_lt (by decide)) kd_82 rfl ?_
        refine gc_iconst (v := 2) dX9_takesPart_42 (by decide) ?_
        refine gc_icmp_eq 52 dX9_takesPart_43 (by decide) (fun hc => ?_) (fun hc => ?_)
        · have h := h.1 hc
          refine gc_forget 1 ?_
          exact b_X9_takesPart_52 X     K    m_26  h
        · have h := h.2 hc
          refine gc_iload_n dX9_takesPart_46 rfl ?_
          refine gc_if_ne 52 dX9_takesPart_47 (by decide) (fun hc => ?_) (fun hc => absurd hc (by decide))
          refine gc_forget 1 ?_
          exact b_X9_takesPart_52 X     K    m_26  h
def L_X9_notsOpen_4  (K : Int32 → Mm → Prop) : Nat → Int32 → Int32 → Mm → Prop
  | 0, _, _, _ => False
  | n + 1, l1, l2, mem => ((mem 82 22) ≤ l2 → (K l1 mem)) ∧ (¬ (mem 82 22) ≤ l2 → (∃ i_18 : Nat, l2 = nI i_18 ∧ i_18 < 96 ∧ ((¬ (mem 93 i_18) = (-10) → (L_X9_notsOpen_4   K n (l1 + 0) (l2 + 1) mem)) ∧ ((mem 93 i_18) = (-10) → (L_X9_notsOpen_4   K n (l1 + 1) (l2 + 1) mem)))))
set_option maxRecDepth 100000 in
set_option maxHeartbeats 4000000 in
theorem l_X9_notsOpen_4 (X : CX)   (K : Int32 → Mm → Prop) : ∀ (n : Nat) (l1 : Int32) (l2 : Int32) (mem : Mm), L_X9_notsOpen_4    K n l1 l2 mem → GoC X 0 0 0 M_X9_notsOpen 4 [some (.ref (cx_n X + 82)), some (.int l1), some (.int l2)] [] 0 0 (cellAt X mem) (sz mem) (qm X (fun r m => ∃ v : Int32, r = some (.int v) ∧ K v m))
  := by
  intro n
  induction n with
  | zero => intro l1 l2 mem h; exact h.elim
  | succ n ih =>
    intro l1 l2 mem h
    unfold L_X9_notsOpen_4 at h
    refine gc_iload_n dX9_notsOpen_4 rfl ?_
    refine gc_aload_n dX9_notsOpen_5 rfl ?_
    refine go_getI dX9_notsOpen_6 lg_X9_248 (sz_lt (by decide)) kd_82 rfl ?_
    refine gc_icmp_ge 37 dX9_notsOpen_9 (by decide) (fun hc => ?_) (fun hc => ?_)
    · have h := h.1 hc
      refine gc_iload_n dX9_notsOpen_37 rfl ?_
      exact go_iret dX9_notsOpen_38 rfl (Nat.le_refl _) (Nat.le_refl _) ⟨_, rfl, h⟩
    · have h := h.2 hc
      refine gc_iload_n dX9_notsOpen_12 rfl ?_
      refine gc_aload_n dX9_notsOpen_13 rfl ?_
      refine go_getR dX9_notsOpen_14 lg_X9_41 (sz_lt (by decide)) kd_82 rfl ?_
      refine gc_iload_n dX9_notsOpen_17 rfl ?_
      obtain ⟨i_18, hx_18, hi_18, h⟩ := h
      refine go_iald i_18 dX9_notsOpen_18 kd_93 hx_18 hi_18 ?_
      refine gc_bipush (v := (-10)) dX9_notsOpen_19 (by decide) ?_
      refine gc_icmp_ne 28 dX9_notsOpen_21 (by decide) (fun hc => ?_) (fun hc => ?_)
      · have h := h.1 hc
        refine gc_iconst (v := 0) dX9_notsOpen_28 (by decide) ?_
        refine gc_iadd dX9_notsOpen_29 ?_
        refine gc_istore_n dX9_notsOpen_30 (by decide) ?_
        refine gc_iinc (v := l2 + 1) dX9_notsOpen_31 rfl rfl (by decide) ?_
        refine gc_goto 4 dX9_notsOpen_34 (by decide) ?_
        exact ih (l1 + 0) (l2 + 1) mem  h
      · have h := h.2 hc
        refine gc_iconst (v := 1) dX9_notsOpen_24 (by decide) ?_
        refine gc_goto 29 dX9_notsOpen_25 (by decide) ?_
        refine gc_iadd dX9_notsOpen_29 ?_
        refine gc_istore_n dX9_notsOpen_30 (by decide) ?_
        refine gc_iinc (v := l2 + 1) dX9_notsOpen_31 rfl rfl (by decide) ?_
        refine gc_goto 4 dX9_notsOpen_34 (by decide) ?_
        exact ih (l1 + 1) (l2 + 1) mem  h
def W_X9_notsOpen  (mem : Mm) (K : Int32 → Mm → Prop) : Prop := ∃ nz : Nat, L_X9_notsOpen_4    K nz 0 0 mem
set_option maxRecDepth 100000 in
set_option maxHeartbeats 4000000 in
theorem w_X9_notsOpen (X : CX)  (mem : Mm) (K : Int32 → Mm → Prop) (h : W_X9_notsOpen  mem K) : CallsI X 0 M_X9_notsOpen [.ref (cx_n X + 82)] mem K := by
  unfold W_X9_notsOpen at h
  refine CallsC.ofP 2 (by decide) rfl (Nat.le_of_ble_eq_true rfl) ?_
  refine gc_iconst (v := 0) dX9_notsOpen_0 (by decide) ?_
  refine gc_istore_n dX9_notsOpen_1 (by decide) ?_
  refine gc_iconst (v := 0) dX9_notsOpen_2 (by decide) ?_
  refine gc_istore_n dX9_notsOpen_3 (by decide) ?_
  obtain ⟨n9, h⟩ := h
  exact l_X9_notsOpen_4 X     K   n9 0 0 mem  h
def W_X9_signHere  (mem : Mm) (K : Int32 → Mm → Prop) : Prop := ((mem 82 12) = 3 → (((mem 82 13) = 38 → (K (-2) mem)) ∧ (¬ (mem 82 13) = 38 → (((mem 82 13) = 42 → (K (-8) mem)) ∧ (¬ (mem 82 13) = 42 → (((mem 82 13) = 43 → (K (-6) mem)) ∧ (¬ (mem 82 13) = 43 → (((mem 82 13) = 45 → (K (-7) mem)) ∧ (¬ (mem 82 13) = 45 → (((mem 82 13) = 47 → (K (-9) mem)) ∧ (¬ (mem 82 13) = 47 → (((mem 82 13) = 60 → (K (-3) mem)) ∧ (¬ (mem 82 13) = 60 → (((mem 82 13) = 61 → (K (-4) mem)) ∧ (¬ (mem 82 13) = 61 → (((mem 82 13) = 62 → (K (-5) mem)) ∧ (¬ (mem 82 13) = 62 → (((mem 82 13) = 124 → (K (-1) mem)) ∧ (¬ (mem 82 13) = 124 → (K 0 mem)))))))))))))))))))) ∧ (¬ (mem 82 12) = 3 → (K 0 mem))
set_option maxRecDepth 100000 in
set_option maxHeartbeats 4000000 in
theorem w_X9_signHere (X : CX)  (mem : Mm) (K : Int32 → Mm → Prop) (h : W_X9_signHere  mem K) : CallsI X 0 M_X9_signHere [.ref (cx_n X + 82)] mem K := by
  unfold W_X9_signHere at h
  refine CallsC.ofP 0 (by decide) rfl (Nat.le_of_ble_eq_true rfl) ?_
  refine gc_aload_n dX9_signHere_0 rfl ?_
  refine go_getI dX9_signHere_1 lg_X9_230 (sz_lt (by decide)) kd_82 rfl ?_
  refine gc_iconst (v := 3) dX9_signHere_4 (by decide) ?_
  refine gc_icmp_eq 10 dX9_signHere_5 (by decide) (fun hc => ?_) (fun hc => ?_)
  · have h := h.1 hc
    refine gc_aload_n dX9_signHere_10 rfl ?_
    refine go_getI dX9_signHere_11 lg_X9_236 (sz_lt (by decide)) kd_82 rfl ?_
    by_cases hn0 : (mem 82 13) = 38
    · have h := h.1 hn0
      refine gc_lookup (off := 84) 98 dX9_signHere_14 (by decide) (by rw [hn0]; rfl) (by decide) ?_
      refine gc_bipush (v := (-2)) dX9_signHere_98 (by decide) ?_
      exact go_iret dX9_signHere_100 rfl (Nat.le_refl _) (Nat.le_refl _) ⟨_, rfl, h⟩
    · have h := h.2 hn0
      have hq0 := tab_ne hn0 (a := 38) (by decide)
      by_cases hn1 : (mem 82 13) = 42
      · have h := h.1 hn1
        refine gc_lookup (off := 102) 116 dX9_signHere_14 (by decide) (by rw [hn1]; rfl) (by decide) ?_
        refine gc_bipush (v := (-8)) dX9_signHere_116 (by decide) ?_
        exact go_iret dX9_signHere_118 rfl (Nat.le_refl _) (Nat.le_refl _) ⟨_, rfl, h⟩
      · have h := h.2 hn1
        have hq1 := tab_ne hn1 (a := 42) (by decide)
        by_cases hn2 : (mem 82 13) = 43
        · have h := h.1 hn2
          refine gc_lookup (off := 96) 110 dX9_signHere_14 (by decide) (by rw [hn2]; rfl) (by decide) ?_
          refine gc_bipush (v := (-6)) dX9_signHere_110 (by decide) ?_
          exact go_iret dX9_signHere_112 rfl (Nat.le_refl _) (Nat.le_refl _) ⟨_, rfl, h⟩
        · have h := h.2 hn2
          have hq2 := tab_ne hn2 (a := 43) (by decide)
          by_cases hn3 : (mem 82 13) = 45
          · have h := h.1 hn3
            refine gc_lookup (off := 99) 113 dX9_signHere_14 (by decide) (by rw [hn3]; rfl) (by decide) ?_
            refine gc_bipush (v := (-7)) dX9_signHere_113 (by decide) ?_
            exact go_iret dX9_signHere_115 rfl (Nat.le_refl _) (Nat.le_refl _) ⟨_, rfl, h⟩
          · have h := h.2 hn3
            have hq3 := tab_ne hn3 (a := 45) (by decide)
            by_cases hn4 : (mem 82 13) = 47
            · have h := h.1 hn4
              refine gc_lookup (off := 105) 119 dX9_signHere_14 (by decide) (by rw [hn4]; rfl) (by decide) ?_
              refine gc_bipush (v := (-9)) dX9_signHere_119 (by decide) ?_
              exact go_iret dX9_signHere_121 rfl (Nat.le_refl _) (Nat.le_refl _) ⟨_, rfl, h⟩
            · have h := h.2 hn4
              have hq4 := tab_ne hn4 (a := 47) (by decide)
              by_cases hn5 : (mem 82 13) = 60
              · have h := h.1 hn5
                refine gc_lookup (off := 87) 101 dX9_signHere_14 (by decide) (by rw [hn5]; rfl) (by decide) ?_
                refine gc_bipush (v := (-3)) dX9_signHere_101 (by decide) ?_
                exact go_iret dX9_signHere_103 rfl (Nat.le_refl _) (Nat.le_refl _) ⟨_, rfl, h⟩
              · have h := h.2 hn5
                have hq5 := tab_ne hn5 (a := 60) (by decide)
                by_cases hn6 : (mem 82 13) = 61
                · have h := h.1 hn6
                  refine gc_lookup (off := 90) 104 dX9_signHere_14 (by decide) (by rw [hn6]; rfl) (by decide) ?_
                  refine gc_bipush (v := (-4)) dX9_signHere_104 (by decide) ?_
                  exact go_iret dX9_signHere_106 rfl (Nat.le_refl _) (Nat.le_refl _) ⟨_, rfl, h⟩
                · have h := h.2 hn6
                  have hq6 := tab_ne hn6 (a := 61) (by decide)
                  by_cases hn7 : (mem 82 13) = 62
                  · have h := h.1 hn7
                    refine gc_lookup (off := 93) 107 dX9_signHere_14 (by decide) (by rw [hn7]; rfl) (by decide) ?_
                    refine gc_bipush (v := (-5)) dX9_signHere_107 (by decide) ?_
                    exact go_iret dX9_signHere_109 rfl (Nat.le_refl _) (Nat.le_refl _) ⟨_, rfl, h⟩
                  · have h := h.2 hn7
                    have hq7 := tab_ne hn7 (a := 62) (by decide)
                    by_cases hn8 : (mem 82 13) = 124
                    · have h := h.1 hn8
                      refine gc_lookup (off := 82) 96 dX9_signHere_14 (by decide) (by rw [hn8]; rfl) (by decide) ?_
                      refine gc_iconst (v := (-1)) dX9_signHere_96 (by decide) ?_
                      exact go_iret dX9_signHere_97 rfl (Nat.le_refl _) (Nat.le_refl _) ⟨_, rfl, h⟩
                    · have h := h.2 hn8
                      have hq8 := tab_ne hn8 (a := 124) (by decide)
                      refine gc_lookup (off := 108) 122 dX9_signHere_14 (by decide) (by show Op.lookupswitch.offset [(38, 84), (42, 102), (43, 96), (45, 99), (47, 105), (60, 87), (61, 90), (62, 93), (124, 82)] 108 _ = 108; rw [lv_osw (k := (38)) hn0 (by decide), lv_osw (k := (42)) hn1 (by decide), lv_osw (k := (43)) hn2 (by decide), lv_osw (k := (45)) hn3 (by decide), lv_osw (k := (47)) hn4 (by decide), lv_osw (k := (60)) hn5 (by decide), lv_osw (k := (61)) hn6 (by decide), lv_osw (k := (62)) hn7 (by decide), lv_osw (k := (124)) hn8 (by decide)]; rfl) (by decide) ?_
                      refine gc_iconst (v := 0) dX9_signHere_122 (by decide) ?_
                      exact go_iret dX9_signHere_123 rfl (Nat.le_refl _) (Nat.le_refl _) ⟨_, rfl, h⟩
  · have h := h.2 hc
    refine gc_iconst (v := 0) dX9_signHere_8 (by decide) ?_
    exact go_iret dX9_signHere_9 rfl (Nat.le_refl _) (Nat.le_refl _) ⟨_, rfl, h⟩
def B_X9_takesE_97  (kb28 : Int32 → Int32 → Int32 → Mm → Prop) (K : Bool → Mm → Prop) (l1 : Int32) (l3 : Int32) (mem : Mm) : Prop := (¬ (mem 82 12) = 3 → (W_X9_takesPart  mem (fun v_159 m_159 => ((bZ v_159) = 0 → (K false m_159)) ∧ (¬ (bZ v_159) = 0 → (W_X9_notsOpen  m_159 (fun v_173 m_173 => kb28 l1 v_173 0 m_173)))))) ∧ ((mem 82 12) = 3 → ((¬ (mem 82 13) = 40 → (W_X9_takesPart  mem (fun v_159 m_159 => ((bZ v_159) = 0 → (K false m_159)) ∧ (¬ (bZ v_159) = 0 → (W_X9_notsOpen  m_159 (fun v_173 m_173 => kb28 l1 v_173 0 m_173)))))) ∧ ((mem 82 13) = 40 → ((8 ≤ l1 → (W_X9_takesPart  mem (fun v_159 m_159 => ((bZ v_159) = 0 → (K false m_159)) ∧ (¬ (bZ v_159) = 0 → (W_X9_notsOpen  m_159 (fun v_173 m_173 => kb28 l1 v_173 0 m_173)))))) ∧ (¬ 8 ≤ l1 → (∃ i_130 : Nat, (mem 82 22) = nI i_130 ∧ i_130 < 96 ∧ (∀ m_130 : Mm, m_130 = mu mem 93 i_130 (-11) → (∀ m_138 : Mm, m_138 = mu m_130 82 22 ((m_130 82 22) + 1) → (∃ i_150 : Nat, (l1 + 1) = nI i_150 ∧ i_150 < 10 ∧ (∀ m_150 : Mm, m_150 = mu m_138 94 i_150 0 → (W_X9_go  m_150 (fun m_152 => W_X9_notsOpen  m_152 (fun v_173 m_173 => kb28 (l1 + 1) v_173 l3 m_173)))))))))))))
set_option maxRecDepth 100000 in
set_option maxHeartbeats 4000000 in
theorem b_X9_takesE_97 (X : CX)   (kb28 : Int32 → Int32 → Int32 → Mm → Prop) (K : Bool → Mm → Prop) (hkb28 : ∀ (l1 : Int32) (l2 : Int32) (l3 : Int32) (mem : Mm), kb28 l1 l2 l3 mem → GoC X 3 0 0 M_X9_takesE 28 [some (.ref (cx_n X + 82)), some (.int l1), some (.int l2), some (.int l3), none] [] 0 0 (cellAt X mem) (sz mem) (qm X (fun r m => ∃ b : Bool, r = some (.int (bZ b)) ∧ K b m))) (l1 : Int32) (l3 : Int32) (mem : Mm)  (h : B_X9_takesE_97   kb28 K l1 l3 mem) : GoC X 3 0 0 M_X9_takesE 97 [some (.ref (cx_n X + 82)), some (.int l1), none, some (.int l3), none] [] 0 0 (cellAt X mem) (sz mem) (qm X (fun r m => ∃ b : Bool, r = some (.int (bZ b)) ∧ K b m)) := by
  unfold B_X9_takesE_97 at h
  refine gc_aload_n dX9_takesE_97 rfl ?_
  refine go_getI dX9_takesE_98 lg_X9_230 (sz_lt (by decide)) kd_82 rfl ?_
  refine gc_iconst (v := 3) dX9_takesE_101 (by decide) ?_
  refine gc_icmp_ne 158 dX9_takesE_102 (by decide) (fun hc => ?_) (fun hc => ?_)
  · have h := h.1 hc
    refine gc_aload_n dX9_takesE_158 rfl ?_
    refine go_cVZ (y := M_X9_takesPart) (As := []) (rest := []) dX9_takesE_159 lm_X9_266 ok_X9_takesPart (by decide) (sz_lt (by decide)) kd_82 rfl rfl (w_X9_takesPart X  mem _ h) rfl (Nat.le_of_ble_eq_true rfl) (fun v_159 m_159 h => ?_)
    refine gc_if_eq 170 dX9_takesE_162 (by decide) (fun hc => ?_) (fun hc => ?_)
    · have h := h.1 hc
      refine gc_iconst (v := 0) dX9_takesE_170 (by decide) ?_
      exact go_zret dX9_takesE_171 rfl (by decide) (Nat.le_refl _) (Nat.le_refl _) ⟨false, rfl, h⟩
    · have h := h.2 hc
      refine gc_iconst (v := 0) dX9_takesE_165 (by decide) ?_
      refine gc_istore_n dX9_takesE_166 (by decide) ?_
      refine gc_goto 172 dX9_takesE_167 (by decide) ?_
      refine gc_aload_n dX9_takesE_172 rfl ?_
      refine go_cVI (y := M_X9_notsOpen) (As := []) (rest := []) dX9_takesE_173 lm_X9_270 ok_X9_notsOpen (by decide) (sz_lt (by decide)) kd_82 rfl rfl (w_X9_notsOpen X  m_159 _ h) rfl (Nat.le_of_ble_eq_true rfl) (fun v_173 m_173 h => ?_)
      refine gc_istore_n dX9_takesE_176 (by decide) ?_
      refine gc_goto 28 dX9_takesE_177 (by decide) ?_
      exact hkb28 l1 v_173 0 m_173  h
  · have h := h.2 hc
    refine gc_aload_n dX9_takesE_105 rfl ?_
    refine go_getI dX9_takesE_106 lg_X9_236 (sz_lt (by decide)) kd_82 rfl ?_
    refine gc_bipush (v := 40) dX9_takesE_109 (by decide) ?_
    refine gc_icmp_ne 158 dX9_takesE_111 (by decide) (fun hc => ?_) (fun hc => ?_)
    · have h := h.1 hc
      refine gc_aload_n dX9_takesE_158 rfl ?_
      refine go_cVZ (y := M_X9_takesPart) (As := []) (rest := []) dX9_takesE_159 lm_X9_266 ok_X9_takesPart (by decide) (sz_lt (by decide)) kd_82 rfl rfl (w_X9_takesPart X  mem _ h) rfl (Nat.le_of_ble_eq_true rfl) (fun v_159 m_159 h => ?_)
      refine gc_if_eq 170 dX9_takesE_162 (by decide) (fun hc => ?_) (fun hc => ?_)
      · have h := h.1 hc
        refine gc_iconst (v := 0) dX9_takesE_170 (by decide) ?_
        exact go_zret dX9_takesE_171 rfl (by decide) (Nat.le_refl _) (Nat.le_refl _) ⟨false, rfl, h⟩
      · have h := h.2 hc
        refine gc_iconst (v := 0) dX9_takesE_165 (by decide) ?_
        refine gc_istore_n dX9_takesE_166 (by decide) ?_
        refine gc_goto 172 dX9_takesE_167 (by decide) ?_
        refine gc_aload_n dX9_takesE_172 rfl ?_
        refine go_cVI (y := M_X9_notsOpen) (As := []) (rest := []) dX9_takesE_173 lm_X9_270 ok_X9_notsOpen (by decide) (sz_lt (by decide)) kd_82 rfl rfl (w_X9_notsOpen X  m_159 _ h) rfl (Nat.le_of_ble_eq_true rfl) (fun v_173 m_173 h => ?_)
        refine gc_istore_n dX9_takesE_176 (by decide) ?_
        refine gc_goto 28 dX9_takesE_177 (by decide) ?_
        exact hkb28 l1 v_173 0 m_173  h
    · have h := h.2 hc
      refine gc_iload_n dX9_takesE_114 rfl ?_
      refine gc_bipush (v := 8) dX9_takesE_115 (by decide) ?_
      refine gc_icmp_ge 158 dX9_takesE_117 (by decide) (fun hc => ?_) (fun hc => ?_)
      · have h := h.1 hc
        refine gc_aload_n dX9_takesE_158 rfl ?_
        refine go_cVZ (y := M_X9_takesPart) (As := []) (rest := []) dX9_takesE_159 lm_X9_266 ok_X9_takesPart (by decide) (sz_lt (by decide)) kd_82 rfl rfl (w_X9_takesPart X  mem _ h) rfl (Nat.le_of_ble_eq_true rfl) (fun v_159 m_159 h => ?_)
        refine gc_if_eq 170 dX9_takesE_162 (by decide) (fun hc => ?_) (fun hc => ?_)
        · have h := h.1 hc
          refine gc_iconst (v := 0) dX9_takesE_170 (by decide) ?_
          exact go_zret dX9_takesE_171 rfl (by decide) (Nat.le_refl _) (Nat.le_refl _) ⟨false, rfl, h⟩
        · have h := h.2 hc
          refine gc_iconst (v := 0) dX9_takesE_165 (by decide) ?_
          refine gc_istore_n dX9_takesE_166 (by decide) ?_
          refine gc_goto 172 dX9_takesE_167 (by decide) ?_
          refine gc_aload_n dX9_takesE_172 rfl ?_
          refine go_cVI (y := M_X9_notsOpen) (As := []) (rest := []) dX9_takesE_173 lm_X9_270 ok_X9_notsOpen (by decide) (sz_lt (by decide)) kd_82 rfl rfl (w_X9_notsOpen X  m_159 _ h) rfl (Nat.le_of_ble_eq_true rfl) (fun v_173 m_173 h => ?_)
          refine gc_istore_n dX9_takesE_176 (by decide) ?_
          refine gc_goto 28 dX9_takesE_177 (by decide) ?_
          exact hkb28 l1 v_173 0 m_173  h
      · have h := h.2 hc
        refine gc_aload_n dX9_takesE_120 rfl ?_
        refine go_getR dX9_takesE_121 lg_X9_41 (sz_lt (by decide)) kd_82 rfl ?_
        refine gc_aload_n dX9_takesE_124 rfl ?_
        refine go_getI dX9_takesE_125 lg_X9_248 (sz_lt (by decide)) kd_82 rfl ?_
        refine gc_bipush (v := (-11)) dX9_takesE_128 (by decide) ?_
        obtain ⟨i_130, hx_130, hi_130, h⟩ := h
        refine go_iast_ i_130 dX9_takesE_130 kd_93 hx_130 hi_130 (by decide) (fun m_130 em_130 => ?_)
        have h := h m_130 em_130
        refine gc_aload_n dX9_takesE_131 rfl ?_
        refine gc_dup dX9_takesE_132 rfl ?_
        refine go_getI dX9_takesE_133 lg_X9_248 (sz_lt (by decide)) kd_82 rfl ?_
        refine gc_iconst (v := 1) dX9_takesE_136 (by decide) ?_
        refine gc_iadd dX9_takesE_137 ?_
        refine go_putI_ dX9_takesE_138 lp_X9_248 (sz_lt (by decide)) kd_82 rfl (fun m_138 em_138 => ?_)
        have h := h m_138 em_138
        refine gc_iinc (v := l1 + 1) dX9_takesE_141 rfl rfl (by decide) ?_
        refine gc_aload_n dX9_takesE_144 rfl ?_
        refine go_getR dX9_takesE_145 lg_X9_44 (sz_lt (by decide)) kd_82 rfl ?_
        refine gc_iload_n dX9_takesE_148 rfl ?_
        refine gc_iconst (v := 0) dX9_takesE_149 (by decide) ?_
        obtain ⟨i_150, hx_150, hi_150, h⟩ := h
        refine go_zast_ i_150 dX9_takesE_150 kd_94 hx_150 hi_150 (by decide) (by decide) (fun m_150 em_150 => ?_)
        have h := h m_150 em_150
        refine gc_aload_n dX9_takesE_151 rfl ?_
        refine go_cVU (y := M_X9_go) (As := []) (rest := []) dX9_takesE_152 lm_X9_245 ok_X9_go (by decide) (sz_lt (by decide)) kd_82 rfl rfl (w_X9_go X  m_150 _ h) rfl (Nat.le_of_ble_eq_true rfl) (fun m_152 h => ?_)
        refine gc_goto 172 dX9_takesE_155 (by decide) ?_
        refine gc_aload_n dX9_takesE_172 rfl ?_
        refine go_cVI (y := M_X9_notsOpen) (As := []) (rest := []) dX9_takesE_173 lm_X9_270 ok_X9_notsOpen (by decide) (sz_lt (by decide)) kd_82 rfl rfl (w_X9_notsOpen X  m_152 _ h) rfl (Nat.le_of_ble_eq_true rfl) (fun v_173 m_173 h => ?_)
        refine gc_istore_n dX9_takesE_176 (by decide) ?_
        refine gc_goto 28 dX9_takesE_177 (by decide) ?_
        exact hkb28 (l1 + 1) v_173 l3 m_173  h
def B_X9_takesE_305  (kb28 : Int32 → Int32 → Int32 → Mm → Prop) (K : Bool → Mm → Prop) (l1 : Int32) (l2 : Int32) (l4 : Int32) (s0 : Int32) (s1 : Int32) (mem : Mm) : Prop := (s0 = 0 ∨ s0 = 1) ∧ (∃ i_305 : Nat, s1 = nI i_305 ∧ i_305 < 10 ∧ (∀ m_305 : Mm, m_305 = mu mem 94 i_305 s0 → (W_X9_rank l4 m_305 (fun v_309 m_309 => W_X9_settle v_309 m_309 (fun m_312 => ∃ i_325 : Nat, (m_312 82 22) = nI i_325 ∧ i_325 < 96 ∧ (∀ m_325 : Mm, m_325 = mu m_312 93 i_325 l4 → (∀ m_333 : Mm, m_333 = mu m_325 82 22 ((m_325 82 22) + 1) → (W_X9_go  m_333 (fun m_339 => kb28 l1 l2 1 m_339)))))))))
set_option maxRecDepth 100000 in
set_option maxHeartbeats 4000000 in
theorem b_X9_takesE_305 (X : CX)   (kb28 : Int32 → Int32 → Int32 → Mm → Prop) (K : Bool → Mm → Prop) (hkb28 : ∀ (l1 : Int32) (l2 : Int32) (l3 : Int32) (mem : Mm), kb28 l1 l2 l3 mem → GoC X 3 0 0 M_X9_takesE 28 [some (.ref (cx_n X + 82)), some (.int l1), some (.int l2), some (.int l3), none] [] 0 0 (cellAt X mem) (sz mem) (qm X (fun r m => ∃ b : Bool, r = some (.int (bZ b)) ∧ K b m))) (l1 : Int32) (l2 : Int32) (l4 : Int32) (s0 : Int32) (s1 : Int32) (mem : Mm)  (h : B_X9_takesE_305   kb28 K l1 l2 l4 s0 s1 mem) : GoC X 3 0 0 M_X9_takesE 305 [some (.ref (cx_n X + 82)), some (.int l1), some (.int l2), none, some (.int l4)] [.int s0, .int s1, .ref (cx_n X + 94)] 0 0 (cellAt X mem) (sz mem) (qm X (fun r m => ∃ b : Bool, r = some (.int (bZ b)) ∧ K b m)) := by
  unfold B_X9_takesE_305 at h
  obtain ⟨h01, h⟩ := h
  obtain ⟨i_305, hx_305, hi_305, h⟩ := h
  refine go_zast_ i_305 dX9_takesE_305 kd_94 hx_305 hi_305 (by decide) h01 (fun m_305 em_305 => ?_)
  have h := h m_305 em_305
  refine gc_aload_n dX9_takesE_306 rfl ?_
  refine gc_iload dX9_takesE_307 rfl ?_
  refine go_cSI (y := M_X9_rank) (As := [.int l4]) (rest := [.ref (cx_n X + 82)]) dX9_takesE_309 lm_X9_251 ok_X9_rank (by decide) (w_X9_rank X l4 m_305 _ h) rfl (Nat.le_of_ble_eq_true rfl) (fun v_309 m_309 h => ?_)
  refine go_cVU (y := M_X9_settle) (As := [.int v_309]) (rest := []) dX9_takesE_312 lm_X9_263 ok_X9_settle (by decide) (sz_lt (by decide)) kd_82 rfl rfl (w_X9_settle X v_309 m_309 _ h) rfl (Nat.le_of_ble_eq_true rfl) (fun m_312 h => ?_)
  refine gc_aload_n dX9_takesE_315 rfl ?_
  refine go_getR dX9_takesE_316 lg_X9_41 (sz_lt (by decide)) kd_82 rfl ?_
  refine gc_aload_n dX9_takesE_319 rfl ?_
  refine go_getI dX9_takesE_320 lg_X9_248 (sz_lt (by decide)) kd_82 rfl ?_
  refine gc_iload dX9_takesE_323 rfl ?_
  obtain ⟨i_325, hx_325, hi_325, h⟩ := h
  refine go_iast_ i_325 dX9_takesE_325 kd_93 hx_325 hi_325 (by decide) (fun m_325 em_325 => ?_)
  have h := h m_325 em_325
  refine gc_aload_n dX9_takesE_326 rfl ?_
  refine gc_dup dX9_takesE_327 rfl ?_
  refine go_getI dX9_takesE_328 lg_X9_248 (sz_lt (by decide)) kd_82 rfl ?_
  refine gc_iconst (v := 1) dX9_takesE_331 (by decide) ?_
  refine gc_iadd dX9_takesE_332 ?_
  refine go_putI_ dX9_takesE_333 lp_X9_248 (sz_lt (by decide)) kd_82 rfl (fun m_333 em_333 => ?_)
  have h := h m_333 em_333
  refine gc_iconst (v := 1) dX9_takesE_336 (by decide) ?_
  refine gc_istore_n dX9_takesE_337 (by decide) ?_
  refine gc_aload_n dX9_takesE_338 rfl ?_
  refine go_cVU (y := M_X9_go) (As := []) (rest := []) dX9_takesE_339 lm_X9_245 ok_X9_go (by decide) (sz_lt (by decide)) kd_82 rfl rfl (w_X9_go X  m_333 _ h) rfl (Nat.le_of_ble_eq_true rfl) (fun m_339 h => ?_)
  refine gc_goto 28 dX9_takesE_342 (by decide) ?_
  refine gc_forget 4 ?_
  exact hkb28 l1 l2 1 m_339  h
def B_X9_takesE_268  (kb28 : Int32 → Int32 → Int32 → Mm → Prop) (K : Bool → Mm → Prop) (l1 : Int32) (l2 : Int32) (l4 : Int32) (mem : Mm) : Prop := W_X9_rank l4 mem (fun v_275 m_275 => (v_275 = 3 → (B_X9_takesE_305   kb28 K l1 l2 l4 1 l1 m_275)) ∧ (¬ v_275 = 3 → (W_X9_rank l4 m_275 (fun v_284 m_284 => (v_284 ≤ 3 → (B_X9_takesE_305   kb28 K l1 l2 l4 0 l1 m_284)) ∧ (¬ v_284 ≤ 3 → (∃ i_296 : Nat, l1 = nI i_296 ∧ i_296 < 10 ∧ (((m_284 94 i_296) = 0 → (B_X9_takesE_305   kb28 K l1 l2 l4 0 l1 m_284)) ∧ (¬ (m_284 94 i_296) = 0 → (B_X9_takesE_305   kb28 K l1 l2 l4 1 l1 m_284)))))))))
set_option maxRecDepth 100000 in
set_option maxHeartbeats 4000000 in
theorem b_X9_takesE_268 (X : CX)   (kb28 : Int32 → Int32 → Int32 → Mm → Prop) (K : Bool → Mm → Prop) (hkb28 : ∀ (l1 : Int32) (l2 : Int32) (l3 : Int32) (mem : Mm), kb28 l1 l2 l3 mem → GoC X 3 0 0 M_X9_takesE 28 [some (.ref (cx_n X + 82)), some (.int l1), some (.int l2), some (.int l3), none] [] 0 0 (cellAt X mem) (sz mem) (qm X (fun r m => ∃ b : Bool, r = some (.int (bZ b)) ∧ K b m))) (l1 : Int32) (l2 : Int32) (l4 : Int32) (mem : Mm)  (h : B_X9_takesE_268   kb28 K l1 l2 l4 mem) : GoC X 3 0 0 M_X9_takesE 268 [some (.ref (cx_n X + 82)), some (.int l1), some (.int l2), none, some (.int l4)] [] 0 0 (cellAt X mem) (sz mem) (qm X (fun r m => ∃ b : Bool, r = some (.int (bZ b)) ∧ K b m)) := by
  unfold B_X9_takesE_268 at h
  refine gc_aload_n dX9_takesE_268 rfl ?_
  refine go_getR dX9_takesE_269 lg_X9_44 (sz_lt (by decide)) kd_82 rfl ?_
  refine gc_iload_n dX9_takesE_272 rfl ?_
  refine gc_iload dX9_takesE_273 rfl ?_
  refine go_cSI (y := M_X9_rank) (As := [.int l4]) (rest := [.int l1, .ref (cx_n X + 94)]) dX9_takesE_275 lm_X9_251 ok_X9_rank (by decide) (w_X9_rank X l4 mem _ h) rfl (Nat.le_of_ble_eq_true rfl) (fun v_275 m_275 h => ?_)
  refine gc_iconst (v := 3) dX9_takesE_278 (by decide) ?_
  refine gc_icmp_eq 300 dX9_takesE_279 (by decide) (fun hc => ?_) (fun hc => ?_)
  · have h := h.1 hc
    refine gc_iconst (v := 1) dX9_takesE_300 (by decide) ?_
    refine gc_goto 305 dX9_takesE_301 (by decide) ?_
    exact b_X9_takesE_305 X    kb28 K  hkb28 l1 l2 l4 1 l1 m_275  h
  · have h := h.2 hc
    refine gc_iload dX9_takesE_282 rfl ?_
    refine go_cSI (y := M_X9_rank) (As := [.int l4]) (rest := [.int l1, .ref (cx_n X + 94)]) dX9_takesE_284 lm_X9_251 ok_X9_rank (by decide) (w_X9_rank X l4 m_275 _ h) rfl (Nat.le_of_ble_eq_true rfl) (fun v_284 m_284 h => ?_)
    refine gc_iconst (v := 3) dX9_takesE_287 (by decide) ?_
    refine gc_icmp_le 304 dX9_takesE_288 (by decide) (fun hc => ?_) (fun hc => ?_)
    · have h := h.1 hc
      refine gc_iconst (v := 0) dX9_takesE_304 (by decide) ?_
      exact b_X9_takesE_305 X    kb28 K  hkb28 l1 l2 l4 0 l1 m_284  h
    · have h := h.2 hc
      refine gc_aload_n dX9_takesE_291 rfl ?_
      refine go_getR dX9_takesE_292 lg_X9_44 (sz_lt (by decide)) kd_82 rfl ?_
      refine gc_iload_n dX9_takesE_295 rfl ?_
      obtain ⟨i_296, hx_296, hi_296, h⟩ := h
      refine go_zald i_296 dX9_takesE_296 kd_94 hx_296 hi_296 ?_
      refine gc_if_eq 304 dX9_takesE_297 (by decide) (fun hc => ?_) (fun hc => ?_)
      · have h := h.1 hc
        refine gc_iconst (v := 0) dX9_takesE_304 (by decide) ?_
        exact b_X9_takesE_305 X    kb28 K  hkb28 l1 l2 l4 0 l1 m_284  h
      · have h := h.2 hc
        refine gc_iconst (v := 1) dX9_takesE_300 (by decide) ?_
        refine gc_goto 305 dX9_takesE_301 (by decide) ?_
        exact b_X9_takesE_305 X    kb28 K  hkb28 l1 l2 l4 1 l1 m_284  h
def B_X9_takesE_237  (kb28 : Int32 → Int32 → Int32 → Mm → Prop) (K : Bool → Mm → Prop) (l1 : Int32) (l2 : Int32) (mem : Mm) : Prop := W_X9_signHere  mem (fun v_238 m_238 => (v_238 = 0 → (K false m_238)) ∧ (¬ v_238 = 0 → (W_X9_rank v_238 m_238 (fun v_250 m_250 => (¬ v_250 = 3 → (B_X9_takesE_268   kb28 K l1 l2 v_238 m_250)) ∧ (v_250 = 3 → (∃ i_262 : Nat, l1 = nI i_262 ∧ i_262 < 10 ∧ (((m_250 94 i_262) = 0 → (B_X9_takesE_268   kb28 K l1 l2 v_238 m_250)) ∧ (¬ (m_250 94 i_262) = 0 → (K false m_250)))))))))
set_option maxRecDepth 100000 in
set_option maxHeartbeats 4000000 in
theorem b_X9_takesE_237 (X : CX)   (kb28 : Int32 → Int32 → Int32 → Mm → Prop) (K : Bool → Mm → Prop) (hkb28 : ∀ (l1 : Int32) (l2 : Int32) (l3 : Int32) (mem : Mm), kb28 l1 l2 l3 mem → GoC X 3 0 0 M_X9_takesE 28 [some (.ref (cx_n X + 82)), some (.int l1), some (.int l2), some (.int l3), none] [] 0 0 (cellAt X mem) (sz mem) (qm X (fun r m => ∃ b : Bool, r = some (.int (bZ b)) ∧ K b m))) (l1 : Int32) (l2 : Int32) (mem : Mm)  (h : B_X9_takesE_237   kb28 K l1 l2 mem) : GoC X 3 0 0 M_X9_takesE 237 [some (.ref (cx_n X + 82)), some (.int l1), some (.int l2), none, none] [] 0 0 (cellAt X mem) (sz mem) (qm X (fun r m => ∃ b : Bool, r = some (.int (bZ b)) ∧ K b m)) := by
  unfold B_X9_takesE_237 at h
  refine gc_aload_n dX9_takesE_237 rfl ?_
  refine go_cVI (y := M_X9_signHere) (As := []) (rest := []) dX9_takesE_238 lm_X9_273 ok_X9_signHere (by decide) (sz_lt (by decide)) kd_82 rfl rfl (w_X9_signHere X  mem _ h) rfl (Nat.le_of_ble_eq_true rfl) (fun v_238 m_238 h => ?_)
  refine gc_istore dX9_takesE_241 (by decide) ?_
  refine gc_iload dX9_takesE_243 rfl ?_
  refine gc_if_eq 266 dX9_takesE_245 (by decide) (fun hc => ?_) (fun hc => ?_)
  · have h := h.1 hc
    refine gc_iconst (v := 0) dX9_takesE_266 (by decide) ?_
    exact go_zret dX9_takesE_267 rfl (by decide) (Nat.le_refl _) (Nat.le_refl _) ⟨false, rfl, h⟩
  · have h := h.2 hc
    refine gc_iload dX9_takesE_248 rfl ?_
    refine go_cSI (y := M_X9_rank) (As := [.int v_238]) (rest := []) dX9_takesE_250 lm_X9_251 ok_X9_rank (by decide) (w_X9_rank X v_238 m_238 _ h) rfl (Nat.le_of_ble_eq_true rfl) (fun v_250 m_250 h => ?_)
    refine gc_iconst (v := 3) dX9_takesE_253 (by decide) ?_
    refine gc_icmp_ne 268 dX9_takesE_254 (by decide) (fun hc => ?_) (fun hc => ?_)
    · have h := h.1 hc
      exact b_X9_takesE_268 X    kb28 K  hkb28 l1 l2 v_238 m_250  h
    · have h := h.2 hc
      refine gc_aload_n dX9_takesE_257 rfl ?_
      refine go_getR dX9_takesE_258 lg_X9_44 (sz_lt (by decide)) kd_82 rfl ?_
      refine gc_iload_n dX9_takesE_261 rfl ?_
      obtain ⟨i_262, hx_262, hi_262, h⟩ := h
      refine go_zald i_262 dX9_takesE_262 kd_94 hx_262 hi_262 ?_
      refine gc_if_eq 268 dX9_takesE_263 (by decide) (fun hc => ?_) (fun hc => ?_)
      · have h := h.1 hc
        exact b_X9_takesE_268 X    kb28 K  hkb28 l1 l2 v_238 m_250  h
      · have h := h.2 hc
        refine gc_iconst (v := 0) dX9_takesE_266 (by decide) ?_
        exact go_zret dX9_takesE_267 rfl (by decide) (Nat.le_refl _) (Nat.le_refl _) ⟨false, rfl, h⟩
def B_X9_takesE_39  (kb28 : Int32 → Int32 → Int32 → Mm → Prop) (K : Bool → Mm → Prop) (l1 : Int32) (l2 : Int32) (l3 : Int32) (mem : Mm) : Prop := (l3 = 0 → ((¬ (mem 82 12) = 3 → (B_X9_takesE_237   kb28 K l1 l2 mem)) ∧ ((mem 82 12) = 3 → ((¬ (mem 82 13) = 41 → (B_X9_takesE_237   kb28 K l1 l2 mem)) ∧ ((mem 82 13) = 41 → ((l1 ≤ 0 → (B_X9_takesE_237   kb28 K l1 l2 mem)) ∧ (¬ l1 ≤ 0 → (W_X9_settle 0 mem (fun m_203 => ∀ m_213 : Mm, m_213 = mu m_203 82 22 ((m_203 82 22) - 1) → (W_X9_settle 6 m_213 (fun m_222 => W_X9_notsOpen  m_222 (fun v_226 m_226 => W_X9_go  m_226 (fun m_231 => kb28 (l1 + (-1)) v_226 l3 m_231))))))))))))) ∧ (¬ l3 = 0 → ((¬ (mem 82 12) = 3 → (B_X9_takesE_97   kb28 K l1 l3 mem)) ∧ ((mem 82 12) = 3 → ((¬ (mem 82 13) = 33 → (B_X9_takesE_97   kb28 K l1 l3 mem)) ∧ ((mem 82 13) = 33 → ((8 ≤ l2 → (B_X9_takesE_97   kb28 K l1 l3 mem)) ∧ (¬ 8 ≤ l2 → (∃ i_76 : Nat, (mem 82 22) = nI i_76 ∧ i_76 < 96 ∧ (∀ m_76 : Mm, m_76 = mu mem 93 i_76 (-10) → (∀ m_84 : Mm, m_84 = mu m_76 82 22 ((m_76 82 22) + 1) → (W_X9_go  m_84 (fun m_91 => W_X9_notsOpen  m_91 (fun v_173 m_173 => kb28 l1 v_173 l3 m_173)))))))))))))
set_option maxRecDepth 100000 in
set_option maxHeartbeats 4000000 in
theorem b_X9_takesE_39 (X : CX)   (kb28 : Int32 → Int32 → Int32 → Mm → Prop) (K : Bool → Mm → Prop) (hkb28 : ∀ (l1 : Int32) (l2 : Int32) (l3 : Int32) (mem : Mm), kb28 l1 l2 l3 mem → GoC X 3 0 0 M_X9_takesE 28 [some (.ref (cx_n X + 82)), some (.int l1), some (.int l2), some (.int l3), none] [] 0 0 (cellAt X mem) (sz mem) (qm X (fun r m => ∃ b : Bool, r = some (.int (bZ b)) ∧ K b m))) (l1 : Int32) (l2 : Int32) (l3 : Int32) (mem : Mm)  (h : B_X9_takesE_39   kb28 K l1 l2 l3 mem) : GoC X 3 0 0 M_X9_takesE 39 [some (.ref (cx_n X + 82)), some (.int l1), some (.int l2), some (.int l3), none] [] 0 0 (cellAt X mem) (sz mem) (qm X (fun r m => ∃ b : Bool, r = some (.int (bZ b)) ∧ K b m)) := by
  unfold B_X9_takesE_39 at h
  refine gc_iload_n dX9_takesE_39 rfl ?_
  refine gc_if_eq 180 dX9_takesE_40 (by decide) (fun hc => ?_) (fun hc => ?_)
  · have h := h.1 hc
    refine gc_aload_n dX9_takesE_180 rfl ?_
    refine go_getI dX9_takesE_181 lg_X9_230 (sz_lt (by decide)) kd_82 rfl ?_
    refine gc_iconst (v := 3) dX9_takesE_184 (by decide) ?_
    refine gc_icmp_ne 237 dX9_takesE_185 (by decide) (fun hc => ?_) (fun hc => ?_)
    · have h := h.1 hc
      refine gc_forget 3 ?_
      exact b_X9_takesE_237 X    kb28 K  hkb28 l1 l2 mem  h
    · have h := h.2 hc
      refine gc_aload_n dX9_takesE_188 rfl ?_
      refine go_getI dX9_takesE_189 lg_X9_236 (sz_lt (by decide)) kd_82 rfl ?_
      refine gc_bipush (v := 41) dX9_takesE_192 (by decide) ?_
      refine gc_icmp_ne 237 dX9_takesE_194 (by decide) (fun hc => ?_) (fun hc => ?_)
      · have h := h.1 hc
        refine gc_forget 3 ?_
        exact b_X9_takesE_237 X    kb28 K  hkb28 l1 l2 mem  h
      · have h := h.2 hc
        refine gc_iload_n dX9_takesE_197 rfl ?_
        refine gc_if_le 237 dX9_takesE_198 (by decide) (fun hc => ?_) (fun hc => ?_)
        · have h := h.1 hc
          refine gc_forget 3 ?_
          exact b_X9_takesE_237 X    kb28 K  hkb28 l1 l2 mem  h
        · have h := h.2 hc
          refine gc_aload_n dX9_takesE_201 rfl ?_
          refine gc_iconst (v := 0) dX9_takesE_202 (by decide) ?_
          refine go_cVU (y := M_X9_settle) (As := [.int 0]) (rest := []) dX9_takesE_203 lm_X9_263 ok_X9_settle (by decide) (sz_lt (by decide)) kd_82 rfl rfl (w_X9_settle X 0 mem _ h) rfl (Nat.le_of_ble_eq_true rfl) (fun m_203 h => ?_)
          refine gc_aload_n dX9_takesE_206 rfl ?_
          refine gc_dup dX9_takesE_207 rfl ?_
          refine go_getI dX9_takesE_208 lg_X9_248 (sz_lt (by decide)) kd_82 rfl ?_
          refine gc_iconst (v := 1) dX9_takesE_211 (by decide) ?_
          refine gc_isub dX9_takesE_212 ?_
          refine go_putI_ dX9_takesE_213 lp_X9_248 (sz_lt (by decide)) kd_82 rfl (fun m_213 em_213 => ?_)
          have h := h m_213 em_213
          refine gc_iinc (v := l1 + (-1)) dX9_takesE_216 rfl rfl (by decide) ?_
          refine gc_aload_n dX9_takesE_219 rfl ?_
          refine gc_bipush (v := 6) dX9_takesE_220 (by decide) ?_
          refine go_cVU (y := M_X9_settle) (As := [.int 6]) (rest := []) dX9_takesE_222 lm_X9_263 ok_X9_settle (by decide) (sz_lt (by decide)) kd_82 rfl rfl (w_X9_settle X 6 m_213 _ h) rfl (Nat.le_of_ble_eq_true rfl) (fun m_222 h => ?_)
          refine gc_aload_n dX9_takesE_225 rfl ?_
          refine go_cVI (y := M_X9_notsOpen) (As := []) (rest := []) dX9_takesE_226 lm_X9_270 ok_X9_notsOpen (by decide) (sz_lt (by decide)) kd_82 rfl rfl (w_X9_notsOpen X  m_222 _ h) rfl (Nat.le_of_ble_eq_true rfl) (fun v_226 m_226 h => ?_)
          refine gc_istore_n dX9_takesE_229 (by decide) ?_
          refine gc_aload_n dX9_takesE_230 rfl ?_
          refine go_cVU (y := M_X9_go) (As := []) (rest := []) dX9_takesE_231 lm_X9_245 ok_X9_go (by decide) (sz_lt (by decide)) kd_82 rfl rfl (w_X9_go X  m_226 _ h) rfl (Nat.le_of_ble_eq_true rfl) (fun m_231 h => ?_)
          refine gc_goto 28 dX9_takesE_234 (by decide) ?_
          exact hkb28 (l1 + (-1)) v_226 l3 m_231  h
  · have h := h.2 hc
    refine gc_aload_n dX9_takesE_43 rfl ?_
    refine go_getI dX9_takesE_44 lg_X9_230 (sz_lt (by decide)) kd_82 rfl ?_
    refine gc_iconst (v := 3) dX9_takesE_47 (by decide) ?_
    refine gc_icmp_ne 97 dX9_takesE_48 (by decide) (fun hc => ?_) (fun hc => ?_)
    · have h := h.1 hc
      refine gc_forget 2 ?_
      exact b_X9_takesE_97 X    kb28 K  hkb28 l1 l3 mem  h
    · have h := h.2 hc
      refine gc_aload_n dX9_takesE_51 rfl ?_
      refine go_getI dX9_takesE_52 lg_X9_236 (sz_lt (by decide)) kd_82 rfl ?_
      refine gc_bipush (v := 33) dX9_takesE_55 (by decide) ?_
      refine gc_icmp_ne 97 dX9_takesE_57 (by decide) (fun hc => ?_) (fun hc => ?_)
      · have h := h.1 hc
        refine gc_forget 2 ?_
        exact b_X9_takesE_97 X    kb28 K  hkb28 l1 l3 mem  h
      · have h := h.2 hc
        refine gc_iload_n dX9_takesE_60 rfl ?_
        refine gc_bipush (v := 8) dX9_takesE_61 (by decide) ?_
        refine gc_icmp_ge 97 dX9_takesE_63 (by decide) (fun hc => ?_) (fun hc => ?_)
        · have h := h.1 hc
          refine gc_forget 2 ?_
          exact b_X9_takesE_97 X    kb28 K  hkb28 l1 l3 mem  h
        · have h := h.2 hc
          refine gc_aload_n dX9_takesE_66 rfl ?_
          refine go_getR dX9_takesE_67 lg_X9_41 (sz_lt (by decide)) kd_82 rfl ?_
          refine gc_aload_n dX9_takesE_70 rfl ?_
          refine go_getI dX9_takesE_71 lg_X9_248 (sz_lt (by decide)) kd_82 rfl ?_
          refine gc_bipush (v := (-10)) dX9_takesE_74 (by decide) ?_
          obtain ⟨i_76, hx_76, hi_76, h⟩ := h
          refine go_iast_ i_76 dX9_takesE_76 kd_93 hx_76 hi_76 (by decide) (fun m_76 em_76 => ?_)
          have h := h m_76 em_76
          refine gc_aload_n dX9_takesE_77 rfl ?_
          refine gc_dup dX9_takesE_78 rfl ?_
          refine go_getI dX9_takesE_79 lg_X9_248 (sz_lt (by decide)) kd_82 rfl ?_
          refine gc_iconst (v := 1) dX9_takesE_82 (by decide) ?_
          refine gc_iadd dX9_takesE_83 ?_
          refine go_putI_ dX9_takesE_84 lp_X9_248 (sz_lt (by decide)) kd_82 rfl (fun m_84 em_84 => ?_)
          have h := h m_84 em_84
          refine gc_iinc (v := l2 + 1) dX9_takesE_87 rfl rfl (by decide) ?_
          refine gc_aload_n dX9_takesE_90 rfl ?_
          refine go_cVU (y := M_X9_go) (As := []) (rest := []) dX9_takesE_91 lm_X9_245 ok_X9_go (by decide) (sz_lt (by decide)) kd_82 rfl rfl (w_X9_go X  m_84 _ h) rfl (Nat.le_of_ble_eq_true rfl) (fun m_91 h => ?_)
          refine gc_goto 172 dX9_takesE_94 (by decide) ?_
          refine gc_aload_n dX9_takesE_172 rfl ?_
          refine go_cVI (y := M_X9_notsOpen) (As := []) (rest := []) dX9_takesE_173 lm_X9_270 ok_X9_notsOpen (by decide) (sz_lt (by decide)) kd_82 rfl rfl (w_X9_notsOpen X  m_91 _ h) rfl (Nat.le_of_ble_eq_true rfl) (fun v_173 m_173 h => ?_)
          refine gc_istore_n dX9_takesE_176 (by decide) ?_
          refine gc_goto 28 dX9_takesE_177 (by decide) ?_
          exact hkb28 l1 v_173 l3 m_173  h
def L_X9_takesE_28  (K : Bool → Mm → Prop) : Nat → Int32 → Int32 → Int32 → Mm → Prop
  | 0, _, _, _, _ => False
  | n + 1, l1, l2, l3, mem => (¬ l3 = 0 → (B_X9_takesE_39   (fun zl1 zl2 zl3 zm => L_X9_takesE_28   K n zl1 zl2 zl3 zm) K l1 l2 l3 mem)) ∧ (l3 = 0 → (((mem 82 12) = 0 → (W_X9_settle 0 mem (fun m_347 => (¬ l1 = 0 → (K false m_347)) ∧ (l1 = 0 → (K true m_347))))) ∧ (¬ (mem 82 12) = 0 → (B_X9_takesE_39   (fun zl1 zl2 zl3 zm => L_X9_takesE_28   K n zl1 zl2 zl3 zm) K l1 l2 l3 mem))))
set_option maxRecDepth 100000 in
set_option maxHeartbeats 4000000 in
theorem l_X9_takesE_28 (X : CX)   (K : Bool → Mm → Prop) : ∀ (n : Nat) (l1 : Int32) (l2 : Int32) (l3 : Int32) (mem : Mm), L_X9_takesE_28    K n l1 l2 l3 mem → GoC X 3 0 0 M_X9_takesE 28 [some (.ref (cx_n X + 82)), some (.int l1), some (.int l2), some (.int l3), none] [] 0 0 (cellAt X mem) (sz mem) (qm X (fun r m => ∃ b : Bool, r = some (.int (bZ b)) ∧ K b m))
  := by
  intro n
  induction n with
  | zero => intro l1 l2 l3 mem h; exact h.elim
  | succ n ih =>
    intro l1 l2 l3 mem h
    unfold L_X9_takesE_28 at h
    refine gc_iload_n dX9_takesE_28 rfl ?_
    refine gc_if_ne 39 dX9_takesE_29 (by decide) (fun hc => ?_) (fun hc => ?_)
    · have h := h.1 hc
      exact b_X9_takesE_39 X    (fun zl1 zl2 zl3 zm => L_X9_takesE_28   K n zl1 zl2 zl3 zm) K  ih l1 l2 l3 mem  h
    · have h := h.2 hc
      refine gc_aload_n dX9_takesE_32 rfl ?_
      refine go_getI dX9_takesE_33 lg_X9_230 (sz_lt (by decide)) kd_82 rfl ?_
      refine gc_if_eq 345 dX9_takesE_36 (by decide) (fun hc => ?_) (fun hc => ?_)
      · have h := h.1 hc
        refine gc_aload_n dX9_takesE_345 rfl ?_
        refine gc_iconst (v := 0) dX9_takesE_346 (by decide) ?_
        refine go_cVU (y := M_X9_settle) (As := [.int 0]) (rest := []) dX9_takesE_347 lm_X9_263 ok_X9_settle (by decide) (sz_lt (by decide)) kd_82 rfl rfl (w_X9_settle X 0 mem _ h) rfl (Nat.le_of_ble_eq_true rfl) (fun m_347 h => ?_)
        refine gc_iload_n dX9_takesE_350 rfl ?_
        refine gc_if_ne 358 dX9_takesE_351 (by decide) (fun hc => ?_) (fun hc => ?_)
        · have h := h.1 hc
          refine gc_iconst (v := 0) dX9_takesE_358 (by decide) ?_
          exact go_zret dX9_takesE_359 rfl (by decide) (Nat.le_refl _) (Nat.le_refl _) ⟨false, rfl, h⟩
        · have h := h.2 hc
          refine gc_iconst (v := 1) dX9_takesE_354 (by decide) ?_
          refine gc_goto 359 dX9_takesE_355 (by decide) ?_
          exact go_zret dX9_takesE_359 rfl (by decide) (Nat.le_refl _) (Nat.le_refl _) ⟨true, rfl, h⟩
      · have h := h.2 hc
        exact b_X9_takesE_39 X    (fun zl1 zl2 zl3 zm => L_X9_takesE_28   K n zl1 zl2 zl3 zm) K  ih l1 l2 l3 mem  h
def W_X9_takesE  (mem : Mm) (K : Bool → Mm → Prop) : Prop := ∀ m_8 : Mm, m_8 = mu mem 82 19 0 → (∀ m_13 : Mm, m_13 = mu m_8 82 20 0 → (∀ m_18 : Mm, m_18 = mu m_13 82 22 0 → (∀ m_27 : Mm, m_27 = mu m_18 94 0 0 → (∃ nz : Nat, L_X9_takesE_28    K nz 0 0 1 m_27))))
set_option maxRecDepth 100000 in
set_option maxHeartbeats 4000000 in
theorem w_X9_takesE (X : CX)  (mem : Mm) (K : Bool → Mm → Prop) (h : W_X9_takesE  mem K) : CallsZ X 3 M_X9_takesE [.ref (cx_n X + 82)] mem K := by
  unfold W_X9_takesE at h
  refine CallsC.ofP 4 (by decide) rfl (Nat.le_of_ble_eq_true rfl) ?_
  refine gc_iconst (v := 0) dX9_takesE_0 (by decide) ?_
  refine gc_istore_n dX9_takesE_1 (by decide) ?_
  refine gc_iconst (v := 0) dX9_takesE_2 (by decide) ?_
  refine gc_istore_n dX9_takesE_3 (by decide) ?_
  refine gc_iconst (v := 1) dX9_takesE_4 (by decide) ?_
  refine gc_istore_n dX9_takesE_5 (by decide) ?_
  refine gc_aload_n dX9_takesE_6 rfl ?_
  refine gc_iconst (v := 0) dX9_takesE_7 (by decide) ?_
  refine go_putI_ dX9_takesE_8 lp_X9_254 (sz_lt (by decide)) kd_82 rfl (fun m_8 em_8 => ?_)
  have h := h m_8 em_8
  refine gc_aload_n dX9_takesE_11 rfl ?_
  refine gc_iconst (v := 0) dX9_takesE_12 (by decide) ?_
  refine go_putI_ dX9_takesE_13 lp_X9_260 (sz_lt (by decide)) kd_82 rfl (fun m_13 em_13 => ?_)
  have h := h m_13 em_13
  refine gc_aload_n dX9_takesE_16 rfl ?_
  refine gc_iconst (v := 0) dX9_takesE_17 (by decide) ?_
  refine go_putI_ dX9_takesE_18 lp_X9_248 (sz_lt (by decide)) kd_82 rfl (fun m_18 em_18 => ?_)
  have h := h m_18 em_18
  refine gc_aload_n dX9_takesE_21 rfl ?_
  refine go_getR dX9_takesE_22 lg_X9_44 (sz_lt (by decide)) kd_82 rfl ?_
  refine gc_iconst (v := 0) dX9_takesE_25 (by decide) ?_
  refine gc_iconst (v := 0) dX9_takesE_26 (by decide) ?_
  refine go_zast_ 0 dX9_takesE_27 kd_94 rfl (by decide) (by decide) (by decide) (fun m_27 em_27 => ?_)
  have h := h m_27 em_27
  obtain ⟨n9, h⟩ := h
  exact l_X9_takesE_28 X     K   n9 0 0 1 m_27  h
