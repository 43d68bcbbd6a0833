def L_X8_addDifferences_50 (a1 : Nat) (kb21 : Int32 → Mm → Prop) (K : Mm → Prop) : Nat → Int32 → Int32 → Mm → Prop
  | 0, _, _, _ => False
  | n + 1, l2, l3, mem => ((mem 27 1) ≤ l3 → (kb21 (l2 + 1) mem)) ∧ (¬ (mem 27 1) ≤ l3 → (∃ i_67 : Nat, l3 = nI i_67 ∧ i_67 < 9 ∧ (∃ i_76 : Nat, l3 = nI i_76 ∧ i_76 < 9 ∧ (∃ i_85 : Nat, l2 = nI i_85 ∧ i_85 < 24 ∧ (∃ i_91 : Nat, l3 = nI i_91 ∧ i_91 < 9 ∧ (∀ m_91 : Mm, m_91 = mu mem 53 i_91 ((mem 53 i_67) + (if 0 ≤ ((mem (27 + 4 + i_76) 1) - (mem (a1 + 1) i_85)) then ((mem (27 + 4 + i_76) 1) - (mem (a1 + 1) i_85)) else 0 - ((mem (27 + 4 + i_76) 1) - (mem (a1 + 1) i_85)))) → (L_X8_addDifferences_50 a1 kb21 K n l2 (l3 + 1) m_91)))))))
set_option maxRecDepth 100000 in
set_option maxHeartbeats 4000000 in
theorem l_X8_addDifferences_50 (X : CX) (a1 : Nat) (ha1 : isSh a1) (kb21 : Int32 → Mm → Prop) (K : Mm → Prop) (hkb21 : ∀ (l2 : Int32) (mem : Mm), kb21 l2 mem → GoC X 18 0 0 M_X8_addDifferences 21 [some (.ref (cx_n X + 0)), some (.ref (cx_n X + a1)), some (.int l2), none] [] 0 0 (cellAt X mem) (sz mem) (qm X (fun r m => r = none ∧ K m))) : ∀ (n : Nat) (l2 : Int32) (l3 : Int32) (mem : Mm), L_X8_addDifferences_50 a1  kb21 K n l2 l3 mem → GoC X 18 0 0 M_X8_addDifferences 50 [some (.ref (cx_n X + 0)), some (.ref (cx_n X + a1)), some (.int l2), some (.int l3)] [] 0 0 (cellAt X mem) (sz mem) (qm X (fun r m => r = none ∧ K m))
  := by
  intro n
  induction n with
  | zero => intro l2 l3 mem h; exact h.elim
  | succ n ih =>
    intro l2 l3 mem h
    unfold L_X8_addDifferences_50 at h
    refine gc_iload_n dX8_addDifferences_50 rfl ?_
    refine gc_aload_n dX8_addDifferences_51 rfl ?_
    refine go_getR dX8_addDifferences_52 lg_X8_19 (sz_lt (by decide)) kd_0 rfl ?_
    refine go_getI dX8_addDifferences_55 lg_X8_75 (sz_lt (al_lt al_27)) (al_kd al_27) rfl ?_
    refine gc_icmp_ge 98 dX8_addDifferences_58 (by decide) (fun hc => ?_) (fun hc => ?_)
    · have h := h.1 hc
      refine gc_iinc (v := l2 + 1) dX8_addDifferences_98 rfl rfl (by decide) ?_
      refine gc_goto 21 dX8_addDifferences_101 (by decide) ?_
      refine gc_forget 3 ?_
      exact hkb21 (l2 + 1) mem  h
    · have h := h.2 hc
      refine gc_aload_n dX8_addDifferences_61 rfl ?_
      refine go_getR dX8_addDifferences_62 lg_X8_65 (sz_lt (by decide)) kd_0 rfl ?_
      refine gc_iload_n dX8_addDifferences_65 rfl ?_
      refine gc_dup2 dX8_addDifferences_66 rfl rfl ?_
      obtain ⟨i_67, hx_67, hi_67, h⟩ := h
      refine go_iald i_67 dX8_addDifferences_67 kd_53 hx_67 hi_67 ?_
      refine gc_aload_n dX8_addDifferences_68 rfl ?_
      refine go_getR dX8_addDifferences_69 lg_X8_19 (sz_lt (by decide)) kd_0 rfl ?_
      refine go_getR dX8_addDifferences_72 lg_X8_87 (sz_lt (al_lt al_27)) (al_kd al_27) rfl ?_
      refine gc_iload_n dX8_addDifferences_75 rfl ?_
      obtain ⟨i_76, hx_76, hi_76, h⟩ := h
      refine go_men i_76 al_27 dX8_addDifferences_76 hx_76 hi_76 ?_
      refine go_getI dX8_addDifferences_77 lg_X8_96 (sz_lt (al_man al_27 hi_76).2) (al_man al_27 hi_76).1 rfl ?_
      refine gc_aload_n dX8_addDifferences_80 rfl ?_
      refine go_getR dX8_addDifferences_81 lg_X8_238 (sz_lt ha1.2.2) ha1.1 rfl ?_
      refine gc_iload_n dX8_addDifferences_84 rfl ?_
      obtain ⟨i_85, hx_85, hi_85, h⟩ := h
      refine go_iald i_85 dX8_addDifferences_85 ha1.2.1 hx_85 hi_85 ?_
      refine gc_isub dX8_addDifferences_86 ?_
      refine gc_mabs dX8_addDifferences_87 lmm_X8_241 (by decide) (Nat.le_of_ble_eq_true rfl) (Nat.le_refl _) (Nat.le_refl _) ?_
      refine gc_iadd dX8_addDifferences_90 ?_
      obtain ⟨i_91, hx_91, hi_91, h⟩ := h
      refine go_iast_ i_91 dX8_addDifferences_91 kd_53 hx_91 hi_91 (by decide) (fun m_91 em_91 => ?_)
      have h := h m_91 em_91
      refine gc_iinc (v := l3 + 1) dX8_addDifferences_92 rfl rfl (by decide) ?_
      refine gc_goto 50 dX8_addDifferences_95 (by decide) ?_
      exact ih l2 (l3 + 1) m_91  h
def L_X8_addDifferences_21 (a1 : Nat) (K : Mm → Prop) : Nat → Int32 → Mm → Prop
  | 0, _, _ => False
  | n + 1, l2, mem => ((mem a1 1) ≤ l2 → (K mem)) ∧ (¬ (mem a1 1) ≤ l2 → ((l2 ≤ 0 → (W_X3_isNumber a1 l2 mem (fun v_42 m_42 => ((bZ v_42) = 0 → (L_X8_addDifferences_21 a1  K n (l2 + 1) m_42)) ∧ (¬ (bZ v_42) = 0 → (∃ nz : Nat, L_X8_addDifferences_50 a1  (fun zl2 zm => L_X8_addDifferences_21 a1  K n zl2 zm) K nz l2 0 m_42))))) ∧ (¬ l2 ≤ 0 → (W_X0_goOnce 27 mem (fun m_37 => W_X3_isNumber a1 l2 m_37 (fun v_42 m_42 => ((bZ v_42) = 0 → (L_X8_addDifferences_21 a1  K n (l2 + 1) m_42)) ∧ (¬ (bZ v_42) = 0 → (∃ nz : Nat, L_X8_addDifferences_50 a1  (fun zl2 zm => L_X8_addDifferences_21 a1  K n zl2 zm) K nz l2 0 m_42))))))))
set_option maxRecDepth 100000 in
set_option maxHeartbeats 4000000 in
theorem l_X8_addDifferences_21 (X : CX) (a1 : Nat) (ha1 : isSh a1) (K : Mm → Prop) : ∀ (n : Nat) (l2 : Int32) (mem : Mm), L_X8_addDifferences_21 a1   K n l2 mem → GoC X 18 0 0 M_X8_addDifferences 21 [some (.ref (cx_n X + 0)), some (.ref (cx_n X + a1)), some (.int l2), none] [] 0 0 (cellAt X mem) (sz mem) (qm X (fun r m => r = none ∧ K m))
  := by
  intro n
  induction n with
  | zero => intro l2 mem h; exact h.elim
  | succ n ih =>
    intro l2 mem h
    unfold L_X8_addDifferences_21 at h
    refine gc_iload_n dX8_addDifferences_21 rfl ?_
    refine gc_aload_n dX8_addDifferences_22 rfl ?_
    refine go_getI dX8_addDifferences_23 lg_X8_234 (sz_lt ha1.2.2) ha1.1 rfl ?_
    refine gc_icmp_ge 104 dX8_addDifferences_26 (by decide) (fun hc => ?_) (fun hc => ?_)
    · have h := h.1 hc
      exact go_vret dX8_addDifferences_104 rfl (Nat.le_refl _) (Nat.le_refl _) ⟨rfl, h⟩
    · have h := h.2 hc
      refine gc_iload_n dX8_addDifferences_29 rfl ?_
      refine gc_if_le 40 dX8_addDifferences_30 (by decide) (fun hc => ?_) (fun hc => ?_)
      · have h := h.1 hc
        refine gc_aload_n dX8_addDifferences_40 rfl ?_
        refine gc_iload_n dX8_addDifferences_41 rfl ?_
        refine go_cVZ (y := M_X3_isNumber) (As := [.int l2]) (rest := []) dX8_addDifferences_42 lm_X8_235 ok_X3_isNumber (by decide) (sz_lt ha1.2.2) ha1.1 rfl rfl (w_X3_isNumber X a1 ha1 l2 mem _ h) rfl (Nat.le_of_ble_eq_true rfl) (fun v_42 m_42 h => ?_)
        refine gc_if_eq 98 dX8_addDifferences_45 (by decide) (fun hc => ?_) (fun hc => ?_)
        · have h := h.1 hc
          refine gc_iinc (v := l2 + 1) dX8_addDifferences_98 rfl rfl (by decide) ?_
          refine gc_goto 21 dX8_addDifferences_101 (by decide) ?_
          exact ih (l2 + 1) m_42  h
        · have h := h.2 hc
          refine gc_iconst (v := 0) dX8_addDifferences_48 (by decide) ?_
          refine gc_istore_n dX8_addDifferences_49 (by decide) ?_
          obtain ⟨n9, h⟩ := h
          exact l_X8_addDifferences_50 X a1 ha1  (fun zl2 zm => L_X8_addDifferences_21 a1  K n zl2 zm) K  ih n9 l2 0 m_42  h
      · have h := h.2 hc
        refine gc_aload_n dX8_addDifferences_33 rfl ?_
        refine go_getR dX8_addDifferences_34 lg_X8_19 (sz_lt (by decide)) kd_0 rfl ?_
        refine go_cVU (y := M_X0_goOnce) (As := []) (rest := []) dX8_addDifferences_37 lm_X8_213 ok_X0_goOnce (by decide) (sz_lt (al_lt al_27)) (al_kd al_27) rfl rfl (w_X0_goOnce X 27 al_27 mem _ h) rfl (Nat.le_of_ble_eq_true rfl) (fun m_37 h => ?_)
        refine gc_aload_n dX8_addDifferences_40 rfl ?_
        refine gc_iload_n dX8_addDifferences_41 rfl ?_
        refine go_cVZ (y := M_X3_isNumber) (As := [.int l2]) (rest := []) dX8_addDifferences_42 lm_X8_235 ok_X3_isNumber (by decide) (sz_lt ha1.2.2) ha1.1 rfl rfl (w_X3_isNumber X a1 ha1 l2 m_37 _ h) rfl (Nat.le_of_ble_eq_true rfl) (fun v_42 m_42 h => ?_)
        refine gc_if_eq 98 dX8_addDifferences_45 (by decide) (fun hc => ?_) (fun hc => ?_)
        · have h := h.1 hc
          refine gc_iinc (v := l2 + 1) dX8_addDifferences_98 rfl rfl (by decide) ?_
          refine gc_goto 21 dX8_addDifferences_101 (by decide) ?_
          exact ih (l2 + 1) m_42  h
        · have h := h.2 hc
          refine gc_iconst (v := 0) dX8_addDifferences_48 (by decide) ?_
          refine gc_istore_n dX8_addDifferences_49 (by decide) ?_
          obtain ⟨n9, h⟩ := h
          exact l_X8_addDifferences_50 X a1 ha1  (fun zl2 zm => L_X8_addDifferences_21 a1  K n zl2 zm) K  ih n9 l2 0 m_42  h
def W_X8_addDifferences (a1 : Nat) (mem : Mm) (K : Mm → Prop) : Prop := W_J7_fill_53178 53 9 0 mem (fun m_5 => W_X0_becomeAs 27 1 m_5 (fun m_16 => ∃ nz : Nat, L_X8_addDifferences_21 a1   K nz 0 m_16))
set_option maxRecDepth 100000 in
set_option maxHeartbeats 4000000 in
theorem w_X8_addDifferences (X : CX) (a1 : Nat) (ha1 : isSh a1) (mem : Mm) (K : Mm → Prop) (h : W_X8_addDifferences a1 mem K) : CallsU X 18 M_X8_addDifferences [.ref (cx_n X + 0), .ref (cx_n X + a1)] mem K := by
  unfold W_X8_addDifferences at h
  refine CallsC.ofP 2 (by decide) rfl (Nat.le_of_ble_eq_true rfl) ?_
  refine gc_aload_n dX8_addDifferences_0 rfl ?_
  refine go_getR dX8_addDifferences_1 lg_X8_65 (sz_lt (by decide)) kd_0 rfl ?_
  refine gc_iconst (v := 0) dX8_addDifferences_4 (by decide) ?_
  refine go_cSU (y := M_J7_fill_53178) (As := [.ref (cx_n X + 53), .int 0]) (rest := []) dX8_addDifferences_5 lm_X8_228 ok_J7_fill_53178 (by decide) (w_J7_fill_53178 X 53 9 ⟨kd_53, by decide⟩ 0 mem _ h) rfl (Nat.le_of_ble_eq_true rfl) (fun m_5 h => ?_)
  refine gc_aload_n dX8_addDifferences_8 rfl ?_
  refine go_getR dX8_addDifferences_9 lg_X8_19 (sz_lt (by decide)) kd_0 rfl ?_
  refine gc_aload_n dX8_addDifferences_12 rfl ?_
  refine go_getR dX8_addDifferences_13 lg_X8_10 (sz_lt (by decide)) kd_0 rfl ?_
  refine go_cVU (y := M_X0_becomeAs) (As := [.ref (cx_n X + 1)]) (rest := []) dX8_addDifferences_16 lm_X8_209 ok_X0_becomeAs (by decide) (sz_lt (al_lt al_27)) (al_kd al_27) rfl rfl (w_X0_becomeAs X 27 al_27 1 al_1 m_5 _ h) rfl (Nat.le_of_ble_eq_true rfl) (fun m_16 h => ?_)
  refine gc_iconst (v := 0) dX8_addDifferences_19 (by decide) ?_
  refine gc_istore_n dX8_addDifferences_20 (by decide) ?_
  obtain ⟨n9, h⟩ := h
  exact l_X8_addDifferences_21 X a1 ha1   K   n9 0 m_16  h
def L_X8_like_62 (p0 : Int32) (p1 : Int32) (K : Int32 → Mm → Prop) : Nat → Int32 → Int32 → Int32 → Mm → Prop
  | 0, _, _, _, _ => False
  | n + 1, l2, l3, l4, mem => ((mem 1 1) ≤ l4 → ((¬ l2 = 0 → (∃ i_112 : Nat, l3 = nI i_112 ∧ i_112 < 9 ∧ (K (mem 53 i_112) mem))) ∧ (l2 = 0 → (K l3 mem)))) ∧ (¬ (mem 1 1) ≤ l4 → (∃ i_80 : Nat, l4 = nI i_80 ∧ i_80 < 9 ∧ (∃ i_86 : Nat, l3 = nI i_86 ∧ i_86 < 9 ∧ (((mem 53 i_86) ≤ (mem 53 i_80) → (L_X8_like_62 p0 p1  K n l2 l3 (l4 + 1) mem)) ∧ (¬ (mem 53 i_86) ≤ (mem 53 i_80) → (L_X8_like_62 p0 p1  K n l2 l4 (l4 + 1) mem))))))
set_option maxRecDepth 100000 in
set_option maxHeartbeats 4000000 in
theorem l_X8_like_62 (X : CX) (p0 : Int32) (p1 : Int32)  (K : Int32 → Mm → Prop) : ∀ (n : Nat) (l2 : Int32) (l3 : Int32) (l4 : Int32) (mem : Mm), L_X8_like_62 p0 p1   K n l2 l3 l4 mem → GoC X 19 0 0 M_X8_like 62 [some (.ref (cx_n X + 0)), none, some (.int l2), some (.int l3), some (.int l4)] [] 0 0 (cellAt X mem) (sz mem) (qm X (fun r m => ∃ v : Int32, r = some (.int v) ∧ K v m))
  := by
  intro n
  induction n with
  | zero => intro l2 l3 l4 mem h; exact h.elim
  | succ n ih =>
    intro l2 l3 l4 mem h
    unfold L_X8_like_62 at h
    refine gc_iload dX8_like_62 rfl ?_
    refine gc_aload_n dX8_like_64 rfl ?_
    refine go_getR dX8_like_65 lg_X8_10 (sz_lt (by decide)) kd_0 rfl ?_
    refine go_getI dX8_like_68 lg_X8_75 (sz_lt (al_lt al_1)) (al_kd al_1) rfl ?_
    refine gc_icmp_ge 99 dX8_like_71 (by decide) (fun hc => ?_) (fun hc => ?_)
    · have h := h.1 hc
      refine gc_iload_n dX8_like_99 rfl ?_
      refine gc_if_ne 107 dX8_like_100 (by decide) (fun hc => ?_) (fun hc => ?_)
      · have h := h.1 hc
        refine gc_aload_n dX8_like_107 rfl ?_
        refine go_getR dX8_like_108 lg_X8_65 (sz_lt (by decide)) kd_0 rfl ?_
        refine gc_iload_n dX8_like_111 rfl ?_
        obtain ⟨i_112, hx_112, hi_112, h⟩ := h
        refine go_iald i_112 dX8_like_112 kd_53 hx_112 hi_112 ?_
        exact go_iret dX8_like_113 rfl (Nat.le_refl _) (Nat.le_refl _) ⟨_, rfl, h⟩
      · have h := h.2 hc
        refine gc_iload_n dX8_like_103 rfl ?_
        refine gc_goto 113 dX8_like_104 (by decide) ?_
        exact go_iret dX8_like_113 rfl (Nat.le_refl _) (Nat.le_refl _) ⟨_, rfl, h⟩
    · have h := h.2 hc
      refine gc_aload_n dX8_like_74 rfl ?_
      refine go_getR dX8_like_75 lg_X8_65 (sz_lt (by decide)) kd_0 rfl ?_
      refine gc_iload dX8_like_78 rfl ?_
      obtain ⟨i_80, hx_80, hi_80, h⟩ := h
      refine go_iald i_80 dX8_like_80 kd_53 hx_80 hi_80 ?_
      refine gc_aload_n dX8_like_81 rfl ?_
      refine go_getR dX8_like_82 lg_X8_65 (sz_lt (by decide)) kd_0 rfl ?_
      refine gc_iload_n dX8_like_85 rfl ?_
      obtain ⟨i_86, hx_86, hi_86, h⟩ := h
      refine go_iald i_86 dX8_like_86 kd_53 hx_86 hi_86 ?_
      refine gc_icmp_ge 93 dX8_like_87 (by decide) (fun hc => ?_) (fun hc => ?_)
      · have h := h.1 hc
        refine gc_iinc (v := l4 + 1) dX8_like_93 rfl rfl (by decide) ?_
        refine gc_goto 62 dX8_like_96 (by decide) ?_
        exact ih l2 l3 (l4 + 1) mem  h
      · have h := h.2 hc
        refine gc_iload dX8_like_90 rfl ?_
        refine gc_istore_n dX8_like_92 (by decide) ?_
        refine gc_iinc (v := l4 + 1) dX8_like_93 rfl rfl (by decide) ?_
        refine gc_goto 62 dX8_like_96 (by decide) ?_
        exact ih l2 l4 (l4 + 1) mem  h
def W_X8_like (p0 : Int32) (p1 : Int32) (mem : Mm) (K : Int32 → Mm → Prop) : Prop := W_X8_isSheet p0 mem (fun v_1 m_1 => ((bZ v_1) = 0 → (K (-1000000001) m_1)) ∧ (¬ (bZ v_1) = 0 → (W_X8_isWithin p1 0 1 m_1 (fun v_10 m_10 => (¬ (bZ v_10) = 0 → (∃ i_24 : Nat, p0 = nI i_24 ∧ i_24 < 4 ∧ (W_X3_isMissing (54 + 2 * i_24) m_10 (fun v_25 m_25 => ((bZ v_25) = 0 → ((¬ (m_25 1 1) = 0 → (∃ i_53 : Nat, p0 = nI i_53 ∧ i_53 < 4 ∧ (W_X8_addDifferences (54 + 2 * i_53) m_25 (fun m_54 => ∃ nz : Nat, L_X8_like_62 p0 p1   K nz p1 0 1 m_54)))) ∧ ((m_25 1 1) = 0 → (K (-1000000005) m_25)))) ∧ (¬ (bZ v_25) = 0 → (K (-1000000011) m_25)))))) ∧ ((bZ v_10) = 0 → (K (-1000000001) m_10))))))
set_option maxRecDepth 100000 in
set_option maxHeartbeats 4000000 in
theorem w_X8_like (X : CX) (p0 : Int32) (p1 : Int32) (mem : Mm) (K : Int32 → Mm → Prop) (h : W_X8_like p0 p1 mem K) : CallsI X 19 M_X8_like [.ref (cx_n X + 0), .int p0, .int p1] mem K := by
  unfold W_X8_like at h
  refine CallsC.ofP 2 (by decide) rfl (Nat.le_of_ble_eq_true rfl) ?_
  refine gc_iload_n dX8_like_0 rfl ?_
  refine go_cSZ (y := M_X8_isSheet) (As := [.int p0]) (rest := []) dX8_like_1 lm_X8_216 ok_X8_isSheet (by decide) (w_X8_isSheet X p0 mem _ h) rfl (Nat.le_of_ble_eq_true rfl) (fun v_1 m_1 h => ?_)
  refine gc_if_eq 16 dX8_like_4 (by decide) (fun hc => ?_) (fun hc => ?_)
  · have h := h.1 hc
    refine gc_ldc (v := (-1000000001)) dX8_like_16 lk_X8_74 ?_
    exact go_iret dX8_like_18 rfl (Nat.le_refl _) (Nat.le_refl _) ⟨_, rfl, h⟩
  · have h := h.2 hc
    refine gc_iload_n dX8_like_7 rfl ?_
    refine gc_iconst (v := 0) dX8_like_8 (by decide) ?_
    refine gc_iconst (v := 1) dX8_like_9 (by decide) ?_
    refine go_cSZ (y := M_X8_isWithin) (As := [.int p1, .int 0, .int 1]) (rest := []) dX8_like_10 lm_X8_70 ok_X8_isWithin (by decide) (w_X8_isWithin X p1 0 1 m_1 _ h) rfl (Nat.le_of_ble_eq_true rfl) (fun v_10 m_10 h => ?_)
    refine gc_if_ne 19 dX8_like_13 (by decide) (fun hc => ?_) (fun hc => ?_)
    · have h := h.1 hc
      refine gc_aload_n dX8_like_19 rfl ?_
      refine go_getR dX8_like_20 lg_X8_47 (sz_lt (by decide)) kd_0 rfl ?_
      refine gc_iload_n dX8_like_23 rfl ?_
      obtain ⟨i_24, hx_24, hi_24, h⟩ := h
      refine go_sheets i_24 dX8_like_24 hx_24 hi_24 ?_
      refine go_cVZ (y := M_X3_isMissing) (As := []) (rest := []) dX8_like_25 lm_X8_219 ok_X3_isMissing (by decide) (sz_lt (sh_ok hi_24).2.2) (sh_ok hi_24).1 rfl rfl (w_X3_isMissing X (54 + 2 * i_24) (sh_ok hi_24) m_10 _ h) rfl (Nat.le_of_ble_eq_true rfl) (fun v_25 m_25 h => ?_)
      refine gc_if_eq 34 dX8_like_28 (by decide) (fun hc => ?_) (fun hc => ?_)
      · have h := h.1 hc
        refine gc_aload_n dX8_like_34 rfl ?_
        refine go_getR dX8_like_35 lg_X8_10 (sz_lt (by decide)) kd_0 rfl ?_
        refine go_getI dX8_like_38 lg_X8_75 (sz_lt (al_lt al_1)) (al_kd al_1) rfl ?_
        refine gc_if_ne 47 dX8_like_41 (by decide) (fun hc => ?_) (fun hc => ?_)
        · have h := h.1 hc
          refine gc_aload_n dX8_like_47 rfl ?_
          refine gc_aload_n dX8_like_48 rfl ?_
          refine go_getR dX8_like_49 lg_X8_47 (sz_lt (by decide)) kd_0 rfl ?_
          refine gc_iload_n dX8_like_52 rfl ?_
          obtain ⟨i_53, hx_53, hi_53, h⟩ := h
          refine go_sheets i_53 dX8_like_53 hx_53 hi_53 ?_
          refine go_cVU (y := M_X8_addDifferences) (As := [.ref (cx_n X + (54 + 2 * i_53))]) (rest := []) dX8_like_54 lm_X8_224 ok_X8_addDifferences (by decide) (sz_lt (by decide)) kd_0 rfl rfl (w_X8_addDifferences X (54 + 2 * i_53) (sh_ok hi_53) m_25 _ h) rfl (Nat.le_of_ble_eq_true rfl) (fun m_54 h => ?_)
          refine gc_iconst (v := 0) dX8_like_57 (by decide) ?_
          refine gc_istore_n dX8_like_58 (by decide) ?_
          refine gc_iconst (v := 1) dX8_like_59 (by decide) ?_
          refine gc_istore dX8_like_60 (by decide) ?_
          refine gc_forget 1 ?_
          obtain ⟨n9, h⟩ := h
          exact l_X8_like_62 X p0 p1    K   n9 p1 0 1 m_54  h
        · have h := h.2 hc
          refine gc_ldc (v := (-1000000005)) dX8_like_44 lk_X8_183 ?_
          exact go_iret dX8_like_46 rfl (Nat.le_refl _) (Nat.le_refl _) ⟨_, rfl, h⟩
      · have h := h.2 hc
        refine gc_ldc (v := (-1000000011)) dX8_like_31 lk_X8_223 ?_
        exact go_iret dX8_like_33 rfl (Nat.le_refl _) (Nat.le_refl _) ⟨_, rfl, h⟩
    · have h := h.2 hc
      refine gc_ldc (v := (-1000000001)) dX8_like_16 lk_X8_74 ?_
      exact go_iret dX8_like_18 rfl (Nat.le_refl _) (Nat.le_refl _) ⟨_, rfl, h⟩
def W_X8_fee  (mem : Mm) (K : Int32 → Mm → Prop) : Prop := W_X0_counted 1 1 mem (fun v_5 m_5 => (v_5 < 0 → (K (m_5 1 2) m_5)) ∧ (¬ v_5 < 0 → (v_5.toNatClampNeg < nTx m_5 ∧ W_X6_gives v_5.toNatClampNeg (m_5 1 2) (m_5 1 3) 0 0 m_5 (fun v_40 m_40 => K v_40 m_40))))
set_option maxRecDepth 100000 in
set_option maxHeartbeats 4000000 in
theorem w_X8_fee (X : CX)  (mem : Mm) (K : Int32 → Mm → Prop) (h : W_X8_fee  mem K) : CallsI X 2 M_X8_fee [.ref (cx_n X + 0)] mem K := by
  unfold W_X8_fee at h
  refine CallsC.ofP 1 (by decide) rfl (Nat.le_of_ble_eq_true rfl) ?_
  refine gc_aload_n dX8_fee_0 rfl ?_
  refine go_getR dX8_fee_1 lg_X8_10 (sz_lt (by decide)) kd_0 rfl ?_
  refine gc_iconst (v := 1) dX8_fee_4 (by decide) ?_
  refine go_cVT (y := M_X0_counted) (As := [.int 1]) (rest := []) dX8_fee_5 lm_X8_244 ok_X0_counted (by decide) (sz_lt (al_lt al_1)) (al_kd al_1) rfl rfl (w_X0_counted X 1 al_1 1 mem _ h) rfl (Nat.le_of_ble_eq_true rfl) (fun v_5 m_5 hv h => ?_) (fun v_5 m_5 hv h => ?_)
  · have h := h.1 hv
    refine gc_astoreN_n dX8_fee_8 (by decide) ?_
    refine gc_aloadN_n dX8_fee_9 rfl ?_
    refine gc_ifnonnullN dX8_fee_10 ?_
    refine gc_aload_n dX8_fee_13 rfl ?_
    refine go_getR dX8_fee_14 lg_X8_10 (sz_lt (by decide)) kd_0 rfl ?_
    refine go_getI dX8_fee_17 lg_X8_137 (sz_lt (al_lt al_1)) (al_kd al_1) rfl ?_
    refine gc_goto 43 dX8_fee_20 (by decide) ?_
    exact go_iret dX8_fee_43 rfl (Nat.le_refl _) (Nat.le_refl _) ⟨_, rfl, h⟩
  · have h := h.2 hv
    refine gc_astore_n dX8_fee_8 (by decide) ?_
    refine gc_aload_n dX8_fee_9 rfl ?_
    refine gc_ifnonnull 23 dX8_fee_10 (by decide) ?_
    refine gc_aload_n dX8_fee_23 rfl ?_
    refine gc_aload_n dX8_fee_24 rfl ?_
    refine go_getR dX8_fee_25 lg_X8_10 (sz_lt (by decide)) kd_0 rfl ?_
    refine go_getI dX8_fee_28 lg_X8_137 (sz_lt (al_lt al_1)) (al_kd al_1) rfl ?_
    refine gc_aload_n dX8_fee_31 rfl ?_
    refine go_getR dX8_fee_32 lg_X8_10 (sz_lt (by decide)) kd_0 rfl ?_
    refine go_getI dX8_fee_35 lg_X8_168 (sz_lt (al_lt al_1)) (al_kd al_1) rfl ?_
    refine gc_iconst (v := 0) dX8_fee_38 (by decide) ?_
    refine gc_iconst (v := 0) dX8_fee_39 (by decide) ?_
    obtain ⟨hj, h⟩ := h
    refine go_cVI (y := M_X6_gives) (As := [.int (m_5 1 2), .int (m_5 1 3), .int 0, .int 0]) (rest := []) dX8_fee_40 lm_X8_248 ok_X6_gives (by decide) (by have := tx_lt hj; omega) (kd_tx _) rfl rfl (w_X6_gives X v_5.toNatClampNeg (m_5 1 2) (m_5 1 3) 0 0 m_5 _ h) rfl (Nat.le_of_ble_eq_true rfl) (fun v_40 m_40 h => ?_)
    exact go_iret dX8_fee_43 rfl (Nat.le_refl _) (Nat.le_refl _) ⟨_, rfl, h⟩
def W_X8_fine (p0 : Int32) (mem : Mm) (K : Int32 → Mm → Prop) : Prop := W_X0_has 1 p0 mem (fun v_5 m_5 => (¬ (bZ v_5) = 0 → (∃ i_22 : Nat, p0 = nI i_22 ∧ i_22 < 9 ∧ (W_X0_counted 1 2 m_5 (fun v_29 m_29 => (v_29 < 0 → (K (m_29 (1 + 4 + i_22) 1) m_29)) ∧ (¬ v_29 < 0 → (v_29.toNatClampNeg < nTx m_29 ∧ W_X6_gives v_29.toNatClampNeg (m_29 (1 + 4 + i_22) 1) (m_29 (1 + 4 + i_22) 2) 0 0 m_29 (fun v_55 m_55 => K v_55 m_55))))))) ∧ ((bZ v_5) = 0 → (K (-1000000001) m_5)))
set_option maxRecDepth 100000 in
set_option maxHeartbeats 4000000 in
theorem w_X8_fine (X : CX) (p0 : Int32) (mem : Mm) (K : Int32 → Mm → Prop) (h : W_X8_fine p0 mem K) : CallsI X 2 M_X8_fine [.ref (cx_n X + 0), .int p0] mem K := by
  unfold W_X8_fine at h
  refine CallsC.ofP 2 (by decide) rfl (Nat.le_of_ble_eq_true rfl) ?_
  refine gc_aload_n dX8_fine_0 rfl ?_
  refine go_getR dX8_fine_1 lg_X8_10 (sz_lt (by decide)) kd_0 rfl ?_
  refine gc_iload_n dX8_fine_4 rfl ?_
  refine go_cVZ (y := M_X0_has) (As := [.int p0]) (rest := []) dX8_fine_5 lm_X8_83 ok_X0_has (by decide) (sz_lt (al_lt al_1)) (al_kd al_1) rfl rfl (w_X0_has X 1 al_1 p0 mem _ h) rfl (Nat.le_of_ble_eq_true rfl) (fun v_5 m_5 h => ?_)
  refine gc_if_ne 14 dX8_fine_8 (by decide) (fun hc => ?_) (fun hc => ?_)
  · have h := h.1 hc
    refine gc_aload_n dX8_fine_14 rfl ?_
    refine go_getR dX8_fine_15 lg_X8_10 (sz_lt (by decide)) kd_0 rfl ?_
    refine go_getR dX8_fine_18 lg_X8_87 (sz_lt (al_lt al_1)) (al_kd al_1) rfl ?_
    refine gc_iload_n dX8_fine_21 rfl ?_
    obtain ⟨i_22, hx_22, hi_22, h⟩ := h
    refine go_men i_22 al_1 dX8_fine_22 hx_22 hi_22 ?_
    refine gc_astore_n dX8_fine_23 (by decide) ?_
    refine gc_aload_n dX8_fine_24 rfl ?_
    refine go_getR dX8_fine_25 lg_X8_10 (sz_lt (by decide)) kd_0 rfl ?_
    refine gc_iconst (v := 2) dX8_fine_28 (by decide) ?_
    refine go_cVT (y := M_X0_counted) (As := [.int 2]) (rest := []) dX8_fine_29 lm_X8_244 ok_X0_counted (by decide) (sz_lt (al_lt al_1)) (al_kd al_1) rfl rfl (w_X0_counted X 1 al_1 2 m_5 _ h) rfl (Nat.le_of_ble_eq_true rfl) (fun v_29 m_29 hv h => ?_) (fun v_29 m_29 hv h => ?_)
    · have h := h.1 hv
      refine gc_astoreN_n dX8_fine_32 (by decide) ?_
      refine gc_aloadN_n dX8_fine_33 rfl ?_
      refine gc_ifnonnullN dX8_fine_34 ?_
      refine gc_aload_n dX8_fine_37 rfl ?_
      refine go_getI dX8_fine_38 lg_X8_96 (sz_lt (al_man al_1 hi_22).2) (al_man al_1 hi_22).1 rfl ?_
      refine gc_goto 58 dX8_fine_41 (by decide) ?_
      exact go_iret dX8_fine_58 rfl (Nat.le_refl _) (Nat.le_refl _) ⟨_, rfl, h⟩
    · have h := h.2 hv
      refine gc_astore_n dX8_fine_32 (by decide) ?_
      refine gc_aload_n dX8_fine_33 rfl ?_
      refine gc_ifnonnull 44 dX8_fine_34 (by decide) ?_
      refine gc_aload_n dX8_fine_44 rfl ?_
      refine gc_aload_n dX8_fine_45 rfl ?_
      refine go_getI dX8_fine_46 lg_X8_96 (sz_lt (al_man al_1 hi_22).2) (al_man al_1 hi_22).1 rfl ?_
      refine gc_aload_n dX8_fine_49 rfl ?_
      refine go_getI dX8_fine_50 lg_X8_99 (sz_lt (al_man al_1 hi_22).2) (al_man al_1 hi_22).1 rfl ?_
      refine gc_iconst (v := 0) dX8_fine_53 (by decide) ?_
      refine gc_iconst (v := 0) dX8_fine_54 (by decide) ?_
      obtain ⟨hj, h⟩ := h
      refine go_cVI (y := M_X6_gives) (As := [.int (m_29 (1 + 4 + i_22) 1), .int (m_29 (1 + 4 + i_22) 2), .int 0, .int 0]) (rest := []) dX8_fine_55 lm_X8_248 ok_X6_gives (by decide) (by have := tx_lt hj; omega) (kd_tx _) rfl rfl (w_X6_gives X v_29.toNatClampNeg (m_29 (1 + 4 + i_22) 1) (m_29 (1 + 4 + i_22) 2) 0 0 m_29 _ h) rfl (Nat.le_of_ble_eq_true rfl) (fun v_55 m_55 h => ?_)
      exact go_iret dX8_fine_58 rfl (Nat.le_refl _) (Nat.le_refl _) ⟨_, rfl, h⟩
  · have h := h.2 hc
    refine gc_ldc (v := (-1000000001)) dX8_fine_11 lk_X8_74 ?_
    exact go_iret dX8_fine_13 rfl (Nat.le_refl _) (Nat.le_refl _) ⟨_, rfl, h⟩
def L_X5_put_3 (p0 : Int32) (K : Mm → Prop) : Nat → Int32 → Int32 → Mm → Prop
  | 0, _, _, _ => False
  | n + 1, l1, l2, mem => (l2 < 0 → (K mem)) ∧ (¬ l2 < 0 → ((96 ≤ (mem 46 1) → (K mem)) ∧ (¬ 96 ≤ (mem 46 1) → (∃ i_28 : Nat, (mem 46 1) = nI i_28 ∧ i_28 < 96 ∧ (∀ m_28 : Mm, m_28 = mu mem (46 + 1) i_28 ((l1 >>> (l2 &&& 31)).toInt8.toInt32) → (∀ m_36 : Mm, m_36 = mu m_28 46 1 ((m_28 46 1) + 1) → (L_X5_put_3 p0  K n l1 (l2 + (-8)) m_36)))))))
set_option maxRecDepth 100000 in
set_option maxHeartbeats 4000000 in
theorem l_X5_put_3 (X : CX) (p0 : Int32)  (K : Mm → Prop) : ∀ (n : Nat) (l1 : Int32) (l2 : Int32) (mem : Mm), L_X5_put_3 p0   K n l1 l2 mem → GoC X 0 0 0 M_X5_put 3 [some (.ref (cx_n X + 46)), some (.int l1), some (.int l2)] [] 0 0 (cellAt X mem) (sz mem) (qm X (fun r m => r = none ∧ K m))
  := by
  intro n
  induction n with
  | zero => intro l1 l2 mem h; exact h.elim
  | succ n ih =>
    intro l1 l2 mem h
    unfold L_X5_put_3 at h
    refine gc_iload_n dX5_put_3 rfl ?_
    refine gc_if_lt 45 dX5_put_4 (by decide) (fun hc => ?_) (fun hc => ?_)
    · have h := h.1 hc
      exact go_vret dX5_put_45 rfl (Nat.le_refl _) (Nat.le_refl _) ⟨rfl, h⟩
    · have h := h.2 hc
      refine gc_aload_n dX5_put_7 rfl ?_
      refine go_getI dX5_put_8 lg_X5_15 (sz_lt (by decide)) kd_46 rfl ?_
      refine gc_bipush (v := 96) dX5_put_11 (by decide) ?_
      refine gc_icmp_ge 45 dX5_put_13 (by decide) (fun hc => ?_) (fun hc => ?_)
      · have h := h.1 hc
        exact go_vret dX5_put_45 rfl (Nat.le_refl _) (Nat.le_refl _) ⟨rfl, h⟩
      · have h := h.2 hc
        refine gc_aload_n dX5_put_16 rfl ?_
        refine go_getR dX5_put_17 lg_X5_9 (sz_lt (by decide)) kd_46 rfl ?_
        refine gc_aload_n dX5_put_20 rfl ?_
        refine go_getI dX5_put_21 lg_X5_15 (sz_lt (by decide)) kd_46 rfl ?_
        refine gc_iload_n dX5_put_24 rfl ?_
        refine gc_iload_n dX5_put_25 rfl ?_
        refine gc_ishr dX5_put_26 ?_
        refine gc_i2b dX5_put_27 ?_
        obtain ⟨i_28, hx_28, hi_28, h⟩ := h
        refine go_bast_ i_28 dX5_put_28 kd_47 hx_28 hi_28 (by decide) (pk_nb _) (fun m_28 em_28 => ?_)
        have h := h m_28 em_28
        refine gc_aload_n dX5_put_29 rfl ?_
        refine gc_dup dX5_put_30 rfl ?_
        refine go_getI dX5_put_31 lg_X5_15 (sz_lt (by decide)) kd_46 rfl ?_
        refine gc_iconst (v := 1) dX5_put_34 (by decide) ?_
        refine gc_iadd dX5_put_35 ?_
        refine go_putI_ dX5_put_36 lp_X5_15 (sz_lt (by decide)) kd_46 rfl (fun m_36 em_36 => ?_)
        have h := h m_36 em_36
        refine gc_iinc (v := l2 + (-8)) dX5_put_39 rfl rfl (by decide) ?_
        refine gc_goto 3 dX5_put_42 (by decide) ?_
        exact ih l1 (l2 + (-8)) m_36  h
def W_X5_put (p0 : Int32) (mem : Mm) (K : Mm → Prop) : Prop := ∃ nz : Nat, L_X5_put_3 p0   K nz p0 24 mem
set_option maxRecDepth 100000 in
set_option maxHeartbeats 4000000 in
theorem w_X5_put (X : CX) (p0 : Int32) (mem : Mm) (K : Mm → Prop) (h : W_X5_put p0 mem K) : CallsU X 0 M_X5_put [.ref (cx_n X + 46), .int p0] mem K := by
  unfold W_X5_put at h
  refine CallsC.ofP 1 (by decide) rfl (Nat.le_of_ble_eq_true rfl) ?_
  refine gc_bipush (v := 24) dX5_put_0 (by decide) ?_
  refine gc_istore_n dX5_put_2 (by decide) ?_
  obtain ⟨n9, h⟩ := h
  exact l_X5_put_3 X p0    K   n9 p0 24 mem  h
def W_X8_feed (p0 : Int32) (p1 : Int32) (p2 : Int32) (mem : Mm) (K : Int32 → Mm → Prop) : Prop := (((mem 46 1) + 12) ≤ 96 → (W_X5_put p0 mem (fun m_23 => W_X5_put p1 m_23 (fun m_31 => W_X5_put p2 m_31 (fun m_39 => K (m_39 46 1) m_39))))) ∧ (¬ ((mem 46 1) + 12) ≤ 96 → (K (-1000000003) mem))
set_option maxRecDepth 100000 in
set_option maxHeartbeats 4000000 in
theorem w_X8_feed (X : CX) (p0 : Int32) (p1 : Int32) (p2 : Int32) (mem : Mm) (K : Int32 → Mm → Prop) (h : W_X8_feed p0 p1 p2 mem K) : CallsI X 1 M_X8_feed [.ref (cx_n X + 0), .int p0, .int p1, .int p2] mem K := by
  unfold W_X8_feed at h
  refine CallsC.ofP 0 (by decide) rfl (Nat.le_of_ble_eq_true rfl) ?_
  refine gc_aload_n dX8_feed_0 rfl ?_
  refine go_getR dX8_feed_1 lg_X8_44 (sz_lt (by decide)) kd_0 rfl ?_
  refine go_getI dX8_feed_4 lg_X8_253 (sz_lt (by decide)) kd_46 rfl ?_
  refine gc_bipush (v := 12) dX8_feed_7 (by decide) ?_
  refine gc_iadd dX8_feed_9 ?_
  refine gc_bipush (v := 96) dX8_feed_10 (by decide) ?_
  refine gc_icmp_le 18 dX8_feed_12 (by decide) (fun hc => ?_) (fun hc => ?_)
  · have h := h.1 hc
    refine gc_aload_n dX8_feed_18 rfl ?_
    refine go_getR dX8_feed_19 lg_X8_44 (sz_lt (by decide)) kd_0 rfl ?_
    refine gc_iload_n dX8_feed_22 rfl ?_
    refine go_cVU (y := M_X5_put) (As := [.int p0]) (rest := []) dX8_feed_23 lm_X8_256 ok_X5_put (by decide) (sz_lt (by decide)) kd_46 rfl rfl (w_X5_put X p0 mem _ h) rfl (Nat.le_of_ble_eq_true rfl) (fun m_23 h => ?_)
    refine gc_aload_n dX8_feed_26 rfl ?_
    refine go_getR dX8_feed_27 lg_X8_44 (sz_lt (by decide)) kd_0 rfl ?_
    refine gc_iload_n dX8_feed_30 rfl ?_
    refine go_cVU (y := M_X5_put) (As := [.int p1]) (rest := []) dX8_feed_31 lm_X8_256 ok_X5_put (by decide) (sz_lt (by decide)) kd_46 rfl rfl (w_X5_put X p1 m_23 _ h) rfl (Nat.le_of_ble_eq_true rfl) (fun m_31 h => ?_)
    refine gc_aload_n dX8_feed_34 rfl ?_
    refine go_getR dX8_feed_35 lg_X8_44 (sz_lt (by decide)) kd_0 rfl ?_
    refine gc_iload_n dX8_feed_38 rfl ?_
    refine go_cVU (y := M_X5_put) (As := [.int p2]) (rest := []) dX8_feed_39 lm_X8_256 ok_X5_put (by decide) (sz_lt (by decide)) kd_46 rfl rfl (w_X5_put X p2 m_31 _ h) rfl (Nat.le_of_ble_eq_true rfl) (fun m_39 h => ?_)
    refine gc_aload_n dX8_feed_42 rfl ?_
    refine go_getR dX8_feed_43 lg_X8_44 (sz_lt (by decide)) kd_0 rfl ?_
    refine go_getI dX8_feed_46 lg_X8_253 (sz_lt (by decide)) kd_46 rfl ?_
    exact go_iret dX8_feed_49 rfl (Nat.le_refl _) (Nat.le_refl _) ⟨_, rfl, h⟩
  · have h := h.2 hc
    refine gc_ldc (v := (-1000000003)) dX8_feed_15 lk_X8_78 ?_
    exact go_iret dX8_feed_17 rfl (Nat.le_refl _) (Nat.le_refl _) ⟨_, rfl, h⟩
def W_X8_trim (p0 : Int32) (mem : Mm) (K : Int32 → Mm → Prop) : Prop := W_X8_isWithin p0 0 (mem 46 1) mem (fun v_9 m_9 => (¬ (bZ v_9) = 0 → (∀ m_23 : Mm, m_23 = mu m_9 46 1 p0 → (K p0 m_23))) ∧ ((bZ v_9) = 0 → (K (-1000000001) m_9)))
set_option maxRecDepth 100000 in
set_option maxHeartbeats 4000000 in
theorem w_X8_trim (X : CX) (p0 : Int32) (mem : Mm) (K : Int32 → Mm → Prop) (h : W_X8_trim p0 mem K) : CallsI X 1 M_X8_trim [.ref (cx_n X + 0), .int p0] mem K := by
  unfold W_X8_trim at h
  refine CallsC.ofP 0 (by decide) rfl (Nat.le_of_ble_eq_true rfl) ?_
  refine gc_iload_n dX8_trim_0 rfl ?_
  refine gc_iconst (v := 0) dX8_trim_1 (by decide) ?_
  refine gc_aload_n dX8_trim_2 rfl ?_
  refine go_getR dX8_trim_3 lg_X8_44 (sz_lt (by decide)) kd_0 rfl ?_
  refine go_getI dX8_trim_6 lg_X8_253 (sz_lt (by decide)) kd_46 rfl ?_
  refine go_cSZ (y := M_X8_isWithin) (As := [.int p0, .int 0, .int (mem 46 1)]) (rest := []) dX8_trim_9 lm_X8_70 ok_X8_isWithin (by decide) (w_X8_isWithin X p0 0 (mem 46 1) mem _ h) rfl (Nat.le_of_ble_eq_true rfl) (fun v_9 m_9 h => ?_)
  refine gc_if_ne 18 dX8_trim_12 (by decide) (fun hc => ?_) (fun hc => ?_)
  · have h := h.1 hc
    refine gc_aload_n dX8_trim_18 rfl ?_
    refine go_getR dX8_trim_19 lg_X8_44 (sz_lt (by decide)) kd_0 rfl ?_
    refine gc_iload_n dX8_trim_22 rfl ?_
    refine go_putI_ dX8_trim_23 lp_X8_253 (sz_lt (by decide)) kd_46 rfl (fun m_23 em_23 => ?_)
    have h := h m_23 em_23
    refine gc_iload_n dX8_trim_26 rfl ?_
    exact go_iret dX8_trim_27 rfl (Nat.le_refl _) (Nat.le_refl _) ⟨_, rfl, h⟩
  · have h := h.2 hc
    refine gc_ldc (v := (-1000000001)) dX8_trim_15 lk_X8_74 ?_
    exact go_iret dX8_trim_17 rfl (Nat.le_refl _) (Nat.le_refl _) ⟨_, rfl, h⟩
def W_X7_startAgain  (mem : Mm) (K : Mm → Prop) : Prop := ∀ m_2 : Mm, m_2 = mu mem 45 1 0 → (∀ m_7 : Mm, m_7 = mu m_2 45 2 0 → (∀ m_12 : Mm, m_12 = mu m_7 45 3 0 → (∀ m_17 : Mm, m_17 = mu m_12 45 5 1 → (∀ m_22 : Mm, m_22 = mu m_17 45 7 0 → (∀ m_27 : Mm, m_27 = mu m_22 45 8 0 → (∀ m_32 : Mm, m_32 = mu m_27 45 9 0 → (∀ m_37 : Mm, m_37 = mu m_32 45 11 0 → (∀ m_42 : Mm, m_42 = mu m_37 45 13 0 → (K m_42)))))))))
set_option maxRecDepth 100000 in
set_option maxHeartbeats 4000000 in
theorem w_X7_startAgain (X : CX)  (mem : Mm) (K : Mm → Prop) (h : W_X7_startAgain  mem K) : CallsU X 0 M_X7_startAgain [.ref (cx_n X + 45)] mem K := by
  unfold W_X7_startAgain at h
  refine CallsC.ofP 0 (by decide) rfl (Nat.le_of_ble_eq_true rfl) ?_
  refine gc_aload_n dX7_startAgain_0 rfl ?_
  refine gc_iconst (v := 0) dX7_startAgain_1 (by decide) ?_
  refine go_putI_ dX7_startAgain_2 lp_X7_18 (sz_lt (by decide)) kd_45 rfl (fun m_2 em_2 => ?_)
  have h := h m_2 em_2
  refine gc_aload_n dX7_startAgain_5 rfl ?_
  refine gc_iconst (v := 0) dX7_startAgain_6 (by decide) ?_
  refine go_putI_ dX7_startAgain_7 lp_X7_22 (sz_lt (by decide)) kd_45 rfl (fun m_7 em_7 => ?_)
  have h := h m_7 em_7
  refine gc_aload_n dX7_startAgain_10 rfl ?_
  refine gc_iconst (v := 0) dX7_startAgain_11 (by decide) ?_
  refine go_putI_ dX7_startAgain_12 lp_X7_25 (sz_lt (by decide)) kd_45 rfl (fun m_12 em_12 => ?_)
  have h := h m_12 em_12
  refine gc_aload_n dX7_startAgain_15 rfl ?_
  refine gc_iconst (v := 1) dX7_startAgain_16 (by decide) ?_
  refine go_putZ_ dX7_startAgain_17 lp_X7_32 (sz_lt (by decide)) kd_45 rfl (by decide) (fun m_17 em_17 => ?_)
  have h := h m_17 em_17
  refine gc_aload_n dX7_startAgain_20 rfl ?_
  refine gc_iconst (v := 0) dX7_startAgain_21 (by decide) ?_
  refine go_putI_ dX7_startAgain_22 lp_X7_38 (sz_lt (by decide)) kd_45 rfl (fun m_22 em_22 => ?_)
  have h := h m_22 em_22
  refine gc_aload_n dX7_startAgain_25 rfl ?_
  refine gc_iconst (v := 0) dX7_startAgain_26 (by decide) ?_
  refine go_putI_ dX7_startAgain_27 lp_X7_41 (sz_lt (by decide)) kd_45 rfl (fun m_27 em_27 => ?_)
  have h := h m_27 em_27
  refine gc_aload_n dX7_startAgain_30 rfl ?_
  refine gc_iconst (v := 0) dX7_startAgain_31 (by decide) ?_
  refine go_putI_ dX7_startAgain_32 lp_X7_44 (sz_lt (by decide)) kd_45 rfl (fun m_32 em_32 => ?_)
  have h := h m_32 em_32
  refine gc_aload_n dX7_startAgain_35 rfl ?_
  refine gc_iconst (v := 0) dX7_startAgain_36 (by decide) ?_
  refine go_putI_ dX7_startAgain_37 lp_X7_51 (sz_lt (by decide)) kd_45 rfl (fun m_37 em_37 => ?_)
  have h := h m_37 em_37
  refine gc_aload_n dX7_startAgain_40 rfl ?_
  refine gc_iconst (v := 0) dX7_startAgain_41 (by decide) ?_
  refine go_putI_ dX7_startAgain_42 lp_X7_57 (sz_lt (by decide)) kd_45 rfl (fun m_42 em_42 => ?_)
  have h := h m_42 em_42
  exact go_vret dX7_startAgain_45 rfl (Nat.le_refl _) (Nat.le_refl _) ⟨rfl, h⟩
def W_X7_isWord  (mem : Mm) (K : Bool → Mm → Prop) : Prop := ((mem 45 1) = 1 → (K true mem)) ∧ (¬ (mem 45 1) = 1 → ((¬ (mem 45 1) = 2 → (K false mem)) ∧ ((mem 45 1) = 2 → (K true mem))))
set_option maxRecDepth 100000 in
set_option maxHeartbeats 4000000 in
theorem w_X7_isWord (X : CX)  (mem : Mm) (K : Bool → Mm → Prop) (h : W_X7_isWord  mem K) : CallsZ X 0 M_X7_isWord [.ref (cx_n X + 45)] mem K := by
  unfold W_X7_isWord at h
  refine CallsC.ofP 0 (by decide) rfl (Nat.le_of_ble_eq_true rfl) ?_
  refine gc_aload_n dX7_isWord_0 rfl ?_
  refine go_getI dX7_isWord_1 lg_X7_18 (sz_lt (by decide)) kd_45 rfl ?_
  refine gc_iconst (v := 1) dX7_isWord_4 (by decide) ?_
  refine gc_icmp_eq 16 dX7_isWord_5 (by decide) (fun hc => ?_) (fun hc => ?_)
  · have h := h.1 hc
    refine gc_iconst (v := 1) dX7_isWord_16 (by decide) ?_
    refine gc_goto 21 dX7_isWord_17 (by decide) ?_
    exact go_zret dX7_isWord_21 rfl (by decide) (Nat.le_refl _) (Nat.le_refl _) ⟨true, rfl, h⟩
  · have h := h.2 hc
    refine gc_aload_n dX7_isWord_8 rfl ?_
    refine go_getI dX7_isWord_9 lg_X7_18 (sz_lt (by decide)) kd_45 rfl ?_
    refine gc_iconst (v := 2) dX7_isWord_12 (by decide) ?_
    refine gc_icmp_ne 20 dX7_isWord_13 (by decide) (fun hc => ?_) (fun hc => ?_)
    · have h := h.1 hc
      refine gc_iconst (v := 0) dX7_isWord_20 (by decide) ?_
      exact go_zret dX7_isWord_21 rfl (by decide) (Nat.le_refl _) (Nat.le_refl _) ⟨false, rfl, h⟩
    · have h := h.2 hc
      refine gc_iconst (v := 1) dX7_isWord_16 (by decide) ?_
      refine gc_goto 21 dX7_isWord_17 (by decide) ?_
      exact go_zret dX7_isWord_21 rfl (by decide) (Nat.le_refl _) (Nat.le_refl _) ⟨true, rfl, h⟩
def W_X7_byteAt (p0 : Int32) (mem : Mm) (K : Int32 → Mm → Prop) : Prop := W_X8_isWithin p0 0 95 mem (fun v_4 m_4 => ((bZ v_4) = 0 → (K 0 m_4)) ∧ (¬ (bZ v_4) = 0 → (∃ i_18 : Nat, p0 = nI i_18 ∧ i_18 < 96 ∧ (K (m_4 (46 + 1) i_18) m_4))))
set_option maxRecDepth 100000 in
set_option maxHeartbeats 4000000 in
theorem w_X7_byteAt (X : CX) (p0 : Int32) (mem : Mm) (K : Int32 → Mm → Prop) (h : W_X7_byteAt p0 mem K) : CallsI X 1 M_X7_byteAt [.ref (cx_n X + 45), .int p0] mem K := by
  unfold W_X7_byteAt at h
  refine CallsC.ofP 0 (by decide) rfl (Nat.le_of_ble_eq_true rfl) ?_
  refine gc_iload_n dX7_byteAt_0 rfl ?_
  refine gc_iconst (v := 0) dX7_byteAt_1 (by decide) ?_
  refine gc_bipush (v := 95) dX7_byteAt_2 (by decide) ?_
  refine go_cSZ (y := M_X8_isWithin) (As := [.int p0, .int 0, .int 95]) (rest := []) dX7_byteAt_4 lm_X7_105 ok_X8_isWithin (by decide) (w_X8_isWithin X p0 0 95 mem _ h) rfl (Nat.le_of_ble_eq_true rfl) (fun v_4 m_4 h => ?_)
  refine gc_if_eq 22 dX7_byteAt_7 (by decide) (fun hc => ?_) (fun hc => ?_)
  · have h := h.1 hc
    refine gc_iconst (v := 0) dX7_byteAt_22 (by decide) ?_
    exact go_iret dX7_byteAt_23 rfl (Nat.le_refl _) (Nat.le_refl _) ⟨_, rfl, h⟩
  · have h := h.2 hc
    refine gc_aload_n dX7_byteAt_10 rfl ?_
    refine go_getR dX7_byteAt_11 lg_X7_12 (sz_lt (by decide)) kd_45 rfl ?_
    refine go_getR dX7_byteAt_14 lg_X7_109 (sz_lt (by decide)) kd_46 rfl ?_
    refine gc_iload_n dX7_byteAt_17 rfl ?_
    obtain ⟨i_18, hx_18, hi_18, h⟩ := h
    refine go_bald i_18 dX7_byteAt_18 kd_47 hx_18 hi_18 ?_
    refine gc_goto 23 dX7_byteAt_19 (by decide) ?_
    exact go_iret dX7_byteAt_23 rfl (Nat.le_refl _) (Nat.le_refl _) ⟨_, rfl, h⟩
def W_X7_sortAt (p0 : Int32) (mem : Mm) (K : Int32 → Mm → Prop) : Prop := (p0 < (mem 46 1) → (W_X7_byteAt p0 mem (fun v_15 m_15 => W_X8_isWithin v_15 97 122 m_15 (fun v_24 m_24 => ((bZ v_24) = 0 → (W_X8_isWithin v_15 48 57 m_24 (fun v_37 m_37 => ((bZ v_37) = 0 → (K 3 m_37)) ∧ (¬ (bZ v_37) = 0 → (K 2 m_37))))) ∧ (¬ (bZ v_24) = 0 → (K 1 m_24)))))) ∧ (¬ p0 < (mem 46 1) → (K 0 mem))
set_option maxRecDepth 100000 in
set_option maxHeartbeats 4000000 in
theorem w_X7_sortAt (X : CX) (p0 : Int32) (mem : Mm) (K : Int32 → Mm → Prop) (h : W_X7_sortAt p0 mem K) : CallsI X 2 M_X7_sortAt [.ref (cx_n X + 45), .int p0] mem K := by
  unfold W_X7_sortAt at h
  refine CallsC.ofP 1 (by decide) rfl (Nat.le_of_ble_eq_true rfl) ?_
  refine gc_iload_n dX7_sortAt_0 rfl ?_
  refine gc_aload_n dX7_sortAt_1 rfl ?_
  refine go_getR dX7_sortAt_2 lg_X7_12 (sz_lt (by decide)) kd_45 rfl ?_
  refine go_getI dX7_sortAt_5 lg_X7_95 (sz_lt (by decide)) kd_46 rfl ?_
  refine gc_icmp_lt 13 dX7_sortAt_8 (by decide) (fun hc => ?_) (fun hc => ?_)
  · have h := h.1 hc
    refine gc_aload_n dX7_sortAt_13 rfl ?_
    refine gc_iload_n dX7_sortAt_14 rfl ?_
    refine go_cVI (y := M_X7_byteAt) (As := [.int p0]) (rest := []) dX7_sortAt_15 lm_X7_98 ok_X7_byteAt (by decide) (sz_lt (by decide)) kd_45 rfl rfl (w_X7_byteAt X p0 mem _ h) rfl (Nat.le_of_ble_eq_true rfl) (fun v_15 m_15 h => ?_)
    refine gc_istore_n dX7_sortAt_18 (by decide) ?_
    refine gc_iload_n dX7_sortAt_19 rfl ?_
    refine gc_bipush (v := 97) dX7_sortAt_20 (by decide) ?_
    refine gc_bipush (v := 122) dX7_sortAt_22 (by decide) ?_
    refine go_cSZ (y := M_X8_isWithin) (As := [.int v_15, .int 97, .int 122]) (rest := []) dX7_sortAt_24 lm_X7_105 ok_X8_isWithin (by decide) (w_X8_isWithin X v_15 97 122 m_15 _ h) rfl (Nat.le_of_ble_eq_true rfl) (fun v_24 m_24 h => ?_)
    refine gc_if_eq 32 dX7_sortAt_27 (by decide) (fun hc => ?_) (fun hc => ?_)
    · have h := h.1 hc
      refine gc_iload_n dX7_sortAt_32 rfl ?_
      refine gc_bipush (v := 48) dX7_sortAt_33 (by decide) ?_
      refine gc_bipush (v := 57) dX7_sortAt_35 (by decide) ?_
      refine go_cSZ (y := M_X8_isWithin) (As := [.int v_15, .int 48, .int 57]) (rest := []) dX7_sortAt_37 lm_X7_105 ok_X8_isWithin (by decide) (w_X8_isWithin X v_15 48 57 m_24 _ h) rfl (Nat.le_of_ble_eq_true rfl) (fun v_37 m_37 h => ?_)
      refine gc_if_eq 47 dX7_sortAt_40 (by decide) (fun hc => ?_) (fun hc => ?_)
      · have h := h.1 hc
        refine gc_iconst (v := 3) dX7_sortAt_47 (by decide) ?_
        exact go_iret dX7_sortAt_48 rfl (Nat.le_refl _) (Nat.le_refl _) ⟨_, rfl, h⟩
      · have h := h.2 hc
        refine gc_iconst (v := 2) dX7_sortAt_43 (by decide) ?_
        refine gc_goto 48 dX7_sortAt_44 (by decide) ?_
        exact go_iret dX7_sortAt_48 rfl (Nat.le_refl _) (Nat.le_refl _) ⟨_, rfl, h⟩
    · have h := h.2 hc
      refine gc_iconst (v := 1) dX7_sortAt_30 (by decide) ?_
      exact go_iret dX7_sortAt_31 rfl (Nat.le_refl _) (Nat.le_refl _) ⟨_, rfl, h⟩
  · have h := h.2 hc
    refine gc_iconst (v := 0) dX7_sortAt_11 (by decide) ?_
    exact go_iret dX7_sortAt_12 rfl (Nat.le_refl _) (Nat.le_refl _) ⟨_, rfl, h⟩
def B_X7_nextWord_150  (K : Mm → Prop) (l1 : Int32) (l2 : Int32) (mem : Mm) : Prop := (l1 = 0 → (∀ m_175 : Mm, m_175 = mu mem 45 4 0 → (K m_175))) ∧ (¬ l1 = 0 → (W_X7_isWord  mem (fun v_156 m_156 => ((bZ v_156) = 0 → (∀ m_175 : Mm, m_175 = mu m_156 45 4 0 → (K m_175))) ∧ (¬ (bZ v_156) = 0 → ((¬ (m_156 45 2) = l2 → (∀ m_175 : Mm, m_175 = mu m_156 45 4 0 → (K m_175))) ∧ ((m_156 45 2) = l2 → (∀ m_175 : Mm, m_175 = mu m_156 45 4 1 → (K m_175))))))))
set_option maxRecDepth 100000 in
set_option maxHeartbeats 4000000 in
theorem b_X7_nextWord_150 (X : CX)   (K : Mm → Prop) (l1 : Int32) (l2 : Int32) (mem : Mm)  (h : B_X7_nextWord_150    K l1 l2 mem) : GoC X 3 0 0 M_X7_nextWord 150 [some (.ref (cx_n X + 45)), some (.int l1), some (.int l2)] [] 0 0 (cellAt X mem) (sz mem) (qm X (fun r m => r = none ∧ K m)) := by
  unfold B_X7_nextWord_150 at h
  refine gc_aload_n dX7_nextWord_150 rfl ?_
  refine gc_iload_n dX7_nextWord_151 rfl ?_
  refine gc_if_eq 174 dX7_nextWord_152 (by decide) (fun hc => ?_) (fun hc => ?_)
  · have h := h.1 hc
    refine gc_iconst (v := 0) dX7_nextWord_174 (by decide) ?_
    refine go_putZ_ dX7_nextWord_175 lp_X7_28 (sz_lt (by decide)) kd_45 rfl (by decide) (fun m_175 em_175 => ?_)
    have h := h m_175 em_175
    exact go_vret dX7_nextWord_178 rfl (Nat.le_refl _) (Nat.le_refl _) ⟨rfl, h⟩
  · have h := h.2 hc
    refine gc_aload_n dX7_nextWord_155 rfl ?_
    refine go_cVZ (y := M_X7_isWord) (As := []) (rest := [.ref (cx_n X + 45)]) dX7_nextWord_156 lm_X7_92 ok_X7_isWord (by decide) (sz_lt (by decide)) kd_45 rfl rfl (w_X7_isWord X  mem _ h) rfl (Nat.le_of_ble_eq_true rfl) (fun v_156 m_156 h => ?_)
    refine gc_if_eq 174 dX7_nextWord_159 (by decide) (fun hc => ?_) (fun hc => ?_)
    · have h := h.1 hc
      refine gc_iconst (v := 0) dX7_nextWord_174 (by decide) ?_
      refine go_putZ_ dX7_nextWord_175 lp_X7_28 (sz_lt (by decide)) kd_45 rfl (by decide) (fun m_175 em_175 => ?_)
      have h := h m_175 em_175
      exact go_vret dX7_nextWord_178 rfl (Nat.le_refl _) (Nat.le_refl _) ⟨rfl, h⟩
    · have h := h.2 hc
      refine gc_aload_n dX7_nextWord_162 rfl ?_
      refine go_getI dX7_nextWord_163 lg_X7_22 (sz_lt (by decide)) kd_45 rfl ?_
      refine gc_iload_n dX7_nextWord_166 rfl ?_
      refine gc_icmp_ne 174 dX7_nextWord_167 (by decide) (fun hc => ?_) (fun hc => ?_)
      · have h := h.1 hc
        refine gc_iconst (v := 0) dX7_nextWord_174 (by decide) ?_
        refine go_putZ_ dX7_nextWord_175 lp_X7_28 (sz_lt (by decide)) kd_45 rfl (by decide) (fun m_175 em_175 => ?_)
        have h := h m_175 em_175
        exact go_vret dX7_nextWord_178 rfl (Nat.le_refl _) (Nat.le_refl _) ⟨rfl, h⟩
      · have h := h.2 hc
        refine gc_iconst (v := 1) dX7_nextWord_170 (by decide) ?_
        refine gc_goto 175 dX7_nextWord_171 (by decide) ?_
        refine go_putZ_ dX7_nextWord_175 lp_X7_28 (sz_lt (by decide)) kd_45 rfl (by decide) (fun m_175 em_175 => ?_)
        have h := h m_175 em_175
        exact go_vret dX7_nextWord_178 rfl (Nat.le_refl _) (Nat.le_refl _) ⟨rfl, h⟩
def L_X7_nextWord_101  (K : Mm → Prop) : Nat → Int32 → Int32 → Mm → Prop
  | 0, _, _, _ => False
  | n + 1, l1, l2, mem => W_X7_isWord  mem (fun v_102 m_102 => ((bZ v_102) = 0 → (B_X7_nextWord_150    K l1 l2 m_102)) ∧ (¬ (bZ v_102) = 0 → (((m_102 46 1) ≤ (m_102 45 3) → (B_X7_nextWord_150    K l1 l2 m_102)) ∧ (¬ (m_102 46 1) ≤ (m_102 45 3) → (W_X7_sortAt (m_102 45 3) m_102 (fun v_127 m_127 => (¬ v_127 = (m_127 45 1) → (B_X7_nextWord_150    K l1 l2 m_127)) ∧ (v_127 = (m_127 45 1) → (∀ m_144 : Mm, m_144 = mu m_127 45 3 ((m_127 45 3) + 1) → (L_X7_nextWord_101   K n l1 l2 m_144)))))))))
set_option maxRecDepth 100000 in
set_option maxHeartbeats 4000000 in
theorem l_X7_nextWord_101 (X : CX)   (K : Mm → Prop) : ∀ (n : Nat) (l1 : Int32) (l2 : Int32) (mem : Mm), L_X7_nextWord_101    K n l1 l2 mem → GoC X 3 0 0 M_X7_nextWord 101 [some (.ref (cx_n X + 45)), some (.int l1), some (.int l2)] [] 0 0 (cellAt X mem) (sz mem) (qm X (fun r m => r = none ∧ K m))
  := by
  intro n
  induction n with
  | zero => intro l1 l2 mem h; exact h.elim
  | succ n ih =>
    intro l1 l2 mem h
    unfold L_X7_nextWord_101 at h
    refine gc_aload_n dX7_nextWord_101 rfl ?_
    refine go_cVZ (y := M_X7_isWord) (As := []) (rest := []) dX7_nextWord_102 lm_X7_92 ok_X7_isWord (by decide) (sz_lt (by decide)) kd_45 rfl rfl (w_X7_isWord X  mem _ h) rfl (Nat.le_of_ble_eq_true rfl) (fun v_102 m_102 h => ?_)
    refine gc_if_eq 150 dX7_nextWord_105 (by decide) (fun hc => ?_) (fun hc => ?_)
    · have h := h.1 hc
      exact b_X7_nextWord_150 X     K   l1 l2 m_102  h
    · have h := h.2 hc
      refine gc_aload_n dX7_nextWord_108 rfl ?_
      refine go_getI dX7_nextWord_109 lg_X7_25 (sz_lt (by decide)) kd_45 rfl ?_
      refine gc_aload_n dX7_nextWord_112 rfl ?_
      refine go_getR dX7_nextWord_113 lg_X7_12 (sz_lt (by decide)) kd_45 rfl ?_
      refine go_getI dX7_nextWord_116 lg_X7_95 (sz_lt (by decide)) kd_46 rfl ?_
      refine gc_icmp_ge 150 dX7_nextWord_119 (by decide) (fun hc => ?_) (fun hc => ?_)
      · have h := h.1 hc
        exact b_X7_nextWord_150 X     K   l1 l2 m_102  h
      · have h := h.2 hc
        refine gc_aload_n dX7_nextWord_122 rfl ?_
        refine gc_aload_n dX7_nextWord_123 rfl ?_
        refine go_getI dX7_nextWord_124 lg_X7_25 (sz_lt (by decide)) kd_45 rfl ?_
        refine go_cVI (y := M_X7_sortAt) (As := [.int (m_102 45 3)]) (rest := []) dX7_nextWord_127 lm_X7_102 ok_X7_sortAt (by decide) (sz_lt (by decide)) kd_45 rfl rfl (w_X7_sortAt X (m_102 45 3) m_102 _ h) rfl (Nat.le_of_ble_eq_true rfl) (fun v_127 m_127 h => ?_)
        refine gc_aload_n dX7_nextWord_130 rfl ?_
        refine go_getI dX7_nextWord_131 lg_X7_18 (sz_lt (by decide)) kd_45 rfl ?_
        refine gc_icmp_ne 150 dX7_nextWord_134 (by decide) (fun hc => ?_) (fun hc => ?_)
        · have h := h.1 hc
          exact b_X7_nextWord_150 X     K   l1 l2 m_127  h
        · have h := h.2 hc
          refine gc_aload_n dX7_nextWord_137 rfl ?_
          refine gc_dup dX7_nextWord_138 rfl ?_
          refine go_getI dX7_nextWord_139 lg_X7_25 (sz_lt (by decide)) kd_45 rfl ?_
          refine gc_iconst (v := 1) dX7_nextWord_142 (by decide) ?_
          refine gc_iadd dX7_nextWord_143 ?_
          refine go_putI_ dX7_nextWord_144 lp_X7_25 (sz_lt (by decide)) kd_45 rfl (fun m_144 em_144 => ?_)
          have h := h m_144 em_144
          refine gc_goto 101 dX7_nextWord_147 (by decide) ?_
          exact ih l1 l2 m_144  h
def B_X7_nextWord_58  (K : Mm → Prop) (l1 : Int32) (l2 : Int32) (mem : Mm) : Prop := W_X7_sortAt (mem 45 2) mem (fun v_64 m_64 => ∀ m_67 : Mm, m_67 = mu m_64 45 1 v_64 → (((m_67 46 1) ≤ (m_67 45 2) → (∀ m_98 : Mm, m_98 = mu m_67 45 3 (m_67 45 2) → (∃ nz : Nat, L_X7_nextWord_101    K nz l1 l2 m_98))) ∧ (¬ (m_67 46 1) ≤ (m_67 45 2) → (∀ m_98 : Mm, m_98 = mu m_67 45 3 ((m_67 45 2) + 1) → (∃ nz : Nat, L_X7_nextWord_101    K nz l1 l2 m_98)))))
set_option maxRecDepth 100000 in
set_option maxHeartbeats 4000000 in
theorem b_X7_nextWord_58 (X : CX)   (K : Mm → Prop) (l1 : Int32) (l2 : Int32) (mem : Mm)  (h : B_X7_nextWord_58    K l1 l2 mem) : GoC X 3 0 0 M_X7_nextWord 58 [some (.ref (cx_n X + 45)), some (.int l1), some (.int l2)] [] 0 0 (cellAt X mem) (sz mem) (qm X (fun r m => r = none ∧ K m)) := by
  unfold B_X7_nextWord_58 at h
  refine gc_aload_n dX7_nextWord_58 rfl ?_
  refine gc_aload_n dX7_nextWord_59 rfl ?_
  refine gc_aload_n dX7_nextWord_60 rfl ?_
  refine go_getI dX7_nextWord_61 lg_X7_22 (sz_lt (by decide)) kd_45 rfl ?_
  refine go_cVI (y := M_X7_sortAt) (As := [.int (mem 45 2)]) (rest := [.ref (cx_n X + 45)]) dX7_nextWord_64 lm_X7_102 ok_X7_sortAt (by decide) (sz_lt (by decide)) kd_45 rfl rfl (w_X7_sortAt X (mem 45 2) mem _ h) rfl (Nat.le_of_ble_eq_true rfl) (fun v_64 m_64 h => ?_)
  refine go_putI_ dX7_nextWord_67 lp_X7_18 (sz_lt (by decide)) kd_45 rfl (fun m_67 em_67 => ?_)
  have h := h m_67 em_67
  refine gc_aload_n dX7_nextWord_70 rfl ?_
  refine gc_aload_n dX7_nextWord_71 rfl ?_
  refine go_getI dX7_nextWord_72 lg_X7_22 (sz_lt (by decide)) kd_45 rfl ?_
  refine gc_aload_n dX7_nextWord_75 rfl ?_
  refine go_getR dX7_nextWord_76 lg_X7_12 (sz_lt (by decide)) kd_45 rfl ?_
  refine go_getI dX7_nextWord_79 lg_X7_95 (sz_lt (by decide)) kd_46 rfl ?_
  refine gc_icmp_ge 94 dX7_nextWord_82 (by decide) (fun hc => ?_) (fun hc => ?_)
  · have h := h.1 hc
    refine gc_aload_n dX7_nextWord_94 rfl ?_
    refine go_getI dX7_nextWord_95 lg_X7_22 (sz_lt (by decide)) kd_45 rfl ?_
    refine go_putI_ dX7_nextWord_98 lp_X7_25 (sz_lt (by decide)) kd_45 rfl (fun m_98 em_98 => ?_)
    have h := h m_98 em_98
    obtain ⟨n9, h⟩ := h
    exact l_X7_nextWord_101 X     K   n9 l1 l2 m_98  h
  · have h := h.2 hc
    refine gc_aload_n dX7_nextWord_85 rfl ?_
    refine go_getI dX7_nextWord_86 lg_X7_22 (sz_lt (by decide)) kd_45 rfl ?_
    refine gc_iconst (v := 1) dX7_nextWord_89 (by decide) ?_
    refine gc_iadd dX7_nextWord_90 ?_
    refine gc_goto 98 dX7_nextWord_91 (by decide) ?_
    refine go_putI_ dX7_nextWord_98 lp_X7_25 (sz_lt (by decide)) kd_45 rfl (fun m_98 em_98 => ?_)
    have h := h m_98 em_98
    obtain ⟨n9, h⟩ := h
    exact l_X7_nextWord_101 X     K   n9 l1 l2 m_98  h
def L_X7_nextWord_18  (K : Mm → Prop) : Nat → Int32 → Int32 → Mm → Prop
  | 0, _, _, _ => False
  | n + 1, l1, l2, mem => ((mem 46 1) ≤ (mem 45 2) → (B_X7_nextWord_58    K l1 l2 mem)) ∧ (¬ (mem 46 1) ≤ (mem 45 2) → (W_X7_byteAt (mem 45 2) mem (fun v_37 m_37 => (¬ v_37 = 32 → (B_X7_nextWord_58    K l1 l2 m_37)) ∧ (v_37 = 32 → (∀ m_52 : Mm, m_52 = mu m_37 45 2 ((m_37 45 2) + 1) → (L_X7_nextWord_18   K n l1 l2 m_52))))))
set_option maxRecDepth 100000 in
set_option maxHeartbeats 4000000 in
theorem l_X7_nextWord_18 (X : CX)   (K : Mm → Prop) : ∀ (n : Nat) (l1 : Int32) (l2 : Int32) (mem : Mm), L_X7_nextWord_18    K n l1 l2 mem → GoC X 3 0 0 M_X7_nextWord 18 [some (.ref (cx_n X + 45)), some (.int l1), some (.int l2)] [] 0 0 (cellAt X mem) (sz mem) (qm X (fun r m => r = none ∧ K m))
  := by
  intro n
  induction n with
  | zero => intro l1 l2 mem h; exact h.elim
  | succ n ih =>
    intro l1 l2 mem h
    unfold L_X7_nextWord_18 at h
    refine gc_aload_n dX7_nextWord_18 rfl ?_
    refine go_getI dX7_nextWord_19 lg_X7_22 (sz_lt (by decide)) kd_45 rfl ?_
    refine gc_aload_n dX7_nextWord_22 rfl ?_
    refine go_getR dX7_nextWord_23 lg_X7_12 (sz_lt (by decide)) kd_45 rfl ?_
    refine go_getI dX7_nextWord_26 lg_X7_95 (sz_lt (by decide)) kd_46 rfl ?_
    refine gc_icmp_ge 58 dX7_nextWord_29 (by decide) (fun hc => ?_) (fun hc => ?_)
    · have h := h.1 hc
      exact b_X7_nextWord_58 X     K   l1 l2 mem  h
    · have h := h.2 hc
      refine gc_aload_n dX7_nextWord_32 rfl ?_
      refine gc_aload_n dX7_nextWord_33 rfl ?_
      refine go_getI dX7_nextWord_34 lg_X7_22 (sz_lt (by decide)) kd_45 rfl ?_
      refine go_cVI (y := M_X7_byteAt) (As := [.int (mem 45 2)]) (rest := []) dX7_nextWord_37 lm_X7_98 ok_X7_byteAt (by decide) (sz_lt (by decide)) kd_45 rfl rfl (w_X7_byteAt X (mem 45 2) mem _ h) rfl (Nat.le_of_ble_eq_true rfl) (fun v_37 m_37 h => ?_)
      refine gc_bipush (v := 32) dX7_nextWord_40 (by decide) ?_
      refine gc_icmp_ne 58 dX7_nextWord_42 (by decide) (fun hc => ?_) (fun hc => ?_)
      · have h := h.1 hc
        exact b_X7_nextWord_58 X     K   l1 l2 m_37  h
      · have h := h.2 hc
        refine gc_aload_n dX7_nextWord_45 rfl ?_
        refine gc_dup dX7_nextWord_46 rfl ?_
        refine go_getI dX7_nextWord_47 lg_X7_22 (sz_lt (by decide)) kd_45 rfl ?_
        refine gc_iconst (v := 1) dX7_nextWord_50 (by decide) ?_
        refine gc_iadd dX7_nextWord_51 ?_
        refine go_putI_ dX7_nextWord_52 lp_X7_22 (sz_lt (by decide)) kd_45 rfl (fun m_52 em_52 => ?_)
        have h := h m_52 em_52
        refine gc_goto 18 dX7_nextWord_55 (by decide) ?_
        exact ih l1 l2 m_52  h
def W_X7_nextWord  (mem : Mm) (K : Mm → Prop) : Prop := W_X7_isWord  mem (fun v_1 m_1 => ∀ m_15 : Mm, m_15 = mu m_1 45 2 (m_1 45 3) → (∃ nz : Nat, L_X7_nextWord_18    K nz (bZ v_1) (m_1 45 3) m_15))
set_option maxRecDepth 100000 in
set_option maxHeartbeats 4000000 in
theorem w_X7_nextWord (X : CX)  (mem : Mm) (K : Mm → Prop) (h : W_X7_nextWord  mem K) : CallsU X 3 M_X7_nextWord [.ref (cx_n X + 45)] mem K := by
  unfold W_X7_nextWord at h
  refine CallsC.ofP 2 (by decide) rfl (Nat.le_of_ble_eq_true rfl) ?_
  refine gc_aload_n dX7_nextWord_0 rfl ?_
  refine go_cVZ (y := M_X7_isWord) (As := []) (rest := []) dX7_nextWord_1 lm_X7_92 ok_X7_isWord (by decide) (sz_lt (by decide)) kd_45 rfl rfl (w_X7_isWord X  mem _ h) rfl (Nat.le_of_ble_eq_true rfl) (fun v_1 m_1 h => ?_)
  refine gc_istore_n dX7_nextWord_4 (by decide) ?_
  refine gc_aload_n dX7_nextWord_5 rfl ?_
  refine go_getI dX7_nextWord_6 lg_X7_25 (sz_lt (by decide)) kd_45 rfl ?_
  refine gc_istore_n dX7_nextWord_9 (by decide) ?_
  refine gc_aload_n dX7_nextWord_10 rfl ?_
  refine gc_aload_n dX7_nextWord_11 rfl ?_
  refine go_getI dX7_nextWord_12 lg_X7_25 (sz_lt (by decide)) kd_45 rfl ?_
  refine go_putI_ dX7_nextWord_15 lp_X7_22 (sz_lt (by decide)) kd_45 rfl (fun m_15 em_15 => ?_)
  have h := h m_15 em_15
  obtain ⟨n9, h⟩ := h
  exact l_X7_nextWord_18 X     K   n9 (bZ v_1) (m_1 45 3) m_15  h
def W_X7_wordOf (p0 : Int32) (mem : Mm) (K : Nat → Mm → Prop) : Prop := (p0 = 0 → (K 0 mem)) ∧ (¬ p0 = 0 → ((p0 = 1 → (K 1 mem)) ∧ (¬ p0 = 1 → (K 2 mem))))
set_option maxRecDepth 100000 in
set_option maxHeartbeats 4000000 in
theorem w_X7_wordOf (X : CX) (p0 : Int32) (mem : Mm) (K : Nat → Mm → Prop) (h : W_X7_wordOf p0 mem K) : CallsS X 0 M_X7_wordOf [.int p0] mem K := by
  unfold W_X7_wordOf at h
  refine CallsC.ofP 0 (by decide) rfl (Nat.le_of_ble_eq_true rfl) ?_
  refine gc_iload_n dX7_wordOf_0 rfl ?_
  by_cases hn0 : p0 = 0
  · have h := h.1 hn0
    refine gc_lookup (off := 27) 28 dX7_wordOf_1 (by decide) (by rw [hn0]; rfl) (by decide) ?_
    refine gc_ldcS 0 (by decide) rfl rfl dX7_wordOf_28 ?_
    exact go_sret dX7_wordOf_30 rfl (by decide) (Nat.le_refl _) (Nat.le_refl _) h
  · have h := h.2 hn0
    have hq0 := tab_ne hn0 (a := 0) (by decide)
    by_cases hn1 : p0 = 1
    · have h := h.1 hn1
      refine gc_lookup (off := 30) 31 dX7_wordOf_1 (by decide) (by rw [hn1]; rfl) (by decide) ?_
      refine gc_ldcS 1 (by decide) rfl rfl dX7_wordOf_31 ?_
      exact go_sret dX7_wordOf_33 rfl (by decide) (Nat.le_refl _) (Nat.le_refl _) h
    · have h := h.2 hn1
      have hq1 := tab_ne hn1 (a := 1) (by decide)
      refine gc_lookup (off := 33) 34 dX7_wordOf_1 (by decide) (by show Op.lookupswitch.offset [(0, 27), (1, 30)] 33 _ = 33; rw [lv_osw (k := (0)) hn0 (by decide), lv_osw (k := (1)) hn1 (by decide)]; rfl) (by decide) ?_
      refine gc_ldcS 2 (by decide) rfl rfl dX7_wordOf_34 ?_
      exact go_sret dX7_wordOf_36 rfl (by decide) (Nat.le_refl _) (Nat.le_refl _) h
def W_J0_coder_7d493 (j0 : Nat) (mem : Mm) (K : Int32 → Mm → Prop) : Prop := K 0 mem
set_option maxRecDepth 100000 in
set_option maxHeartbeats 4000000 in
theorem w_J0_coder_7d493 (X : CX) (j0 : Nat) (hj0 : j0 < 6) (mem : Mm) (K : Int32 → Mm → Prop) (h : W_J0_coder_7d493 j0 mem K) : CallsI X 0 M_J0_coder_7d493 [.ref (cx_k X (6 + j0))] mem K := by
  unfold W_J0_coder_7d493 at h
  refine CallsC.ofP 0 (by decide) rfl (Nat.le_of_ble_eq_true rfl) ?_
  refine gc_getsZ dJ0_coder_7d493_0 lj_J0_38 ?_
  refine gc_if_eq 13 dJ0_coder_7d493_3 (by decide) (fun hc => absurd hc (by decide)) (fun hc => ?_)
  refine gc_aload_n dJ0_coder_7d493_6 rfl ?_
  refine gc_strc hj0 dJ0_coder_7d493_7 lj_J0_15 ?_
  refine gc_goto 14 dJ0_coder_7d493_10 (by decide) ?_
  exact go_bret dJ0_coder_7d493_14 rfl (by decide) (Nat.le_refl _) (Nat.le_refl _) h
def W_J0_length_8abf5 (j0 : Nat) (mem : Mm) (K : Int32 → Mm → Prop) : Prop := W_J0_coder_7d493 j0 mem (fun v_6 m_6 => K ((nI (ss_L.getD j0 0)) >>> (v_6 &&& 31)) m_6)
set_option maxRecDepth 100000 in
set_option maxHeartbeats 4000000 in
theorem w_J0_length_8abf5 (X : CX) (j0 : Nat) (hj0 : j0 < 6) (mem : Mm) (K : Int32 → Mm → Prop) (h : W_J0_length_8abf5 j0 mem K) : CallsI X 1 M_J0_length_8abf5 [.ref (cx_k X (6 + j0))] mem K := by
  unfold W_J0_length_8abf5 at h
  refine CallsC.ofP 0 (by decide) rfl (Nat.le_of_ble_eq_true rfl) ?_
  refine gc_aload_n dJ0_length_8abf5_0 rfl ?_
  refine gc_strv hj0 dJ0_length_8abf5_1 lj_J0_9 ?_
  refine gc_sblen hj0 dJ0_length_8abf5_4 ?_
  refine gc_aload_n dJ0_length_8abf5_5 rfl ?_
  refine go_cRI (y := M_J0_coder_7d493) (As := []) (rest := [.int (nI (ss_L.getD j0 0))]) dJ0_length_8abf5_6 lm_J0_335 ok_J0_coder_7d493 (by decide) hj0 rfl (w_J0_coder_7d493 X j0 hj0 mem _ h) rfl (Nat.le_of_ble_eq_true rfl) (fun v_6 m_6 h => ?_)
  refine gc_ishr dJ0_length_8abf5_9 ?_
  exact go_iret dJ0_length_8abf5_10 rfl (Nat.le_refl _) (Nat.le_refl _) ⟨_, rfl, h⟩
def W_J0_isLatin1_aae02 (j0 : Nat) (mem : Mm) (K : Bool → Mm → Prop) : Prop := K true mem
set_option maxRecDepth 100000 in
set_option maxHeartbeats 4000000 in
theorem w_J0_isLatin1_aae02 (X : CX) (j0 : Nat) (hj0 : j0 < 6) (mem : Mm) (K : Bool → Mm → Prop) (h : W_J0_isLatin1_aae02 j0 mem K) : CallsZ X 0 M_J0_isLatin1_aae02 [.ref (cx_k X (6 + j0))] mem K := by
  unfold W_J0_isLatin1_aae02 at h
  refine CallsC.ofP 0 (by decide) rfl (Nat.le_of_ble_eq_true rfl) ?_
  refine gc_getsZ dJ0_isLatin1_aae02_0 lj_J0_38 ?_
  refine gc_if_eq 17 dJ0_isLatin1_aae02_3 (by decide) (fun hc => absurd hc (by decide)) (fun hc => ?_)
  refine gc_aload_n dJ0_isLatin1_aae02_6 rfl ?_
  refine gc_strc hj0 dJ0_isLatin1_aae02_7 lj_J0_15 ?_
  refine gc_if_ne 17 dJ0_isLatin1_aae02_10 (by decide) (fun hc => absurd hc (by decide)) (fun hc => ?_)
  refine gc_iconst (v := 1) dJ0_isLatin1_aae02_13 (by decide) ?_
  refine gc_goto 18 dJ0_isLatin1_aae02_14 (by decide) ?_
  exact go_zret dJ0_isLatin1_aae02_18 rfl (by decide) (Nat.le_refl _) (Nat.le_refl _) ⟨true, rfl, h⟩
def W_J3_checkIndex_8e157 (p0 : Int32) (p1 : Int32) (r3 : Option Nat) (mem : Mm) (K : Int32 → Mm → Prop) : Prop := (p0 < 0 → (False)) ∧ (¬ p0 < 0 → ((p0 < p1 → (K p0 mem)) ∧ (¬ p0 < p1 → (False))))
set_option maxRecDepth 100000 in
set_option maxHeartbeats 4000000 in
theorem w_J3_checkIndex_8e157 (X : CX) (p0 : Int32) (p1 : Int32) (r3 : Option Nat) (mem : Mm) (K : Int32 → Mm → Prop) (h : W_J3_checkIndex_8e157 p0 p1 r3 mem K) : CallsI X 0 M_J3_checkIndex_8e157 [.int p0, .int p1, va_rf r3] mem K := by
  unfold W_J3_checkIndex_8e157 at h
  cases r3 with
  | none =>
    refine CallsC.ofP 0 (by decide) rfl (Nat.le_of_ble_eq_true rfl) ?_
    refine gc_iload_n dJ3_checkIndex_8e157_0 rfl ?_
    refine gc_if_lt 9 dJ3_checkIndex_8e157_1 (by decide) (fun hc => ?_) (fun hc => ?_)
    · have h := h.1 hc
      exact h.elim
    · have h := h.2 hc
      refine gc_iload_n dJ3_checkIndex_8e157_4 rfl ?_
      refine gc_iload_n dJ3_checkIndex_8e157_5 rfl ?_
      refine gc_icmp_lt 16 dJ3_checkIndex_8e157_6 (by decide) (fun hc => ?_) (fun hc => ?_)
      · have h := h.1 hc
        refine gc_iload_n dJ3_checkIndex_8e157_16 rfl ?_
        exact go_iret dJ3_checkIndex_8e157_17 rfl (Nat.le_refl _) (Nat.le_refl _) ⟨_, rfl, h⟩
      · have h := h.2 hc
        exact h.elim
  | some b9 =>
    refine CallsC.ofP 0 (by decide) rfl (Nat.le_of_ble_eq_true rfl) ?_
    refine gc_iload_n dJ3_checkIndex_8e157_0 rfl ?_
    refine gc_if_lt 9 dJ3_checkIndex_8e157_1 (by decide) (fun hc => ?_) (fun hc => ?_)
    · have h := h.1 hc
      exact h.elim
    · have h := h.2 hc
      refine gc_iload_n dJ3_checkIndex_8e157_4 rfl ?_
      refine gc_iload_n dJ3_checkIndex_8e157_5 rfl ?_
      refine gc_icmp_lt 16 dJ3_checkIndex_8e157_6 (by decide) (fun hc => ?_) (fun hc => ?_)
      · have h := h.1 hc
        refine gc_iload_n dJ3_checkIndex_8e157_16 rfl ?_
        exact go_iret dJ3_checkIndex_8e157_17 rfl (Nat.le_refl _) (Nat.le_refl _) ⟨_, rfl, h⟩
      · have h := h.2 hc
        exact h.elim
