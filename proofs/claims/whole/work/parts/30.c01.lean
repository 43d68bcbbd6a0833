def B_X6_gives_122 (j0 : Nat) (p0 : Int32) (p1 : Int32) (p2 : Int32) (p3 : Int32) (kb6 : Int32 → Int32 → Int32 → Int32 → Int32 → Int32 → Mm → Prop) (K : Int32 → Mm → Prop) (l1 : Int32) (l2 : Int32) (l3 : Int32) (l4 : Int32) (l5 : Int32) (l6 : Int32) (l7 : Int32) (mem : Mm) : Prop := (l5 < 2 → (kb6 l1 l2 l3 l4 l5 (l6 + 1) mem)) ∧ (¬ l5 < 2 → (j0 < nTx mem ∧ (j0 < nTx mem ∧ (j0 < nTx mem ∧ (mem (106 + 3 * j0 + 2) 1000).toNatClampNeg ≤ 1000 ∧ ∃ i_150 : Nat, ((l5 + (-1)) - 1) = nI i_150 ∧ i_150 < (mem (106 + 3 * j0 + 2) 1000).toNatClampNeg ∧ (j0 < nTx mem ∧ (j0 < nTx mem ∧ (mem (106 + 3 * j0 + 2) 1000).toNatClampNeg ≤ 1000 ∧ ∃ i_157 : Nat, (l5 + (-1)) = nI i_157 ∧ i_157 < (mem (106 + 3 * j0 + 2) 1000).toNatClampNeg ∧ (W_X6_joined (-l7) (mem (106 + 3 * j0 + 2) i_150) (mem (106 + 3 * j0 + 2) i_157) mem (fun v_158 m_158 => j0 < nTx m_158 ∧ (m_158 (106 + 3 * j0 + 2) 1000).toNatClampNeg ≤ 1000 ∧ ∃ i_161 : Nat, ((l5 + (-1)) - 1) = nI i_161 ∧ i_161 < (m_158 (106 + 3 * j0 + 2) 1000).toNatClampNeg ∧ (∀ m_161 : Mm, m_161 = mu m_158 (106 + 3 * j0 + 2) i_161 v_158 → (kb6 l1 l2 l3 l4 (l5 + (-1)) (l6 + 1) m_161))))))))))
set_option maxRecDepth 100000 in
set_option maxHeartbeats 4000000 in
theorem b_X6_gives_122 (X : CX) (j0 : Nat) (p0 : Int32) (p1 : Int32) (p2 : Int32) (p3 : Int32)  (kb6 : Int32 → Int32 → Int32 → Int32 → Int32 → Int32 → Mm → Prop) (K : Int32 → Mm → Prop) (hkb6 : ∀ (l1 : Int32) (l2 : Int32) (l3 : Int32) (l4 : Int32) (l5 : Int32) (l6 : Int32) (mem : Mm), kb6 l1 l2 l3 l4 l5 l6 mem → GoC X 1 0 0 M_X6_gives 6 [some (.ref (cx_n X + (106 + 3 * j0))), some (.int l1), some (.int l2), some (.int l3), some (.int l4), some (.int l5), some (.int l6), none] [] 0 0 (cellAt X mem) (sz mem) (qm X (fun r m => ∃ v : Int32, r = some (.int v) ∧ K v m))) (l1 : Int32) (l2 : Int32) (l3 : Int32) (l4 : Int32) (l5 : Int32) (l6 : Int32) (l7 : Int32) (mem : Mm)  (h : B_X6_gives_122 j0 p0 p1 p2 p3  kb6 K l1 l2 l3 l4 l5 l6 l7 mem) : GoC X 1 0 0 M_X6_gives 122 [some (.ref (cx_n X + (106 + 3 * j0))), some (.int l1), some (.int l2), some (.int l3), some (.int l4), some (.int l5), some (.int l6), some (.int l7)] [] 0 0 (cellAt X mem) (sz mem) (qm X (fun r m => ∃ v : Int32, r = some (.int v) ∧ K v m)) := by
  unfold B_X6_gives_122 at h
  refine gc_iload dX6_gives_122 rfl ?_
  refine gc_iconst (v := 2) dX6_gives_124 (by decide) ?_
  refine gc_icmp_lt 162 dX6_gives_125 (by decide) (fun hc => ?_) (fun hc => ?_)
  · have h := h.1 hc
    refine gc_iinc (v := l6 + 1) dX6_gives_162 rfl rfl (by decide) ?_
    refine gc_goto 6 dX6_gives_165 (by decide) ?_
    refine gc_forget 7 ?_
    exact hkb6 l1 l2 l3 l4 l5 (l6 + 1) mem  h
  · have h := h.2 hc
    refine gc_iinc (v := l5 + (-1)) dX6_gives_128 rfl rfl (by decide) ?_
    refine gc_aload_n dX6_gives_131 rfl ?_
    obtain ⟨hj, h⟩ := h
    refine go_getR dX6_gives_132 lg_X6_26 (by have := tx_lt hj; omega) (kd_tx _) rfl ?_
    refine gc_iload dX6_gives_135 rfl ?_
    refine gc_iconst (v := 1) dX6_gives_137 (by decide) ?_
    refine gc_isub dX6_gives_138 ?_
    refine gc_iload dX6_gives_139 rfl ?_
    refine gc_ineg dX6_gives_141 ?_
    refine gc_aload_n dX6_gives_142 rfl ?_
    obtain ⟨hj, h⟩ := h
    refine go_getR dX6_gives_143 lg_X6_26 (by have := tx_lt hj; omega) (kd_tx _) rfl ?_
    refine gc_iload dX6_gives_146 rfl ?_
    refine gc_iconst (v := 1) dX6_gives_148 (by decide) ?_
    refine gc_isub dX6_gives_149 ?_
    obtain ⟨hj, hz, i_150, hx_150, hi_150, h⟩ := h
    refine go_dald i_150 dX6_gives_150 (by have := tx_lt hj; omega) (kd_t2 _) hx_150 hi_150 hz ?_
    refine gc_aload_n dX6_gives_151 rfl ?_
    obtain ⟨hj, h⟩ := h
    refine go_getR dX6_gives_152 lg_X6_26 (by have := tx_lt hj; omega) (kd_tx _) rfl ?_
    refine gc_iload dX6_gives_155 rfl ?_
    obtain ⟨hj, hz, i_157, hx_157, hi_157, h⟩ := h
    refine go_dald i_157 dX6_gives_157 (by have := tx_lt hj; omega) (kd_t2 _) hx_157 hi_157 hz ?_
    refine go_cSI (y := M_X6_joined) (As := [.int (-l7), .int (mem (106 + 3 * j0 + 2) i_150), .int (mem (106 + 3 * j0 + 2) i_157)]) (rest := [.int ((l5 + (-1)) - 1), .ref (cx_n X + (106 + 3 * j0 + 2))]) dX6_gives_158 lm_X6_33 ok_X6_joined (by decide) (w_X6_joined X (-l7) (mem (106 + 3 * j0 + 2) i_150) (mem (106 + 3 * j0 + 2) i_157) mem _ h) rfl (Nat.le_of_ble_eq_true rfl) (fun v_158 m_158 h => ?_)
    obtain ⟨hj, hz, i_161, hx_161, hi_161, h⟩ := h
    refine go_dast_ i_161 dX6_gives_161 (by have := tx_lt hj; omega) (kd_t2 _) hx_161 hi_161 hz (fun m_161 em_161 => ?_)
    have h := h m_161 em_161
    refine gc_iinc (v := l6 + 1) dX6_gives_162 rfl rfl (by decide) ?_
    refine gc_goto 6 dX6_gives_165 (by decide) ?_
    refine gc_forget 7 ?_
    exact hkb6 l1 l2 l3 l4 (l5 + (-1)) (l6 + 1) m_161  h
def B_X6_gives_80 (j0 : Nat) (p0 : Int32) (p1 : Int32) (p2 : Int32) (p3 : Int32) (kb6 : Int32 → Int32 → Int32 → Int32 → Int32 → Int32 → Mm → Prop) (K : Int32 → Mm → Prop) (l1 : Int32) (l2 : Int32) (l3 : Int32) (l4 : Int32) (l5 : Int32) (l6 : Int32) (l7 : Int32) (mem : Mm) : Prop := (¬ l7 = (-33) → (B_X6_gives_122 j0 p0 p1 p2 p3  kb6 K l1 l2 l3 l4 l5 l6 l7 mem)) ∧ (l7 = (-33) → ((l5 < 1 → (B_X6_gives_122 j0 p0 p1 p2 p3  kb6 K l1 l2 l3 l4 l5 l6 l7 mem)) ∧ (¬ l5 < 1 → (j0 < nTx mem ∧ (j0 < nTx mem ∧ (j0 < nTx mem ∧ (mem (106 + 3 * j0 + 2) 1000).toNatClampNeg ≤ 1000 ∧ ∃ i_109 : Nat, (l5 - 1) = nI i_109 ∧ i_109 < (mem (106 + 3 * j0 + 2) 1000).toNatClampNeg ∧ ((¬ (mem (106 + 3 * j0 + 2) i_109) = 0 → (j0 < nTx mem ∧ (mem (106 + 3 * j0 + 2) 1000).toNatClampNeg ≤ 1000 ∧ ∃ i_118 : Nat, (l5 - 1) = nI i_118 ∧ i_118 < (mem (106 + 3 * j0 + 2) 1000).toNatClampNeg ∧ (∀ m_118 : Mm, m_118 = mu mem (106 + 3 * j0 + 2) i_118 0 → (kb6 l1 l2 l3 l4 l5 (l6 + 1) m_118)))) ∧ ((mem (106 + 3 * j0 + 2) i_109) = 0 → (j0 < nTx mem ∧ (mem (106 + 3 * j0 + 2) 1000).toNatClampNeg ≤ 1000 ∧ ∃ i_118 : Nat, (l5 - 1) = nI i_118 ∧ i_118 < (mem (106 + 3 * j0 + 2) 1000).toNatClampNeg ∧ (∀ m_118 : Mm, m_118 = mu mem (106 + 3 * j0 + 2) i_118 1 → (kb6 l1 l2 l3 l4 l5 (l6 + 1) m_118)))))))))))
set_option maxRecDepth 100000 in
set_option maxHeartbeats 4000000 in
theorem b_X6_gives_80 (X : CX) (j0 : Nat) (p0 : Int32) (p1 : Int32) (p2 : Int32) (p3 : Int32)  (kb6 : Int32 → Int32 → Int32 → Int32 → Int32 → Int32 → Mm → Prop) (K : Int32 → Mm → Prop) (hkb6 : ∀ (l1 : Int32) (l2 : Int32) (l3 : Int32) (l4 : Int32) (l5 : Int32) (l6 : Int32) (mem : Mm), kb6 l1 l2 l3 l4 l5 l6 mem → GoC X 1 0 0 M_X6_gives 6 [some (.ref (cx_n X + (106 + 3 * j0))), some (.int l1), some (.int l2), some (.int l3), some (.int l4), some (.int l5), some (.int l6), none] [] 0 0 (cellAt X mem) (sz mem) (qm X (fun r m => ∃ v : Int32, r = some (.int v) ∧ K v m))) (l1 : Int32) (l2 : Int32) (l3 : Int32) (l4 : Int32) (l5 : Int32) (l6 : Int32) (l7 : Int32) (mem : Mm)  (h : B_X6_gives_80 j0 p0 p1 p2 p3  kb6 K l1 l2 l3 l4 l5 l6 l7 mem) : GoC X 1 0 0 M_X6_gives 80 [some (.ref (cx_n X + (106 + 3 * j0))), some (.int l1), some (.int l2), some (.int l3), some (.int l4), some (.int l5), some (.int l6), some (.int l7)] [] 0 0 (cellAt X mem) (sz mem) (qm X (fun r m => ∃ v : Int32, r = some (.int v) ∧ K v m)) := by
  unfold B_X6_gives_80 at h
  refine gc_iload dX6_gives_80 rfl ?_
  refine gc_bipush (v := (-33)) dX6_gives_82 (by decide) ?_
  refine gc_icmp_ne 122 dX6_gives_84 (by decide) (fun hc => ?_) (fun hc => ?_)
  · have h := h.1 hc
    exact b_X6_gives_122 X j0 p0 p1 p2 p3   kb6 K  hkb6 l1 l2 l3 l4 l5 l6 l7 mem  h
  · have h := h.2 hc
    refine gc_iload dX6_gives_87 rfl ?_
    refine gc_iconst (v := 1) dX6_gives_89 (by decide) ?_
    refine gc_icmp_lt 122 dX6_gives_90 (by decide) (fun hc => ?_) (fun hc => ?_)
    · have h := h.1 hc
      exact b_X6_gives_122 X j0 p0 p1 p2 p3   kb6 K  hkb6 l1 l2 l3 l4 l5 l6 l7 mem  h
    · have h := h.2 hc
      refine gc_aload_n dX6_gives_93 rfl ?_
      obtain ⟨hj, h⟩ := h
      refine go_getR dX6_gives_94 lg_X6_26 (by have := tx_lt hj; omega) (kd_tx _) rfl ?_
      refine gc_iload dX6_gives_97 rfl ?_
      refine gc_iconst (v := 1) dX6_gives_99 (by decide) ?_
      refine gc_isub dX6_gives_100 ?_
      refine gc_aload_n dX6_gives_101 rfl ?_
      obtain ⟨hj, h⟩ := h
      refine go_getR dX6_gives_102 lg_X6_26 (by have := tx_lt hj; omega) (kd_tx _) rfl ?_
      refine gc_iload dX6_gives_105 rfl ?_
      refine gc_iconst (v := 1) dX6_gives_107 (by decide) ?_
      refine gc_isub dX6_gives_108 ?_
      obtain ⟨hj, hz, i_109, hx_109, hi_109, h⟩ := h
      refine go_dald i_109 dX6_gives_109 (by have := tx_lt hj; omega) (kd_t2 _) hx_109 hi_109 hz ?_
      refine gc_if_ne 117 dX6_gives_110 (by decide) (fun hc => ?_) (fun hc => ?_)
      · have h := h.1 hc
        refine gc_iconst (v := 0) dX6_gives_117 (by decide) ?_
        obtain ⟨hj, hz, i_118, hx_118, hi_118, h⟩ := h
        refine go_dast_ i_118 dX6_gives_118 (by have := tx_lt hj; omega) (kd_t2 _) hx_118 hi_118 hz (fun m_118 em_118 => ?_)
        have h := h m_118 em_118
        refine gc_goto 162 dX6_gives_119 (by decide) ?_
        refine gc_iinc (v := l6 + 1) dX6_gives_162 rfl rfl (by decide) ?_
        refine gc_goto 6 dX6_gives_165 (by decide) ?_
        refine gc_forget 7 ?_
        exact hkb6 l1 l2 l3 l4 l5 (l6 + 1) m_118  h
      · have h := h.2 hc
        refine gc_iconst (v := 1) dX6_gives_113 (by decide) ?_
        refine gc_goto 118 dX6_gives_114 (by decide) ?_
        obtain ⟨hj, hz, i_118, hx_118, hi_118, h⟩ := h
        refine go_dast_ i_118 dX6_gives_118 (by have := tx_lt hj; omega) (kd_t2 _) hx_118 hi_118 hz (fun m_118 em_118 => ?_)
        have h := h m_118 em_118
        refine gc_goto 162 dX6_gives_119 (by decide) ?_
        refine gc_iinc (v := l6 + 1) dX6_gives_162 rfl rfl (by decide) ?_
        refine gc_goto 6 dX6_gives_165 (by decide) ?_
        refine gc_forget 7 ?_
        exact hkb6 l1 l2 l3 l4 l5 (l6 + 1) m_118  h
def L_X6_gives_6 (j0 : Nat) (p0 : Int32) (p1 : Int32) (p2 : Int32) (p3 : Int32) (K : Int32 → Mm → Prop) : Nat → Int32 → Int32 → Int32 → Int32 → Int32 → Int32 → Mm → Prop
  | 0, _, _, _, _, _, _, _ => False
  | n + 1, l1, l2, l3, l4, l5, l6, mem => j0 < nTx mem ∧ (j0 < nTx mem ∧ (((nI (mem (106 + 3 * j0 + 1) 1000).toNatClampNeg) ≤ l6 → (j0 < nTx mem ∧ (j0 < nTx mem ∧ (mem (106 + 3 * j0 + 2) 1000).toNatClampNeg ≤ 1000 ∧ ∃ i_173 : Nat, 0 = nI i_173 ∧ i_173 < (mem (106 + 3 * j0 + 2) 1000).toNatClampNeg ∧ (K (mem (106 + 3 * j0 + 2) i_173) mem)))) ∧ (¬ (nI (mem (106 + 3 * j0 + 1) 1000).toNatClampNeg) ≤ l6 → (j0 < nTx mem ∧ (j0 < nTx mem ∧ (mem (106 + 3 * j0 + 1) 1000).toNatClampNeg ≤ 1000 ∧ ∃ i_22 : Nat, l6 = nI i_22 ∧ i_22 < (mem (106 + 3 * j0 + 1) 1000).toNatClampNeg ∧ (((mem (106 + 3 * j0 + 1) i_22) < 0 → (B_X6_gives_80 j0 p0 p1 p2 p3  (fun zl1 zl2 zl3 zl4 zl5 zl6 zm => L_X6_gives_6 j0 p0 p1 p2 p3  K n zl1 zl2 zl3 zl4 zl5 zl6 zm) K l1 l2 l3 l4 l5 l6 (mem (106 + 3 * j0 + 1) i_22) mem)) ∧ (¬ (mem (106 + 3 * j0 + 1) i_22) < 0 → (j0 < nTx mem ∧ (j0 < nTx mem ∧ (((nI (mem (106 + 3 * j0 + 2) 1000).toNatClampNeg) ≤ l5 → (B_X6_gives_80 j0 p0 p1 p2 p3  (fun zl1 zl2 zl3 zl4 zl5 zl6 zm => L_X6_gives_6 j0 p0 p1 p2 p3  K n zl1 zl2 zl3 zl4 zl5 zl6 zm) K l1 l2 l3 l4 l5 l6 (mem (106 + 3 * j0 + 1) i_22) mem)) ∧ (¬ (nI (mem (106 + 3 * j0 + 2) 1000).toNatClampNeg) ≤ l5 → (j0 < nTx mem ∧ ((10000 ≤ (mem (106 + 3 * j0 + 1) i_22) → (W_X6_chosen ((mem (106 + 3 * j0 + 1) i_22) - 10000) l1 l2 l3 l4 mem (fun v_70 m_70 => j0 < nTx m_70 ∧ (m_70 (106 + 3 * j0 + 2) 1000).toNatClampNeg ≤ 1000 ∧ ∃ i_73 : Nat, l5 = nI i_73 ∧ i_73 < (m_70 (106 + 3 * j0 + 2) 1000).toNatClampNeg ∧ (∀ m_73 : Mm, m_73 = mu m_70 (106 + 3 * j0 + 2) i_73 v_70 → (L_X6_gives_6 j0 p0 p1 p2 p3  K n l1 l2 l3 l4 (l5 + 1) (l6 + 1) m_73))))) ∧ (¬ 10000 ≤ (mem (106 + 3 * j0 + 1) i_22) → (j0 < nTx mem ∧ (mem (106 + 3 * j0 + 2) 1000).toNatClampNeg ≤ 1000 ∧ ∃ i_73 : Nat, l5 = nI i_73 ∧ i_73 < (mem (106 + 3 * j0 + 2) 1000).toNatClampNeg ∧ (∀ m_73 : Mm, m_73 = mu mem (106 + 3 * j0 + 2) i_73 (mem (106 + 3 * j0 + 1) i_22) → (L_X6_gives_6 j0 p0 p1 p2 p3  K n l1 l2 l3 l4 (l5 + 1) (l6 + 1) m_73)))))))))))))))))
set_option maxRecDepth 100000 in
set_option maxHeartbeats 4000000 in
theorem l_X6_gives_6 (X : CX) (j0 : Nat) (p0 : Int32) (p1 : Int32) (p2 : Int32) (p3 : Int32)  (K : Int32 → Mm → Prop) : ∀ (n : Nat) (l1 : Int32) (l2 : Int32) (l3 : Int32) (l4 : Int32) (l5 : Int32) (l6 : Int32) (mem : Mm), L_X6_gives_6 j0 p0 p1 p2 p3   K n l1 l2 l3 l4 l5 l6 mem → GoC X 1 0 0 M_X6_gives 6 [some (.ref (cx_n X + (106 + 3 * j0))), some (.int l1), some (.int l2), some (.int l3), some (.int l4), some (.int l5), some (.int l6), none] [] 0 0 (cellAt X mem) (sz mem) (qm X (fun r m => ∃ v : Int32, r = some (.int v) ∧ K v m))
  := by
  intro n
  induction n with
  | zero => intro l1 l2 l3 l4 l5 l6 mem h; exact h.elim
  | succ n ih =>
    intro l1 l2 l3 l4 l5 l6 mem h
    unfold L_X6_gives_6 at h
    refine gc_iload dX6_gives_6 rfl ?_
    refine gc_aload_n dX6_gives_8 rfl ?_
    obtain ⟨hj, h⟩ := h
    refine go_getR dX6_gives_9 lg_X6_16 (by have := tx_lt hj; omega) (kd_tx _) rfl ?_
    obtain ⟨hj, h⟩ := h
    refine go_dlen dX6_gives_12 (by have := tx_lt hj; omega) (kd_t1 _) ?_
    refine gc_icmp_ge 168 dX6_gives_13 (by decide) (fun hc => ?_) (fun hc => ?_)
    · have h := h.1 hc
      refine gc_aload_n dX6_gives_168 rfl ?_
      obtain ⟨hj, h⟩ := h
      refine go_getR dX6_gives_169 lg_X6_26 (by have := tx_lt hj; omega) (kd_tx _) rfl ?_
      refine gc_iconst (v := 0) dX6_gives_172 (by decide) ?_
      obtain ⟨hj, hz, i_173, hx_173, hi_173, h⟩ := h
      refine go_dald i_173 dX6_gives_173 (by have := tx_lt hj; omega) (kd_t2 _) hx_173 hi_173 hz ?_
      exact go_iret dX6_gives_174 rfl (Nat.le_refl _) (Nat.le_refl _) ⟨_, rfl, h⟩
    · have h := h.2 hc
      refine gc_aload_n dX6_gives_16 rfl ?_
      obtain ⟨hj, h⟩ := h
      refine go_getR dX6_gives_17 lg_X6_16 (by have := tx_lt hj; omega) (kd_tx _) rfl ?_
      refine gc_iload dX6_gives_20 rfl ?_
      obtain ⟨hj, hz, i_22, hx_22, hi_22, h⟩ := h
      refine go_dald i_22 dX6_gives_22 (by have := tx_lt hj; omega) (kd_t1 _) hx_22 hi_22 hz ?_
      refine gc_istore dX6_gives_23 (by decide) ?_
      refine gc_iload dX6_gives_25 rfl ?_
      refine gc_if_lt 80 dX6_gives_27 (by decide) (fun hc => ?_) (fun hc => ?_)
      · have h := h.1 hc
        exact b_X6_gives_80 X j0 p0 p1 p2 p3   (fun zl1 zl2 zl3 zl4 zl5 zl6 zm => L_X6_gives_6 j0 p0 p1 p2 p3  K n zl1 zl2 zl3 zl4 zl5 zl6 zm) K  ih l1 l2 l3 l4 l5 l6 (mem (106 + 3 * j0 + 1) i_22) mem  h
      · have h := h.2 hc
        refine gc_iload dX6_gives_30 rfl ?_
        refine gc_aload_n dX6_gives_32 rfl ?_
        obtain ⟨hj, h⟩ := h
        refine go_getR dX6_gives_33 lg_X6_26 (by have := tx_lt hj; omega) (kd_tx _) rfl ?_
        obtain ⟨hj, h⟩ := h
        refine go_dlen dX6_gives_36 (by have := tx_lt hj; omega) (kd_t2 _) ?_
        refine gc_icmp_ge 80 dX6_gives_37 (by decide) (fun hc => ?_) (fun hc => ?_)
        · have h := h.1 hc
          exact b_X6_gives_80 X j0 p0 p1 p2 p3   (fun zl1 zl2 zl3 zl4 zl5 zl6 zm => L_X6_gives_6 j0 p0 p1 p2 p3  K n zl1 zl2 zl3 zl4 zl5 zl6 zm) K  ih l1 l2 l3 l4 l5 l6 (mem (106 + 3 * j0 + 1) i_22) mem  h
        · have h := h.2 hc
          refine gc_aload_n dX6_gives_40 rfl ?_
          obtain ⟨hj, h⟩ := h
          refine go_getR dX6_gives_41 lg_X6_26 (by have := tx_lt hj; omega) (kd_tx _) rfl ?_
          refine gc_iload dX6_gives_44 rfl ?_
          refine gc_iload dX6_gives_46 rfl ?_
          refine gc_sipush (v := 10000) dX6_gives_48 (by decide) ?_
          refine gc_icmp_ge 59 dX6_gives_51 (by decide) (fun hc => ?_) (fun hc => ?_)
          · have h := h.1 hc
            refine gc_iload dX6_gives_59 rfl ?_
            refine gc_sipush (v := 10000) dX6_gives_61 (by decide) ?_
            refine gc_isub dX6_gives_64 ?_
            refine gc_iload_n dX6_gives_65 rfl ?_
            refine gc_iload_n dX6_gives_66 rfl ?_
            refine gc_iload_n dX6_gives_67 rfl ?_
            refine gc_iload dX6_gives_68 rfl ?_
            refine go_cSI (y := M_X6_chosen) (As := [.int ((mem (106 + 3 * j0 + 1) i_22) - 10000), .int l1, .int l2, .int l3, .int l4]) (rest := [.int l5, .ref (cx_n X + (106 + 3 * j0 + 2))]) dX6_gives_70 lm_X6_29 ok_X6_chosen (by decide) (w_X6_chosen X ((mem (106 + 3 * j0 + 1) i_22) - 10000) l1 l2 l3 l4 mem _ h) rfl (Nat.le_of_ble_eq_true rfl) (fun v_70 m_70 h => ?_)
            obtain ⟨hj, hz, i_73, hx_73, hi_73, h⟩ := h
            refine go_dast_ i_73 dX6_gives_73 (by have := tx_lt hj; omega) (kd_t2 _) hx_73 hi_73 hz (fun m_73 em_73 => ?_)
            have h := h m_73 em_73
            refine gc_iinc (v := l5 + 1) dX6_gives_74 rfl rfl (by decide) ?_
            refine gc_goto 162 dX6_gives_77 (by decide) ?_
            refine gc_iinc (v := l6 + 1) dX6_gives_162 rfl rfl (by decide) ?_
            refine gc_goto 6 dX6_gives_165 (by decide) ?_
            refine gc_forget 7 ?_
            exact ih l1 l2 l3 l4 (l5 + 1) (l6 + 1) m_73  h
          · have h := h.2 hc
            refine gc_iload dX6_gives_54 rfl ?_
            refine gc_goto 73 dX6_gives_56 (by decide) ?_
            obtain ⟨hj, hz, i_73, hx_73, hi_73, h⟩ := h
            refine go_dast_ i_73 dX6_gives_73 (by have := tx_lt hj; omega) (kd_t2 _) hx_73 hi_73 hz (fun m_73 em_73 => ?_)
            have h := h m_73 em_73
            refine gc_iinc (v := l5 + 1) dX6_gives_74 rfl rfl (by decide) ?_
            refine gc_goto 162 dX6_gives_77 (by decide) ?_
            refine gc_iinc (v := l6 + 1) dX6_gives_162 rfl rfl (by decide) ?_
            refine gc_goto 6 dX6_gives_165 (by decide) ?_
            refine gc_forget 7 ?_
            exact ih l1 l2 l3 l4 (l5 + 1) (l6 + 1) m_73  h
def W_X6_gives (j0 : Nat) (p0 : Int32) (p1 : Int32) (p2 : Int32) (p3 : Int32) (mem : Mm) (K : Int32 → Mm → Prop) : Prop := ∃ nz : Nat, L_X6_gives_6 j0 p0 p1 p2 p3   K nz p0 p1 p2 p3 0 0 mem
set_option maxRecDepth 100000 in
set_option maxHeartbeats 4000000 in
theorem w_X6_gives (X : CX) (j0 : Nat) (p0 : Int32) (p1 : Int32) (p2 : Int32) (p3 : Int32) (mem : Mm) (K : Int32 → Mm → Prop) (h : W_X6_gives j0 p0 p1 p2 p3 mem K) : CallsI X 1 M_X6_gives [.ref (cx_n X + (106 + 3 * j0)), .int p0, .int p1, .int p2, .int p3] mem K := by
  unfold W_X6_gives at h
  refine CallsC.ofP 3 (by decide) rfl (Nat.le_of_ble_eq_true rfl) ?_
  refine gc_iconst (v := 0) dX6_gives_0 (by decide) ?_
  refine gc_istore dX6_gives_1 (by decide) ?_
  refine gc_iconst (v := 0) dX6_gives_3 (by decide) ?_
  refine gc_istore dX6_gives_4 (by decide) ?_
  obtain ⟨n9, h⟩ := h
  exact l_X6_gives_6 X j0 p0 p1 p2 p3    K   n9 p0 p1 p2 p3 0 0 mem  h
def W_X8_held (p0 : Int32) (p1 : Int32) (mem : Mm) (K : Int32 → Mm → Prop) : Prop := K (if 0 < (if p1 < p0 then p1 else p0) then (if p1 < p0 then p1 else p0) else 0) mem
set_option maxRecDepth 100000 in
set_option maxHeartbeats 4000000 in
theorem w_X8_held (X : CX) (p0 : Int32) (p1 : Int32) (mem : Mm) (K : Int32 → Mm → Prop) (h : W_X8_held p0 p1 mem K) : CallsI X 1 M_X8_held [.int p0, .int p1] mem K := by
  unfold W_X8_held at h
  refine CallsC.ofP 0 (by decide) rfl (Nat.le_of_ble_eq_true rfl) ?_
  refine gc_iconst (v := 0) dX8_held_0 (by decide) ?_
  refine gc_iload_n dX8_held_1 rfl ?_
  refine gc_iload_n dX8_held_2 rfl ?_
  refine gc_mmin dX8_held_3 lmm_X8_150 (by decide) (Nat.le_of_ble_eq_true rfl) (Nat.le_refl _) (Nat.le_refl _) ?_
  refine gc_mmax dX8_held_6 lmm_X8_336 (by decide) (Nat.le_of_ble_eq_true rfl) (Nat.le_refl _) (Nat.le_refl _) ?_
  exact go_iret dX8_held_9 rfl (Nat.le_refl _) (Nat.le_refl _) ⟨_, rfl, h⟩
def W_X0_plainBearing (a0 : Nat) (p0 : Int32) (p1 : Int32) (mem : Mm) (K : Int32 → Mm → Prop) : Prop := ∃ i_5 : Nat, p0 = nI i_5 ∧ i_5 < 9 ∧ (W_X0_counted a0 0 mem (fun v_9 m_9 => (v_9 < 0 → (K (m_9 (a0 + 4 + i_5) 1) m_9)) ∧ (¬ v_9 < 0 → (v_9.toNatClampNeg < nTx m_9 ∧ W_X6_gives v_9.toNatClampNeg (m_9 (a0 + 4 + i_5) 1) (m_9 (a0 + 4 + i_5) 2) (m_9 (a0 + 4 + i_5) 4) p1 m_9 (fun v_41 m_41 => W_X8_held v_41 99 m_41 (fun v_46 m_46 => K v_46 m_46))))))
set_option maxRecDepth 100000 in
set_option maxHeartbeats 4000000 in
theorem w_X0_plainBearing (X : CX) (a0 : Nat) (ha0 : isAl a0) (p0 : Int32) (p1 : Int32) (mem : Mm) (K : Int32 → Mm → Prop) (h : W_X0_plainBearing a0 p0 p1 mem K) : CallsI X 2 M_X0_plainBearing [.ref (cx_n X + a0), .int p0, .int p1] mem K := by
  unfold W_X0_plainBearing at h
  refine CallsC.ofP 2 (by decide) rfl (Nat.le_of_ble_eq_true rfl) ?_
  refine gc_aload_n dX0_plainBearing_0 rfl ?_
  refine go_getR dX0_plainBearing_1 lg_X0_11 (sz_lt (al_lt ha0)) (al_kd ha0) rfl ?_
  refine gc_iload_n dX0_plainBearing_4 rfl ?_
  obtain ⟨i_5, hx_5, hi_5, h⟩ := h
  refine go_men i_5 ha0 dX0_plainBearing_5 hx_5 hi_5 ?_
  refine gc_astore_n dX0_plainBearing_6 (by decide) ?_
  refine gc_aload_n dX0_plainBearing_7 rfl ?_
  refine gc_iconst (v := 0) dX0_plainBearing_8 (by decide) ?_
  refine go_cVT (y := M_X0_counted) (As := [.int 0]) (rest := []) dX0_plainBearing_9 lm_X0_116 ok_X0_counted (by decide) (sz_lt (al_lt ha0)) (al_kd ha0) rfl rfl (w_X0_counted X a0 ha0 0 mem _ h) rfl (Nat.le_of_ble_eq_true rfl) (fun v_9 m_9 hv h => ?_) (fun v_9 m_9 hv h => ?_)
  · have h := h.1 hv
    refine gc_astoreN dX0_plainBearing_12 (by decide) ?_
    refine gc_aloadN dX0_plainBearing_14 rfl ?_
    refine gc_ifnonnullN dX0_plainBearing_16 ?_
    refine gc_aload_n dX0_plainBearing_19 rfl ?_
    refine go_getI dX0_plainBearing_20 lg_X0_85 (sz_lt (al_man ha0 hi_5).2) (al_man ha0 hi_5).1 rfl ?_
    refine gc_goto 49 dX0_plainBearing_23 (by decide) ?_
    exact go_iret dX0_plainBearing_49 rfl (Nat.le_refl _) (Nat.le_refl _) ⟨_, rfl, h⟩
  · have h := h.2 hv
    refine gc_astore dX0_plainBearing_12 (by decide) ?_
    refine gc_aload dX0_plainBearing_14 rfl ?_
    refine gc_ifnonnull 26 dX0_plainBearing_16 (by decide) ?_
    refine gc_aload dX0_plainBearing_26 rfl ?_
    refine gc_aload_n dX0_plainBearing_28 rfl ?_
    refine go_getI dX0_plainBearing_29 lg_X0_85 (sz_lt (al_man ha0 hi_5).2) (al_man ha0 hi_5).1 rfl ?_
    refine gc_aload_n dX0_plainBearing_32 rfl ?_
    refine go_getI dX0_plainBearing_33 lg_X0_103 (sz_lt (al_man ha0 hi_5).2) (al_man ha0 hi_5).1 rfl ?_
    refine gc_aload_n dX0_plainBearing_36 rfl ?_
    refine go_getI dX0_plainBearing_37 lg_X0_88 (sz_lt (al_man ha0 hi_5).2) (al_man ha0 hi_5).1 rfl ?_
    refine gc_iload_n dX0_plainBearing_40 rfl ?_
    obtain ⟨hj, h⟩ := h
    refine go_cVI (y := M_X6_gives) (As := [.int (m_9 (a0 + 4 + i_5) 1), .int (m_9 (a0 + 4 + i_5) 2), .int (m_9 (a0 + 4 + i_5) 4), .int p1]) (rest := []) dX0_plainBearing_41 lm_X0_120 ok_X6_gives (by decide) (by have := tx_lt hj; omega) (kd_tx _) rfl rfl (w_X6_gives X v_9.toNatClampNeg (m_9 (a0 + 4 + i_5) 1) (m_9 (a0 + 4 + i_5) 2) (m_9 (a0 + 4 + i_5) 4) p1 m_9 _ h) rfl (Nat.le_of_ble_eq_true rfl) (fun v_41 m_41 h => ?_)
    refine gc_bipush (v := 99) dX0_plainBearing_44 (by decide) ?_
    refine go_cSI (y := M_X8_held) (As := [.int v_41, .int 99]) (rest := []) dX0_plainBearing_46 lm_X0_123 ok_X8_held (by decide) (w_X8_held X v_41 99 m_41 _ h) rfl (Nat.le_of_ble_eq_true rfl) (fun v_46 m_46 h => ?_)
    exact go_iret dX0_plainBearing_49 rfl (Nat.le_refl _) (Nat.le_refl _) ⟨_, rfl, h⟩
def B_X1_bearing_45 (a0 : Nat) (p0 : Int32) (p1 : Int32) (p2 : Int32) (K : Int32 → Mm → Prop) (l3 : Int32) (l4 : Int32) (l5 : Int32) (s0 : Int32) (mem : Mm) : Prop := ((mem a0 0) = 1 → (K l5 mem)) ∧ (¬ (mem a0 0) = 1 → (((mem a0 0) = 2 → (K s0 mem)) ∧ (¬ (mem a0 0) = 2 → (((mem a0 0) = 3 → (K (l5 + (5 * l3)) mem)) ∧ (¬ (mem a0 0) = 3 → (((mem a0 0) = 4 → (K (if 0 < (s0 - 10) then (s0 - 10) else 0) mem)) ∧ (¬ (mem a0 0) = 4 → (((mem a0 0) = 5 → (K 99 mem)) ∧ (¬ (mem a0 0) = 5 → (K l4 mem))))))))))
set_option maxRecDepth 100000 in
set_option maxHeartbeats 4000000 in
theorem b_X1_bearing_45 (X : CX) (a0 : Nat) (p0 : Int32) (p1 : Int32) (p2 : Int32) (ha0 : isMan a0) (K : Int32 → Mm → Prop) (l3 : Int32) (l4 : Int32) (l5 : Int32) (s0 : Int32) (mem : Mm)  (h : B_X1_bearing_45 a0 p0 p1 p2   K l3 l4 l5 s0 mem) : GoC X 1 0 0 M_X1_bearing 45 [some (.ref (cx_n X + a0)), none, none, some (.int l3), some (.int l4), some (.int l5), none] [.int s0] 0 0 (cellAt X mem) (sz mem) (qm X (fun r m => ∃ v : Int32, r = some (.int v) ∧ K v m)) := by
  unfold B_X1_bearing_45 at h
  refine gc_istore dX1_bearing_45 (by decide) ?_
  refine gc_aload_n dX1_bearing_47 rfl ?_
  refine go_getI dX1_bearing_48 lg_X1_9 (sz_lt ha0.2) ha0.1 rfl ?_
  by_cases hn0 : (mem a0 0) = 1
  · have h := h.1 hn0
    refine gc_tabIn (off := 33) 84 dX1_bearing_51 (by rw [hn0]; decide) (by rw [hn0]; decide) (by rw [hn0]; rfl) (by decide) ?_
    refine gc_iload dX1_bearing_84 rfl ?_
    exact go_iret dX1_bearing_86 rfl (Nat.le_refl _) (Nat.le_refl _) ⟨_, rfl, h⟩
  · have h := h.2 hn0
    have hq0 := tab_ne hn0 (a := 1) (by decide)
    by_cases hn1 : (mem a0 0) = 2
    · have h := h.1 hn1
      refine gc_tabIn (off := 43) 94 dX1_bearing_51 (by rw [hn1]; decide) (by rw [hn1]; decide) (by rw [hn1]; rfl) (by decide) ?_
      refine gc_iload dX1_bearing_94 rfl ?_
      exact go_iret dX1_bearing_96 rfl (Nat.le_refl _) (Nat.le_refl _) ⟨_, rfl, h⟩
    · have h := h.2 hn1
      have hq1 := tab_ne hn1 (a := 2) (by decide)
      by_cases hn2 : (mem a0 0) = 3
      · have h := h.1 hn2
        refine gc_tabIn (off := 36) 87 dX1_bearing_51 (by rw [hn2]; decide) (by rw [hn2]; decide) (by rw [hn2]; rfl) (by decide) ?_
        refine gc_iload dX1_bearing_87 rfl ?_
        refine gc_iconst (v := 5) dX1_bearing_89 (by decide) ?_
        refine gc_iload_n dX1_bearing_90 rfl ?_
        refine gc_imul dX1_bearing_91 ?_
        refine gc_iadd dX1_bearing_92 ?_
        exact go_iret dX1_bearing_93 rfl (Nat.le_refl _) (Nat.le_refl _) ⟨_, rfl, h⟩
      · have h := h.2 hn2
        have hq2 := tab_ne hn2 (a := 3) (by decide)
        by_cases hn3 : (mem a0 0) = 4
        · have h := h.1 hn3
          refine gc_tabIn (off := 46) 97 dX1_bearing_51 (by rw [hn3]; decide) (by rw [hn3]; decide) (by rw [hn3]; rfl) (by decide) ?_
          refine gc_iconst (v := 0) dX1_bearing_97 (by decide) ?_
          refine gc_iload dX1_bearing_98 rfl ?_
          refine gc_bipush (v := 10) dX1_bearing_100 (by decide) ?_
          refine gc_isub dX1_bearing_102 ?_
          refine gc_mmax dX1_bearing_103 lmm_X1_39 (by decide) (Nat.le_of_ble_eq_true rfl) (Nat.le_refl _) (Nat.le_refl _) ?_
          exact go_iret dX1_bearing_106 rfl (Nat.le_refl _) (Nat.le_refl _) ⟨_, rfl, h⟩
        · have h := h.2 hn3
          have hq3 := tab_ne hn3 (a := 4) (by decide)
          by_cases hn4 : (mem a0 0) = 5
          · have h := h.1 hn4
            refine gc_tabIn (off := 56) 107 dX1_bearing_51 (by rw [hn4]; decide) (by rw [hn4]; decide) (by rw [hn4]; rfl) (by decide) ?_
            refine gc_bipush (v := 99) dX1_bearing_107 (by decide) ?_
            exact go_iret dX1_bearing_109 rfl (Nat.le_refl _) (Nat.le_refl _) ⟨_, rfl, h⟩
          · have h := h.2 hn4
            have hq4 := tab_ne hn4 (a := 5) (by decide)
            refine gc_tabOut 110 dX1_bearing_51 (by have q := tab_out (x := (mem a0 0)) (lo := 1) (hi := 5) (fun j h1 h2 => by rcases (show j = 1 ∨ j = 2 ∨ j = 3 ∨ j = 4 ∨ j = 5 by omega) with rfl | rfl | rfl | rfl | rfl <;> assumption); exact q) (by decide) ?_
            refine gc_iload dX1_bearing_110 rfl ?_
            exact go_iret dX1_bearing_112 rfl (Nat.le_refl _) (Nat.le_refl _) ⟨_, rfl, h⟩
def B_X1_bearing_20 (a0 : Nat) (p0 : Int32) (p1 : Int32) (p2 : Int32) (K : Int32 → Mm → Prop) (l2 : Int32) (l3 : Int32) (s0 : Int32) (mem : Mm) : Prop := (¬ l2 = 0 → (B_X1_bearing_45 a0 p0 p1 p2   K l3 s0 (s0 + ((mem a0 2) / 10)) s0 mem)) ∧ (l2 = 0 → (B_X1_bearing_45 a0 p0 p1 p2   K l3 s0 (s0 + ((mem a0 2) / 10)) 99 mem))
set_option maxRecDepth 100000 in
set_option maxHeartbeats 4000000 in
theorem b_X1_bearing_20 (X : CX) (a0 : Nat) (p0 : Int32) (p1 : Int32) (p2 : Int32) (ha0 : isMan a0) (K : Int32 → Mm → Prop) (l2 : Int32) (l3 : Int32) (s0 : Int32) (mem : Mm)  (h : B_X1_bearing_20 a0 p0 p1 p2   K l2 l3 s0 mem) : GoC X 1 0 0 M_X1_bearing 20 [some (.ref (cx_n X + a0)), none, some (.int l2), some (.int l3), none, none, none] [.int s0] 0 0 (cellAt X mem) (sz mem) (qm X (fun r m => ∃ v : Int32, r = some (.int v) ∧ K v m)) := by
  unfold B_X1_bearing_20 at h
  refine gc_istore dX1_bearing_20 (by decide) ?_
  refine gc_iload dX1_bearing_22 rfl ?_
  refine gc_aload_n dX1_bearing_24 rfl ?_
  refine go_getI dX1_bearing_25 lg_X1_18 (sz_lt ha0.2) ha0.1 rfl ?_
  refine gc_bipush (v := 10) dX1_bearing_28 (by decide) ?_
  refine gc_idiv dX1_bearing_30 (by decide) ?_
  refine gc_iadd dX1_bearing_31 ?_
  refine gc_istore dX1_bearing_32 (by decide) ?_
  refine gc_iload_n dX1_bearing_34 rfl ?_
  refine gc_if_ne 43 dX1_bearing_35 (by decide) (fun hc => ?_) (fun hc => ?_)
  · have h := h.1 hc
    refine gc_iload dX1_bearing_43 rfl ?_
    refine gc_forget 2 ?_
    exact b_X1_bearing_45 X a0 p0 p1 p2 ha0   K   l3 s0 (s0 + ((mem a0 2) / 10)) s0 mem  h
  · have h := h.2 hc
    refine gc_bipush (v := 99) dX1_bearing_38 (by decide) ?_
    refine gc_goto 45 dX1_bearing_40 (by decide) ?_
    refine gc_forget 2 ?_
    exact b_X1_bearing_45 X a0 p0 p1 p2 ha0   K   l3 s0 (s0 + ((mem a0 2) / 10)) 99 mem  h
def W_X1_bearing (a0 : Nat) (p0 : Int32) (p1 : Int32) (p2 : Int32) (mem : Mm) (K : Int32 → Mm → Prop) : Prop := (¬ p1 = (mem a0 3) → (B_X1_bearing_20 a0 p0 p1 p2   K p1 p2 p0 mem)) ∧ (p1 = (mem a0 3) → (B_X1_bearing_20 a0 p0 p1 p2   K p1 p2 (if 0 < (p0 - 20) then (p0 - 20) else 0) mem))
set_option maxRecDepth 100000 in
set_option maxHeartbeats 4000000 in
theorem w_X1_bearing (X : CX) (a0 : Nat) (ha0 : isMan a0) (p0 : Int32) (p1 : Int32) (p2 : Int32) (mem : Mm) (K : Int32 → Mm → Prop) (h : W_X1_bearing a0 p0 p1 p2 mem K) : CallsI X 1 M_X1_bearing [.ref (cx_n X + a0), .int p0, .int p1, .int p2] mem K := by
  unfold W_X1_bearing at h
  refine CallsC.ofP 3 (by decide) rfl (Nat.le_of_ble_eq_true rfl) ?_
  refine gc_iload_n dX1_bearing_0 rfl ?_
  refine gc_aload_n dX1_bearing_1 rfl ?_
  refine go_getI dX1_bearing_2 lg_X1_21 (sz_lt ha0.2) ha0.1 rfl ?_
  refine gc_icmp_ne 19 dX1_bearing_5 (by decide) (fun hc => ?_) (fun hc => ?_)
  · have h := h.1 hc
    refine gc_iload_n dX1_bearing_19 rfl ?_
    refine gc_forget 1 ?_
    exact b_X1_bearing_20 X a0 p0 p1 p2 ha0   K   p1 p2 p0 mem  h
  · have h := h.2 hc
    refine gc_iconst (v := 0) dX1_bearing_8 (by decide) ?_
    refine gc_iload_n dX1_bearing_9 rfl ?_
    refine gc_bipush (v := 20) dX1_bearing_10 (by decide) ?_
    refine gc_isub dX1_bearing_12 ?_
    refine gc_mmax dX1_bearing_13 lmm_X1_39 (by decide) (Nat.le_of_ble_eq_true rfl) (Nat.le_refl _) (Nat.le_refl _) ?_
    refine gc_goto 20 dX1_bearing_16 (by decide) ?_
    refine gc_forget 1 ?_
    exact b_X1_bearing_20 X a0 p0 p1 p2 ha0   K   p1 p2 (if 0 < (p0 - 20) then (p0 - 20) else 0) mem  h
def W_X0_bearing (a0 : Nat) (p0 : Int32) (p1 : Int32) (mem : Mm) (K : Int32 → Mm → Prop) : Prop := W_X0_standing a0 mem (fun v_1 m_1 => ∃ i_10 : Nat, p0 = nI i_10 ∧ i_10 < 9 ∧ (((m_1 (a0 + 4 + i_10) 5) = 0 → (∃ i_31 : Nat, p0 = nI i_31 ∧ i_31 < 9 ∧ (W_X0_plainBearing a0 p0 v_1 m_1 (fun v_35 m_35 => W_X1_bearing (a0 + 4 + i_31) v_35 p1 (v_1 - 1) m_35 (fun v_41 m_41 => K v_41 m_41))))) ∧ (¬ (m_1 (a0 + 4 + i_10) 5) = 0 → (∃ i_31 : Nat, p0 = nI i_31 ∧ i_31 < 9 ∧ (W_X0_plainBearing a0 p0 v_1 m_1 (fun v_35 m_35 => W_X1_bearing (a0 + 4 + i_31) v_35 p1 v_1 m_35 (fun v_41 m_41 => K v_41 m_41)))))))
set_option maxRecDepth 100000 in
set_option maxHeartbeats 4000000 in
theorem w_X0_bearing (X : CX) (a0 : Nat) (ha0 : isAl a0) (p0 : Int32) (p1 : Int32) (mem : Mm) (K : Int32 → Mm → Prop) (h : W_X0_bearing a0 p0 p1 mem K) : CallsI X 3 M_X0_bearing [.ref (cx_n X + a0), .int p0, .int p1] mem K := by
  unfold W_X0_bearing at h
  refine CallsC.ofP 2 (by decide) rfl (Nat.le_of_ble_eq_true rfl) ?_
  refine gc_aload_n dX0_bearing_0 rfl ?_
  refine go_cVI (y := M_X0_standing) (As := []) (rest := []) dX0_bearing_1 lm_X0_127 ok_X0_standing (by decide) (sz_lt (al_lt ha0)) (al_kd ha0) rfl rfl (w_X0_standing X a0 ha0 mem _ h) rfl (Nat.le_of_ble_eq_true rfl) (fun v_1 m_1 h => ?_)
  refine gc_istore_n dX0_bearing_4 (by decide) ?_
  refine gc_aload_n dX0_bearing_5 rfl ?_
  refine go_getR dX0_bearing_6 lg_X0_11 (sz_lt (al_lt ha0)) (al_kd ha0) rfl ?_
  refine gc_iload_n dX0_bearing_9 rfl ?_
  obtain ⟨i_10, hx_10, hi_10, h⟩ := h
  refine go_men i_10 ha0 dX0_bearing_10 hx_10 hi_10 ?_
  refine go_getI dX0_bearing_11 lg_X0_71 (sz_lt (al_man ha0 hi_10).2) (al_man ha0 hi_10).1 rfl ?_
  refine gc_if_eq 21 dX0_bearing_14 (by decide) (fun hc => ?_) (fun hc => ?_)
  · have h := h.1 hc
    refine gc_iload_n dX0_bearing_21 rfl ?_
    refine gc_iconst (v := 1) dX0_bearing_22 (by decide) ?_
    refine gc_isub dX0_bearing_23 ?_
    refine gc_istore dX0_bearing_24 (by decide) ?_
    refine gc_aload_n dX0_bearing_26 rfl ?_
    refine go_getR dX0_bearing_27 lg_X0_11 (sz_lt (al_lt ha0)) (al_kd ha0) rfl ?_
    refine gc_iload_n dX0_bearing_30 rfl ?_
    obtain ⟨i_31, hx_31, hi_31, h⟩ := h
    refine go_men i_31 ha0 dX0_bearing_31 hx_31 hi_31 ?_
    refine gc_aload_n dX0_bearing_32 rfl ?_
    refine gc_iload_n dX0_bearing_33 rfl ?_
    refine gc_iload_n dX0_bearing_34 rfl ?_
    refine go_cVI (y := M_X0_plainBearing) (As := [.int p0, .int v_1]) (rest := [.ref (cx_n X + (a0 + 4 + i_31))]) dX0_bearing_35 lm_X0_130 ok_X0_plainBearing (by decide) (sz_lt (al_lt ha0)) (al_kd ha0) rfl rfl (w_X0_plainBearing X a0 ha0 p0 v_1 m_1 _ h) rfl (Nat.le_of_ble_eq_true rfl) (fun v_35 m_35 h => ?_)
    refine gc_iload_n dX0_bearing_38 rfl ?_
    refine gc_iload dX0_bearing_39 rfl ?_
    refine go_cVI (y := M_X1_bearing) (As := [.int v_35, .int p1, .int (v_1 - 1)]) (rest := []) dX0_bearing_41 lm_X0_133 ok_X1_bearing (by decide) (sz_lt (al_man ha0 hi_31).2) (al_man ha0 hi_31).1 rfl rfl (w_X1_bearing X (a0 + 4 + i_31) (al_man ha0 hi_31) v_35 p1 (v_1 - 1) m_35 _ h) rfl (Nat.le_of_ble_eq_true rfl) (fun v_41 m_41 h => ?_)
    exact go_iret dX0_bearing_44 rfl (Nat.le_refl _) (Nat.le_refl _) ⟨_, rfl, h⟩
  · have h := h.2 hc
    refine gc_iload_n dX0_bearing_17 rfl ?_
    refine gc_goto 24 dX0_bearing_18 (by decide) ?_
    refine gc_istore dX0_bearing_24 (by decide) ?_
    refine gc_aload_n dX0_bearing_26 rfl ?_
    refine go_getR dX0_bearing_27 lg_X0_11 (sz_lt (al_lt ha0)) (al_kd ha0) rfl ?_
    refine gc_iload_n dX0_bearing_30 rfl ?_
    obtain ⟨i_31, hx_31, hi_31, h⟩ := h
    refine go_men i_31 ha0 dX0_bearing_31 hx_31 hi_31 ?_
    refine gc_aload_n dX0_bearing_32 rfl ?_
    refine gc_iload_n dX0_bearing_33 rfl ?_
    refine gc_iload_n dX0_bearing_34 rfl ?_
    refine go_cVI (y := M_X0_plainBearing) (As := [.int p0, .int v_1]) (rest := [.ref (cx_n X + (a0 + 4 + i_31))]) dX0_bearing_35 lm_X0_130 ok_X0_plainBearing (by decide) (sz_lt (al_lt ha0)) (al_kd ha0) rfl rfl (w_X0_plainBearing X a0 ha0 p0 v_1 m_1 _ h) rfl (Nat.le_of_ble_eq_true rfl) (fun v_35 m_35 h => ?_)
    refine gc_iload_n dX0_bearing_38 rfl ?_
    refine gc_iload dX0_bearing_39 rfl ?_
    refine go_cVI (y := M_X1_bearing) (As := [.int v_35, .int p1, .int v_1]) (rest := []) dX0_bearing_41 lm_X0_133 ok_X1_bearing (by decide) (sz_lt (al_man ha0 hi_31).2) (al_man ha0 hi_31).1 rfl rfl (w_X1_bearing X (a0 + 4 + i_31) (al_man ha0 hi_31) v_35 p1 v_1 m_35 _ h) rfl (Nat.le_of_ble_eq_true rfl) (fun v_41 m_41 h => ?_)
    exact go_iret dX0_bearing_44 rfl (Nat.le_refl _) (Nat.le_refl _) ⟨_, rfl, h⟩
def W_X8_bears (p0 : Int32) (p1 : Int32) (mem : Mm) (K : Int32 → Mm → Prop) : Prop := W_X0_has 1 p0 mem (fun v_5 m_5 => ((bZ v_5) = 0 → (K (-1000000001) m_5)) ∧ (¬ (bZ v_5) = 0 → (W_X8_isWithin p1 0 7 m_5 (fun v_15 m_15 => (¬ (bZ v_15) = 0 → (W_X0_bearing 1 p0 p1 m_15 (fun v_30 m_30 => K v_30 m_30))) ∧ ((bZ v_15) = 0 → (K (-1000000001) m_15))))))
set_option maxRecDepth 100000 in
set_option maxHeartbeats 4000000 in
theorem w_X8_bears (X : CX) (p0 : Int32) (p1 : Int32) (mem : Mm) (K : Int32 → Mm → Prop) (h : W_X8_bears p0 p1 mem K) : CallsI X 4 M_X8_bears [.ref (cx_n X + 0), .int p0, .int p1] mem K := by
  unfold W_X8_bears at h
  refine CallsC.ofP 0 (by decide) rfl (Nat.le_of_ble_eq_true rfl) ?_
  refine gc_aload_n dX8_bears_0 rfl ?_
  refine go_getR dX8_bears_1 lg_X8_10 (sz_lt (by decide)) kd_0 rfl ?_
  refine gc_iload_n dX8_bears_4 rfl ?_
  refine go_cVZ (y := M_X0_has) (As := [.int p0]) (rest := []) dX8_bears_5 lm_X8_83 ok_X0_has (by decide) (sz_lt (al_lt al_1)) (al_kd al_1) rfl rfl (w_X0_has X 1 al_1 p0 mem _ h) rfl (Nat.le_of_ble_eq_true rfl) (fun v_5 m_5 h => ?_)
  refine gc_if_eq 21 dX8_bears_8 (by decide) (fun hc => ?_) (fun hc => ?_)
  · have h := h.1 hc
    refine gc_ldc (v := (-1000000001)) dX8_bears_21 lk_X8_74 ?_
    exact go_iret dX8_bears_23 rfl (Nat.le_refl _) (Nat.le_refl _) ⟨_, rfl, h⟩
  · have h := h.2 hc
    refine gc_iload_n dX8_bears_11 rfl ?_
    refine gc_iconst (v := 0) dX8_bears_12 (by decide) ?_
    refine gc_bipush (v := 7) dX8_bears_13 (by decide) ?_
    refine go_cSZ (y := M_X8_isWithin) (As := [.int p1, .int 0, .int 7]) (rest := []) dX8_bears_15 lm_X8_70 ok_X8_isWithin (by decide) (w_X8_isWithin X p1 0 7 m_5 _ h) rfl (Nat.le_of_ble_eq_true rfl) (fun v_15 m_15 h => ?_)
    refine gc_if_ne 24 dX8_bears_18 (by decide) (fun hc => ?_) (fun hc => ?_)
    · have h := h.1 hc
      refine gc_aload_n dX8_bears_24 rfl ?_
      refine go_getR dX8_bears_25 lg_X8_10 (sz_lt (by decide)) kd_0 rfl ?_
      refine gc_iload_n dX8_bears_28 rfl ?_
      refine gc_iload_n dX8_bears_29 rfl ?_
      refine go_cVI (y := M_X0_bearing) (As := [.int p0, .int p1]) (rest := []) dX8_bears_30 lm_X8_118 ok_X0_bearing (by decide) (sz_lt (al_lt al_1)) (al_kd al_1) rfl rfl (w_X0_bearing X 1 al_1 p0 p1 m_15 _ h) rfl (Nat.le_of_ble_eq_true rfl) (fun v_30 m_30 h => ?_)
      exact go_iret dX8_bears_33 rfl (Nat.le_refl _) (Nat.le_refl _) ⟨_, rfl, h⟩
    · have h := h.2 hc
      refine gc_ldc (v := (-1000000001)) dX8_bears_21 lk_X8_74 ?_
      exact go_iret dX8_bears_23 rfl (Nat.le_refl _) (Nat.le_refl _) ⟨_, rfl, h⟩
def L_X1_isOf_7 (a0 : Nat) (p0 : Int32) (K : Bool → Mm → Prop) : Nat → Int32 → Int32 → Int32 → Mm → Prop
  | 0, _, _, _, _ => False
  | n + 1, l1, l2, l3, mem => (6 ≤ l3 → (K false mem)) ∧ (¬ 6 ≤ l3 → (W_X8_isWithin l2 0 5 mem (fun v_16 m_16 => ((bZ v_16) = 0 → (K false m_16)) ∧ (¬ (bZ v_16) = 0 → ((¬ l2 = l1 → (∃ i_33 : Nat, l2 = nI i_33 ∧ i_33 < 6 ∧ (L_X1_isOf_7 a0 p0  K n l1 ((st_F 2).getD i_33 0) (l3 + 1) m_16))) ∧ (l2 = l1 → (K true m_16)))))))
set_option maxRecDepth 100000 in
set_option maxHeartbeats 4000000 in
theorem l_X1_isOf_7 (X : CX) (a0 : Nat) (p0 : Int32) (ha0 : isMan a0) (K : Bool → Mm → Prop) : ∀ (n : Nat) (l1 : Int32) (l2 : Int32) (l3 : Int32) (mem : Mm), L_X1_isOf_7 a0 p0   K n l1 l2 l3 mem → GoC X 1 0 0 M_X1_isOf 7 [none, some (.int l1), some (.int l2), some (.int l3)] [] 0 0 (cellAt X mem) (sz mem) (qm X (fun r m => ∃ b : Bool, r = some (.int (bZ b)) ∧ K b m))
  := by
  intro n
  induction n with
  | zero => intro l1 l2 l3 mem h; exact h.elim
  | succ n ih =>
    intro l1 l2 l3 mem h
    unfold L_X1_isOf_7 at h
    refine gc_iload_n dX1_isOf_7 rfl ?_
    refine gc_bipush (v := 6) dX1_isOf_8 (by decide) ?_
    refine gc_icmp_ge 41 dX1_isOf_10 (by decide) (fun hc => ?_) (fun hc => ?_)
    · have h := h.1 hc
      refine gc_iconst (v := 0) dX1_isOf_41 (by decide) ?_
      exact go_zret dX1_isOf_42 rfl (by decide) (Nat.le_refl _) (Nat.le_refl _) ⟨false, rfl, h⟩
    · have h := h.2 hc
      refine gc_iload_n dX1_isOf_13 rfl ?_
      refine gc_iconst (v := 0) dX1_isOf_14 (by decide) ?_
      refine gc_iconst (v := 5) dX1_isOf_15 (by decide) ?_
      refine go_cSZ (y := M_X8_isWithin) (As := [.int l2, .int 0, .int 5]) (rest := []) dX1_isOf_16 lm_X1_31 ok_X8_isWithin (by decide) (w_X8_isWithin X l2 0 5 mem _ h) rfl (Nat.le_of_ble_eq_true rfl) (fun v_16 m_16 h => ?_)
      refine gc_if_eq 41 dX1_isOf_19 (by decide) (fun hc => ?_) (fun hc => ?_)
      · have h := h.1 hc
        refine gc_iconst (v := 0) dX1_isOf_41 (by decide) ?_
        exact go_zret dX1_isOf_42 rfl (by decide) (Nat.le_refl _) (Nat.le_refl _) ⟨false, rfl, h⟩
      · have h := h.2 hc
        refine gc_iload_n dX1_isOf_22 rfl ?_
        refine gc_iload_n dX1_isOf_23 rfl ?_
        refine gc_icmp_ne 29 dX1_isOf_24 (by decide) (fun hc => ?_) (fun hc => ?_)
        · have h := h.1 hc
          refine gc_gets 2 (by decide) dX1_isOf_29 ls_X1_35 ?_
          refine gc_iload_n dX1_isOf_32 rfl ?_
          obtain ⟨i_33, hx_33, hi_33, h⟩ := h
          refine gc_sald 2 i_33 (by decide) dX1_isOf_33 hx_33 hi_33 ?_
          refine gc_istore_n dX1_isOf_34 (by decide) ?_
          refine gc_iinc (v := l3 + 1) dX1_isOf_35 rfl rfl (by decide) ?_
          refine gc_goto 7 dX1_isOf_38 (by decide) ?_
          exact ih l1 ((st_F 2).getD i_33 0) (l3 + 1) m_16  h
        · have h := h.2 hc
          refine gc_iconst (v := 1) dX1_isOf_27 (by decide) ?_
          exact go_zret dX1_isOf_28 rfl (by decide) (Nat.le_refl _) (Nat.le_refl _) ⟨true, rfl, h⟩
def W_X1_isOf (a0 : Nat) (p0 : Int32) (mem : Mm) (K : Bool → Mm → Prop) : Prop := ∃ nz : Nat, L_X1_isOf_7 a0 p0   K nz p0 (mem a0 0) 0 mem
set_option maxRecDepth 100000 in
set_option maxHeartbeats 4000000 in
theorem w_X1_isOf (X : CX) (a0 : Nat) (ha0 : isMan a0) (p0 : Int32) (mem : Mm) (K : Bool → Mm → Prop) (h : W_X1_isOf a0 p0 mem K) : CallsZ X 1 M_X1_isOf [.ref (cx_n X + a0), .int p0] mem K := by
  unfold W_X1_isOf at h
  refine CallsC.ofP 2 (by decide) rfl (Nat.le_of_ble_eq_true rfl) ?_
  refine gc_aload_n dX1_isOf_0 rfl ?_
  refine go_getI dX1_isOf_1 lg_X1_9 (sz_lt ha0.2) ha0.1 rfl ?_
  refine gc_istore_n dX1_isOf_4 (by decide) ?_
  refine gc_iconst (v := 0) dX1_isOf_5 (by decide) ?_
  refine gc_istore_n dX1_isOf_6 (by decide) ?_
  refine gc_forget 0 ?_
  obtain ⟨n9, h⟩ := h
  exact l_X1_isOf_7 X a0 p0 ha0   K   n9 p0 (mem a0 0) 0 mem  h
def W_X8_as (p0 : Int32) (p1 : Int32) (mem : Mm) (K : Int32 → Mm → Prop) : Prop := W_X0_has 1 p0 mem (fun v_5 m_5 => ((bZ v_5) = 0 → (K (-1000000001) m_5)) ∧ (¬ (bZ v_5) = 0 → (W_X8_isWithin p1 0 5 m_5 (fun v_14 m_14 => (¬ (bZ v_14) = 0 → (∃ i_31 : Nat, p0 = nI i_31 ∧ i_31 < 9 ∧ (W_X1_isOf (1 + 4 + i_31) p1 m_14 (fun v_33 m_33 => ((bZ v_33) = 0 → (K (-1000000012) m_33)) ∧ (¬ (bZ v_33) = 0 → (∃ i_47 : Nat, p0 = nI i_47 ∧ i_47 < 9 ∧ (K (m_33 (1 + 4 + i_47) 1) m_33))))))) ∧ ((bZ v_14) = 0 → (K (-1000000001) m_14))))))
set_option maxRecDepth 100000 in
set_option maxHeartbeats 4000000 in
theorem w_X8_as (X : CX) (p0 : Int32) (p1 : Int32) (mem : Mm) (K : Int32 → Mm → Prop) (h : W_X8_as p0 p1 mem K) : CallsI X 2 M_X8_as [.ref (cx_n X + 0), .int p0, .int p1] mem K := by
  unfold W_X8_as at h
  refine CallsC.ofP 0 (by decide) rfl (Nat.le_of_ble_eq_true rfl) ?_
  refine gc_aload_n dX8_as_0 rfl ?_
  refine go_getR dX8_as_1 lg_X8_10 (sz_lt (by decide)) kd_0 rfl ?_
  refine gc_iload_n dX8_as_4 rfl ?_
  refine go_cVZ (y := M_X0_has) (As := [.int p0]) (rest := []) dX8_as_5 lm_X8_83 ok_X0_has (by decide) (sz_lt (al_lt al_1)) (al_kd al_1) rfl rfl (w_X0_has X 1 al_1 p0 mem _ h) rfl (Nat.le_of_ble_eq_true rfl) (fun v_5 m_5 h => ?_)
  refine gc_if_eq 20 dX8_as_8 (by decide) (fun hc => ?_) (fun hc => ?_)
  · have h := h.1 hc
    refine gc_ldc (v := (-1000000001)) dX8_as_20 lk_X8_74 ?_
    exact go_iret dX8_as_22 rfl (Nat.le_refl _) (Nat.le_refl _) ⟨_, rfl, h⟩
  · have h := h.2 hc
    refine gc_iload_n dX8_as_11 rfl ?_
    refine gc_iconst (v := 0) dX8_as_12 (by decide) ?_
    refine gc_iconst (v := 5) dX8_as_13 (by decide) ?_
    refine go_cSZ (y := M_X8_isWithin) (As := [.int p1, .int 0, .int 5]) (rest := []) dX8_as_14 lm_X8_70 ok_X8_isWithin (by decide) (w_X8_isWithin X p1 0 5 m_5 _ h) rfl (Nat.le_of_ble_eq_true rfl) (fun v_14 m_14 h => ?_)
    refine gc_if_ne 23 dX8_as_17 (by decide) (fun hc => ?_) (fun hc => ?_)
    · have h := h.1 hc
      refine gc_aload_n dX8_as_23 rfl ?_
      refine go_getR dX8_as_24 lg_X8_10 (sz_lt (by decide)) kd_0 rfl ?_
      refine go_getR dX8_as_27 lg_X8_87 (sz_lt (al_lt al_1)) (al_kd al_1) rfl ?_
      refine gc_iload_n dX8_as_30 rfl ?_
      obtain ⟨i_31, hx_31, hi_31, h⟩ := h
      refine go_men i_31 al_1 dX8_as_31 hx_31 hi_31 ?_
      refine gc_iload_n dX8_as_32 rfl ?_
      refine go_cVZ (y := M_X1_isOf) (As := [.int p1]) (rest := []) dX8_as_33 lm_X8_122 ok_X1_isOf (by decide) (sz_lt (al_man al_1 hi_31).2) (al_man al_1 hi_31).1 rfl rfl (w_X1_isOf X (1 + 4 + i_31) (al_man al_1 hi_31) p1 m_14 _ h) rfl (Nat.le_of_ble_eq_true rfl) (fun v_33 m_33 h => ?_)
      refine gc_if_eq 54 dX8_as_36 (by decide) (fun hc => ?_) (fun hc => ?_)
      · have h := h.1 hc
        refine gc_ldc (v := (-1000000012)) dX8_as_54 lk_X8_125 ?_
        exact go_iret dX8_as_56 rfl (Nat.le_refl _) (Nat.le_refl _) ⟨_, rfl, h⟩
      · have h := h.2 hc
        refine gc_aload_n dX8_as_39 rfl ?_
        refine go_getR dX8_as_40 lg_X8_10 (sz_lt (by decide)) kd_0 rfl ?_
        refine go_getR dX8_as_43 lg_X8_87 (sz_lt (al_lt al_1)) (al_kd al_1) rfl ?_
        refine gc_iload_n dX8_as_46 rfl ?_
        obtain ⟨i_47, hx_47, hi_47, h⟩ := h
        refine go_men i_47 al_1 dX8_as_47 hx_47 hi_47 ?_
        refine go_getI dX8_as_48 lg_X8_96 (sz_lt (al_man al_1 hi_47).2) (al_man al_1 hi_47).1 rfl ?_
        refine gc_goto 56 dX8_as_51 (by decide) ?_
        exact go_iret dX8_as_56 rfl (Nat.le_refl _) (Nat.le_refl _) ⟨_, rfl, h⟩
    · have h := h.2 hc
      refine gc_ldc (v := (-1000000001)) dX8_as_20 lk_X8_74 ?_
      exact go_iret dX8_as_22 rfl (Nat.le_refl _) (Nat.le_refl _) ⟨_, rfl, h⟩
def W_X8_turns (p0 : Int32) (p1 : Int32) (mem : Mm) (K : Int32 → Mm → Prop) : Prop := W_X0_has 1 p0 mem (fun v_5 m_5 => ((bZ v_5) = 0 → (K (-1000000001) m_5)) ∧ (¬ (bZ v_5) = 0 → (W_X8_isWithin p1 0 5 m_5 (fun v_14 m_14 => (¬ (bZ v_14) = 0 → (∃ i_31 : Nat, p0 = nI i_31 ∧ i_31 < 9 ∧ (∃ i_44 : Nat, p0 = nI i_44 ∧ i_44 < 9 ∧ (∀ m_46 : Mm, m_46 = mu m_14 (1 + 4 + i_44) 0 p1 → (K (m_14 (1 + 4 + i_31) 0) m_46))))) ∧ ((bZ v_14) = 0 → (K (-1000000001) m_14))))))
set_option maxRecDepth 100000 in
set_option maxHeartbeats 4000000 in
theorem w_X8_turns (X : CX) (p0 : Int32) (p1 : Int32) (mem : Mm) (K : Int32 → Mm → Prop) (h : W_X8_turns p0 p1 mem K) : CallsI X 1 M_X8_turns [.ref (cx_n X + 0), .int p0, .int p1] mem K := by
  unfold W_X8_turns at h
  refine CallsC.ofP 1 (by decide) rfl (Nat.le_of_ble_eq_true rfl) ?_
  refine gc_aload_n dX8_turns_0 rfl ?_
  refine go_getR dX8_turns_1 lg_X8_10 (sz_lt (by decide)) kd_0 rfl ?_
  refine gc_iload_n dX8_turns_4 rfl ?_
  refine go_cVZ (y := M_X0_has) (As := [.int p0]) (rest := []) dX8_turns_5 lm_X8_83 ok_X0_has (by decide) (sz_lt (al_lt al_1)) (al_kd al_1) rfl rfl (w_X0_has X 1 al_1 p0 mem _ h) rfl (Nat.le_of_ble_eq_true rfl) (fun v_5 m_5 h => ?_)
  refine gc_if_eq 20 dX8_turns_8 (by decide) (fun hc => ?_) (fun hc => ?_)
  · have h := h.1 hc
    refine gc_ldc (v := (-1000000001)) dX8_turns_20 lk_X8_74 ?_
    exact go_iret dX8_turns_22 rfl (Nat.le_refl _) (Nat.le_refl _) ⟨_, rfl, h⟩
  · have h := h.2 hc
    refine gc_iload_n dX8_turns_11 rfl ?_
    refine gc_iconst (v := 0) dX8_turns_12 (by decide) ?_
    refine gc_iconst (v := 5) dX8_turns_13 (by decide) ?_
    refine go_cSZ (y := M_X8_isWithin) (As := [.int p1, .int 0, .int 5]) (rest := []) dX8_turns_14 lm_X8_70 ok_X8_isWithin (by decide) (w_X8_isWithin X p1 0 5 m_5 _ h) rfl (Nat.le_of_ble_eq_true rfl) (fun v_14 m_14 h => ?_)
    refine gc_if_ne 23 dX8_turns_17 (by decide) (fun hc => ?_) (fun hc => ?_)
    · have h := h.1 hc
      refine gc_aload_n dX8_turns_23 rfl ?_
      refine go_getR dX8_turns_24 lg_X8_10 (sz_lt (by decide)) kd_0 rfl ?_
      refine go_getR dX8_turns_27 lg_X8_87 (sz_lt (al_lt al_1)) (al_kd al_1) rfl ?_
      refine gc_iload_n dX8_turns_30 rfl ?_
      obtain ⟨i_31, hx_31, hi_31, h⟩ := h
      refine go_men i_31 al_1 dX8_turns_31 hx_31 hi_31 ?_
      refine go_getI dX8_turns_32 lg_X8_91 (sz_lt (al_man al_1 hi_31).2) (al_man al_1 hi_31).1 rfl ?_
      refine gc_istore_n dX8_turns_35 (by decide) ?_
      refine gc_aload_n dX8_turns_36 rfl ?_
      refine go_getR dX8_turns_37 lg_X8_10 (sz_lt (by decide)) kd_0 rfl ?_
      refine go_getR dX8_turns_40 lg_X8_87 (sz_lt (al_lt al_1)) (al_kd al_1) rfl ?_
      refine gc_iload_n dX8_turns_43 rfl ?_
      obtain ⟨i_44, hx_44, hi_44, h⟩ := h
      refine go_men i_44 al_1 dX8_turns_44 hx_44 hi_44 ?_
      refine gc_iload_n dX8_turns_45 rfl ?_
      refine go_putI_ dX8_turns_46 lp_X8_91 (sz_lt (al_man al_1 hi_44).2) (al_man al_1 hi_44).1 rfl (fun m_46 em_46 => ?_)
      have h := h m_46 em_46
      refine gc_iload_n dX8_turns_49 rfl ?_
      exact go_iret dX8_turns_50 rfl (Nat.le_refl _) (Nat.le_refl _) ⟨_, rfl, h⟩
    · have h := h.2 hc
      refine gc_ldc (v := (-1000000001)) dX8_turns_20 lk_X8_74 ?_
      exact go_iret dX8_turns_22 rfl (Nat.le_refl _) (Nat.le_refl _) ⟨_, rfl, h⟩
def W_X8_mostOf (p0 : Int32) (mem : Mm) (K : Int32 → Mm → Prop) : Prop := (p0 = 1 → (K 99 mem)) ∧ (¬ p0 = 1 → ((p0 = 2 → (K 99 mem)) ∧ (¬ p0 = 2 → ((p0 = 3 → (K 7 mem)) ∧ (¬ p0 = 3 → ((p0 = 4 → (K 9999 mem)) ∧ (¬ p0 = 4 → (K 1 mem))))))))
set_option maxRecDepth 100000 in
set_option maxHeartbeats 4000000 in
theorem w_X8_mostOf (X : CX) (p0 : Int32) (mem : Mm) (K : Int32 → Mm → Prop) (h : W_X8_mostOf p0 mem K) : CallsI X 0 M_X8_mostOf [.int p0] mem K := by
  unfold W_X8_mostOf at h
  refine CallsC.ofP 0 (by decide) rfl (Nat.le_of_ble_eq_true rfl) ?_
  refine gc_iload_n dX8_mostOf_0 rfl ?_
  by_cases hn0 : p0 = 1
  · have h := h.1 hn0
    refine gc_tabIn (off := 31) 32 dX8_mostOf_1 (by rw [hn0]; decide) (by rw [hn0]; decide) (by rw [hn0]; rfl) (by decide) ?_
    refine gc_bipush (v := 99) dX8_mostOf_32 (by decide) ?_
    exact go_iret dX8_mostOf_34 rfl (Nat.le_refl _) (Nat.le_refl _) ⟨_, rfl, h⟩
  · have h := h.2 hn0
    have hq0 := tab_ne hn0 (a := 1) (by decide)
    by_cases hn1 : p0 = 2
    · have h := h.1 hn1
      refine gc_tabIn (off := 34) 35 dX8_mostOf_1 (by rw [hn1]; decide) (by rw [hn1]; decide) (by rw [hn1]; rfl) (by decide) ?_
      refine gc_bipush (v := 99) dX8_mostOf_35 (by decide) ?_
      exact go_iret dX8_mostOf_37 rfl (Nat.le_refl _) (Nat.le_refl _) ⟨_, rfl, h⟩
    · have h := h.2 hn1
      have hq1 := tab_ne hn1 (a := 2) (by decide)
      by_cases hn2 : p0 = 3
      · have h := h.1 hn2
        refine gc_tabIn (off := 37) 38 dX8_mostOf_1 (by rw [hn2]; decide) (by rw [hn2]; decide) (by rw [hn2]; rfl) (by decide) ?_
        refine gc_bipush (v := 7) dX8_mostOf_38 (by decide) ?_
        exact go_iret dX8_mostOf_40 rfl (Nat.le_refl _) (Nat.le_refl _) ⟨_, rfl, h⟩
      · have h := h.2 hn2
        have hq2 := tab_ne hn2 (a := 3) (by decide)
        by_cases hn3 : p0 = 4
        · have h := h.1 hn3
          refine gc_tabIn (off := 40) 41 dX8_mostOf_1 (by rw [hn3]; decide) (by rw [hn3]; decide) (by rw [hn3]; rfl) (by decide) ?_
          refine gc_sipush (v := 9999) dX8_mostOf_41 (by decide) ?_
          exact go_iret dX8_mostOf_44 rfl (Nat.le_refl _) (Nat.le_refl _) ⟨_, rfl, h⟩
        · have h := h.2 hn3
          have hq3 := tab_ne hn3 (a := 4) (by decide)
          refine gc_tabOut 45 dX8_mostOf_1 (by have q := tab_out (x := p0) (lo := 1) (hi := 4) (fun j h1 h2 => by rcases (show j = 1 ∨ j = 2 ∨ j = 3 ∨ j = 4 by omega) with rfl | rfl | rfl | rfl <;> assumption); exact q) (by decide) ?_
          refine gc_iconst (v := 1) dX8_mostOf_45 (by decide) ?_
          exact go_iret dX8_mostOf_46 rfl (Nat.le_refl _) (Nat.le_refl _) ⟨_, rfl, h⟩
def W_X8_set (p0 : Int32) (p1 : Int32) (p2 : Int32) (mem : Mm) (K : Int32 → Mm → Prop) : Prop := W_X0_has 1 p0 mem (fun v_5 m_5 => ((bZ v_5) = 0 → (K (-1000000001) m_5)) ∧ (¬ (bZ v_5) = 0 → (W_X8_isWithin p1 1 5 m_5 (fun v_14 m_14 => ((bZ v_14) = 0 → (K (-1000000001) m_14)) ∧ (¬ (bZ v_14) = 0 → (W_X8_mostOf p1 m_14 (fun v_23 m_23 => W_X8_isWithin p2 0 v_23 m_23 (fun v_26 m_26 => (¬ (bZ v_26) = 0 → (W_X8_told p0 p1 m_26 (fun v_38 m_38 => ∃ i_51 : Nat, p0 = nI i_51 ∧ i_51 < 9 ∧ ((p1 = 1 → (∀ m_87 : Mm, m_87 = mu m_38 (1 + 4 + i_51) 1 p2 → (K v_38 m_87))) ∧ (¬ p1 = 1 → ((p1 = 2 → (∀ m_96 : Mm, m_96 = mu m_38 (1 + 4 + i_51) 2 p2 → (K v_38 m_96))) ∧ (¬ p1 = 2 → ((p1 = 3 → (∀ m_105 : Mm, m_105 = mu m_38 (1 + 4 + i_51) 3 p2 → (K v_38 m_105))) ∧ (¬ p1 = 3 → ((p1 = 4 → (∀ m_114 : Mm, m_114 = mu m_38 (1 + 4 + i_51) 4 p2 → (K v_38 m_114))) ∧ (¬ p1 = 4 → ((¬ p2 = 1 → (∀ m_132 : Mm, m_132 = mu m_38 (1 + 4 + i_51) 5 0 → (K v_38 m_132))) ∧ (p2 = 1 → (∀ m_132 : Mm, m_132 = mu m_38 (1 + 4 + i_51) 5 1 → (K v_38 m_132))))))))))))))) ∧ ((bZ v_26) = 0 → (K (-1000000001) m_26))))))))))
set_option maxRecDepth 100000 in
set_option maxHeartbeats 4000000 in
theorem w_X8_set (X : CX) (p0 : Int32) (p1 : Int32) (p2 : Int32) (mem : Mm) (K : Int32 → Mm → Prop) (h : W_X8_set p0 p1 p2 mem K) : CallsI X 2 M_X8_set [.ref (cx_n X + 0), .int p0, .int p1, .int p2] mem K := by
  unfold W_X8_set at h
  refine CallsC.ofP 2 (by decide) rfl (Nat.le_of_ble_eq_true rfl) ?_
  refine gc_aload_n dX8_set_0 rfl ?_
  refine go_getR dX8_set_1 lg_X8_10 (sz_lt (by decide)) kd_0 rfl ?_
  refine gc_iload_n dX8_set_4 rfl ?_
  refine go_cVZ (y := M_X0_has) (As := [.int p0]) (rest := []) dX8_set_5 lm_X8_83 ok_X0_has (by decide) (sz_lt (al_lt al_1)) (al_kd al_1) rfl rfl (w_X0_has X 1 al_1 p0 mem _ h) rfl (Nat.le_of_ble_eq_true rfl) (fun v_5 m_5 h => ?_)
  refine gc_if_eq 32 dX8_set_8 (by decide) (fun hc => ?_) (fun hc => ?_)
  · have h := h.1 hc
    refine gc_ldc (v := (-1000000001)) dX8_set_32 lk_X8_74 ?_
    exact go_iret dX8_set_34 rfl (Nat.le_refl _) (Nat.le_refl _) ⟨_, rfl, h⟩
  · have h := h.2 hc
    refine gc_iload_n dX8_set_11 rfl ?_
    refine gc_iconst (v := 1) dX8_set_12 (by decide) ?_
    refine gc_iconst (v := 5) dX8_set_13 (by decide) ?_
    refine go_cSZ (y := M_X8_isWithin) (As := [.int p1, .int 1, .int 5]) (rest := []) dX8_set_14 lm_X8_70 ok_X8_isWithin (by decide) (w_X8_isWithin X p1 1 5 m_5 _ h) rfl (Nat.le_of_ble_eq_true rfl) (fun v_14 m_14 h => ?_)
    refine gc_if_eq 32 dX8_set_17 (by decide) (fun hc => ?_) (fun hc => ?_)
    · have h := h.1 hc
      refine gc_ldc (v := (-1000000001)) dX8_set_32 lk_X8_74 ?_
      exact go_iret dX8_set_34 rfl (Nat.le_refl _) (Nat.le_refl _) ⟨_, rfl, h⟩
    · have h := h.2 hc
      refine gc_iload_n dX8_set_20 rfl ?_
      refine gc_iconst (v := 0) dX8_set_21 (by decide) ?_
      refine gc_iload_n dX8_set_22 rfl ?_
      refine go_cSI (y := M_X8_mostOf) (As := [.int p1]) (rest := [.int 0, .int p2]) dX8_set_23 lm_X8_126 ok_X8_mostOf (by decide) (w_X8_mostOf X p1 m_14 _ h) rfl (Nat.le_of_ble_eq_true rfl) (fun v_23 m_23 h => ?_)
      refine go_cSZ (y := M_X8_isWithin) (As := [.int p2, .int 0, .int v_23]) (rest := []) dX8_set_26 lm_X8_70 ok_X8_isWithin (by decide) (w_X8_isWithin X p2 0 v_23 m_23 _ h) rfl (Nat.le_of_ble_eq_true rfl) (fun v_26 m_26 h => ?_)
      refine gc_if_ne 35 dX8_set_29 (by decide) (fun hc => ?_) (fun hc => ?_)
      · have h := h.1 hc
        refine gc_aload_n dX8_set_35 rfl ?_
        refine gc_iload_n dX8_set_36 rfl ?_
        refine gc_iload_n dX8_set_37 rfl ?_
        refine go_cVI (y := M_X8_told) (As := [.int p0, .int p1]) (rest := []) dX8_set_38 lm_X8_130 ok_X8_told (by decide) (sz_lt (by decide)) kd_0 rfl rfl (w_X8_told X p0 p1 m_26 _ h) rfl (Nat.le_of_ble_eq_true rfl) (fun v_38 m_38 h => ?_)
        refine gc_istore dX8_set_41 (by decide) ?_
        refine gc_aload_n dX8_set_43 rfl ?_
        refine go_getR dX8_set_44 lg_X8_10 (sz_lt (by decide)) kd_0 rfl ?_
        refine go_getR dX8_set_47 lg_X8_87 (sz_lt (al_lt al_1)) (al_kd al_1) rfl ?_
        refine gc_iload_n dX8_set_50 rfl ?_
        obtain ⟨i_51, hx_51, hi_51, h⟩ := h
        refine go_men i_51 al_1 dX8_set_51 hx_51 hi_51 ?_
        refine gc_astore dX8_set_52 (by decide) ?_
        refine gc_iload_n dX8_set_54 rfl ?_
        by_cases hn0 : p1 = 1
        · have h := h.1 hn0
          refine gc_tabIn (off := 29) 84 dX8_set_55 (by rw [hn0]; decide) (by rw [hn0]; decide) (by rw [hn0]; rfl) (by decide) ?_
          refine gc_aload dX8_set_84 rfl ?_
          refine gc_iload_n dX8_set_86 rfl ?_
          refine go_putI_ dX8_set_87 lp_X8_96 (sz_lt (al_man al_1 hi_51).2) (al_man al_1 hi_51).1 rfl (fun m_87 em_87 => ?_)
          have h := h m_87 em_87
          refine gc_goto 135 dX8_set_90 (by decide) ?_
          refine gc_iload dX8_set_135 rfl ?_
          exact go_iret dX8_set_137 rfl (Nat.le_refl _) (Nat.le_refl _) ⟨_, rfl, h⟩
        · have h := h.2 hn0
          have hq0 := tab_ne hn0 (a := 1) (by decide)
          by_cases hn1 : p1 = 2
          · have h := h.1 hn1
            refine gc_tabIn (off := 38) 93 dX8_set_55 (by rw [hn1]; decide) (by rw [hn1]; decide) (by rw [hn1]; rfl) (by decide) ?_
            refine gc_aload dX8_set_93 rfl ?_
            refine gc_iload_n dX8_set_95 rfl ?_
            refine go_putI_ dX8_set_96 lp_X8_99 (sz_lt (al_man al_1 hi_51).2) (al_man al_1 hi_51).1 rfl (fun m_96 em_96 => ?_)
            have h := h m_96 em_96
            refine gc_goto 135 dX8_set_99 (by decide) ?_
            refine gc_iload dX8_set_135 rfl ?_
            exact go_iret dX8_set_137 rfl (Nat.le_refl _) (Nat.le_refl _) ⟨_, rfl, h⟩
          · have h := h.2 hn1
            have hq1 := tab_ne hn1 (a := 2) (by decide)
            by_cases hn2 : p1 = 3
            · have h := h.1 hn2
              refine gc_tabIn (off := 47) 102 dX8_set_55 (by rw [hn2]; decide) (by rw [hn2]; decide) (by rw [hn2]; rfl) (by decide) ?_
              refine gc_aload dX8_set_102 rfl ?_
              refine gc_iload_n dX8_set_104 rfl ?_
              refine go_putI_ dX8_set_105 lp_X8_102 (sz_lt (al_man al_1 hi_51).2) (al_man al_1 hi_51).1 rfl (fun m_105 em_105 => ?_)
              have h := h m_105 em_105
              refine gc_goto 135 dX8_set_108 (by decide) ?_
              refine gc_iload dX8_set_135 rfl ?_
              exact go_iret dX8_set_137 rfl (Nat.le_refl _) (Nat.le_refl _) ⟨_, rfl, h⟩
            · have h := h.2 hn2
              have hq2 := tab_ne hn2 (a := 3) (by decide)
              by_cases hn3 : p1 = 4
              · have h := h.1 hn3
                refine gc_tabIn (off := 56) 111 dX8_set_55 (by rw [hn3]; decide) (by rw [hn3]; decide) (by rw [hn3]; rfl) (by decide) ?_
                refine gc_aload dX8_set_111 rfl ?_
                refine gc_iload_n dX8_set_113 rfl ?_
                refine go_putI_ dX8_set_114 lp_X8_105 (sz_lt (al_man al_1 hi_51).2) (al_man al_1 hi_51).1 rfl (fun m_114 em_114 => ?_)
                have h := h m_114 em_114
                refine gc_goto 135 dX8_set_117 (by decide) ?_
                refine gc_iload dX8_set_135 rfl ?_
                exact go_iret dX8_set_137 rfl (Nat.le_refl _) (Nat.le_refl _) ⟨_, rfl, h⟩
              · have h := h.2 hn3
                have hq3 := tab_ne hn3 (a := 4) (by decide)
                refine gc_tabOut 120 dX8_set_55 (by have q := tab_out (x := p1) (lo := 1) (hi := 4) (fun j h1 h2 => by rcases (show j = 1 ∨ j = 2 ∨ j = 3 ∨ j = 4 by omega) with rfl | rfl | rfl | rfl <;> assumption); exact q) (by decide) ?_
                refine gc_aload dX8_set_120 rfl ?_
                refine gc_iload_n dX8_set_122 rfl ?_
                refine gc_iconst (v := 1) dX8_set_123 (by decide) ?_
                refine gc_icmp_ne 131 dX8_set_124 (by decide) (fun hc => ?_) (fun hc => ?_)
                · have h := h.1 hc
                  refine gc_iconst (v := 0) dX8_set_131 (by decide) ?_
                  refine go_putZ_ dX8_set_132 lp_X8_108 (sz_lt (al_man al_1 hi_51).2) (al_man al_1 hi_51).1 rfl (by decide) (fun m_132 em_132 => ?_)
                  have h := h m_132 em_132
                  refine gc_iload dX8_set_135 rfl ?_
                  exact go_iret dX8_set_137 rfl (Nat.le_refl _) (Nat.le_refl _) ⟨_, rfl, h⟩
                · have h := h.2 hc
                  refine gc_iconst (v := 1) dX8_set_127 (by decide) ?_
                  refine gc_goto 132 dX8_set_128 (by decide) ?_
                  refine go_putZ_ dX8_set_132 lp_X8_108 (sz_lt (al_man al_1 hi_51).2) (al_man al_1 hi_51).1 rfl (by decide) (fun m_132 em_132 => ?_)
                  have h := h m_132 em_132
                  refine gc_iload dX8_set_135 rfl ?_
                  exact go_iret dX8_set_137 rfl (Nat.le_refl _) (Nat.le_refl _) ⟨_, rfl, h⟩
      · have h := h.2 hc
        refine gc_ldc (v := (-1000000001)) dX8_set_32 lk_X8_74 ?_
        exact go_iret dX8_set_34 rfl (Nat.le_refl _) (Nat.le_refl _) ⟨_, rfl, h⟩
def W_X0_stands (a0 : Nat) (p0 : Int32) (mem : Mm) (K : Bool → Mm → Prop) : Prop := W_X0_has a0 p0 mem (fun v_2 m_2 => ((bZ v_2) = 0 → (K false m_2)) ∧ (¬ (bZ v_2) = 0 → (∃ i_13 : Nat, p0 = nI i_13 ∧ i_13 < 9 ∧ ((¬ (m_2 (a0 + 4 + i_13) 5) = 0 → (K false m_2)) ∧ ((m_2 (a0 + 4 + i_13) 5) = 0 → (K true m_2))))))
set_option maxRecDepth 100000 in
set_option maxHeartbeats 4000000 in
theorem w_X0_stands (X : CX) (a0 : Nat) (ha0 : isAl a0) (p0 : Int32) (mem : Mm) (K : Bool → Mm → Prop) (h : W_X0_stands a0 p0 mem K) : CallsZ X 1 M_X0_stands [.ref (cx_n X + a0), .int p0] mem K := by
  unfold W_X0_stands at h
  refine CallsC.ofP 0 (by decide) rfl (Nat.le_of_ble_eq_true rfl) ?_
  refine gc_aload_n dX0_stands_0 rfl ?_
  refine gc_iload_n dX0_stands_1 rfl ?_
  refine go_cVZ (y := M_X0_has) (As := [.int p0]) (rest := []) dX0_stands_2 lm_X0_67 ok_X0_has (by decide) (sz_lt (al_lt ha0)) (al_kd ha0) rfl rfl (w_X0_has X a0 ha0 p0 mem _ h) rfl (Nat.le_of_ble_eq_true rfl) (fun v_2 m_2 h => ?_)
  refine gc_if_eq 24 dX0_stands_5 (by decide) (fun hc => ?_) (fun hc => ?_)
  · have h := h.1 hc
    refine gc_iconst (v := 0) dX0_stands_24 (by decide) ?_
    exact go_zret dX0_stands_25 rfl (by decide) (Nat.le_refl _) (Nat.le_refl _) ⟨false, rfl, h⟩
  · have h := h.2 hc
    refine gc_aload_n dX0_stands_8 rfl ?_
    refine go_getR dX0_stands_9 lg_X0_11 (sz_lt (al_lt ha0)) (al_kd ha0) rfl ?_
    refine gc_iload_n dX0_stands_12 rfl ?_
    obtain ⟨i_13, hx_13, hi_13, h⟩ := h
    refine go_men i_13 ha0 dX0_stands_13 hx_13 hi_13 ?_
    refine go_getI dX0_stands_14 lg_X0_71 (sz_lt (al_man ha0 hi_13).2) (al_man ha0 hi_13).1 rfl ?_
    refine gc_if_ne 24 dX0_stands_17 (by decide) (fun hc => ?_) (fun hc => ?_)
    · have h := h.1 hc
      refine gc_iconst (v := 0) dX0_stands_24 (by decide) ?_
      exact go_zret dX0_stands_25 rfl (by decide) (Nat.le_refl _) (Nat.le_refl _) ⟨false, rfl, h⟩
    · have h := h.2 hc
      refine gc_iconst (v := 1) dX0_stands_20 (by decide) ?_
      refine gc_goto 25 dX0_stands_21 (by decide) ?_
      exact go_zret dX0_stands_25 rfl (by decide) (Nat.le_refl _) (Nat.le_refl _) ⟨true, rfl, h⟩
