def B_X9_bearsOf_57 (p0 : Int32) (p1 : Int32) (K : Int32 → Mm → Prop) (l1 : Int32) (l4 : Int32) (l5 : Int32) (s0 : Int32) (mem : Mm) : Prop := W_X9_of l1 0 mem (fun v_62 m_62 => (v_62 = 1 → (K l5 m_62)) ∧ (¬ v_62 = 1 → ((v_62 = 2 → (K s0 m_62)) ∧ (¬ v_62 = 2 → ((v_62 = 3 → (W_X9_standing  m_62 (fun v_107 m_107 => W_X9_bits (v_107 &&& ((1 <<< (l1 &&& 31)) ^^^ (-1))) m_107 (fun v_116 m_116 => K (l5 + (5 * v_116)) m_116)))) ∧ (¬ v_62 = 3 → ((v_62 = 4 → (W_X9_within (s0 - 10) 0 99 m_62 (fun v_133 m_133 => K v_133 m_133))) ∧ (¬ v_62 = 4 → ((v_62 = 5 → (K 99 m_62)) ∧ (¬ v_62 = 5 → (K l4 m_62)))))))))))
set_option maxRecDepth 100000 in
set_option maxHeartbeats 4000000 in
theorem b_X9_bearsOf_57 (X : CX) (p0 : Int32) (p1 : Int32)  (K : Int32 → Mm → Prop) (l1 : Int32) (l4 : Int32) (l5 : Int32) (s0 : Int32) (mem : Mm)  (h : B_X9_bearsOf_57 p0 p1   K l1 l4 l5 s0 mem) : GoC X 3 0 0 M_X9_bearsOf 57 [some (.ref (cx_n X + 82)), some (.int l1), none, none, some (.int l4), some (.int l5), none] [.int s0] 0 0 (cellAt X mem) (sz mem) (qm X (fun r m => ∃ v : Int32, r = some (.int v) ∧ K v m)) := by
  unfold B_X9_bearsOf_57 at h
  refine gc_istore dX9_bearsOf_57 (by decide) ?_
  refine gc_aload_n dX9_bearsOf_59 rfl ?_
  refine gc_iload_n dX9_bearsOf_60 rfl ?_
  refine gc_iconst (v := 0) dX9_bearsOf_61 (by decide) ?_
  refine go_cVI (y := M_X9_of) (As := [.int l1, .int 0]) (rest := []) dX9_bearsOf_62 lm_X9_89 ok_X9_of (by decide) (sz_lt (by decide)) kd_82 rfl rfl (w_X9_of X l1 0 mem _ h) rfl (Nat.le_of_ble_eq_true rfl) (fun v_62 m_62 h => ?_)
  by_cases hn0 : v_62 = 1
  · have h := h.1 hn0
    refine gc_tabIn (off := 35) 100 dX9_bearsOf_65 (by rw [hn0]; decide) (by rw [hn0]; decide) (by rw [hn0]; rfl) (by decide) ?_
    refine gc_iload dX9_bearsOf_100 rfl ?_
    exact go_iret dX9_bearsOf_102 rfl (Nat.le_refl _) (Nat.le_refl _) ⟨_, rfl, h⟩
  · have h := h.2 hn0
    have hq0 := tab_ne hn0 (a := 1) (by decide)
    by_cases hn1 : v_62 = 2
    · have h := h.1 hn1
      refine gc_tabIn (off := 57) 122 dX9_bearsOf_65 (by rw [hn1]; decide) (by rw [hn1]; decide) (by rw [hn1]; rfl) (by decide) ?_
      refine gc_iload dX9_bearsOf_122 rfl ?_
      exact go_iret dX9_bearsOf_124 rfl (Nat.le_refl _) (Nat.le_refl _) ⟨_, rfl, h⟩
    · have h := h.2 hn1
      have hq1 := tab_ne hn1 (a := 2) (by decide)
      by_cases hn2 : v_62 = 3
      · have h := h.1 hn2
        refine gc_tabIn (off := 38) 103 dX9_bearsOf_65 (by rw [hn2]; decide) (by rw [hn2]; decide) (by rw [hn2]; rfl) (by decide) ?_
        refine gc_iload dX9_bearsOf_103 rfl ?_
        refine gc_iconst (v := 5) dX9_bearsOf_105 (by decide) ?_
        refine gc_aload_n dX9_bearsOf_106 rfl ?_
        refine go_cVI (y := M_X9_standing) (As := []) (rest := [.int 5, .int l5]) dX9_bearsOf_107 lm_X9_97 ok_X9_standing (by decide) (sz_lt (by decide)) kd_82 rfl rfl (w_X9_standing X  m_62 _ h) rfl (Nat.le_of_ble_eq_true rfl) (fun v_107 m_107 h => ?_)
        refine gc_iconst (v := 1) dX9_bearsOf_110 (by decide) ?_
        refine gc_iload_n dX9_bearsOf_111 rfl ?_
        refine gc_ishl dX9_bearsOf_112 ?_
        refine gc_iconst (v := (-1)) dX9_bearsOf_113 (by decide) ?_
        refine gc_ixor dX9_bearsOf_114 ?_
        refine gc_iand dX9_bearsOf_115 ?_
        refine go_cSI (y := M_X9_bits) (As := [.int (v_107 &&& ((1 <<< (l1 &&& 31)) ^^^ (-1)))]) (rest := [.int 5, .int l5]) dX9_bearsOf_116 lm_X9_101 ok_X9_bits (by decide) (w_X9_bits X (v_107 &&& ((1 <<< (l1 &&& 31)) ^^^ (-1))) m_107 _ h) rfl (Nat.le_of_ble_eq_true rfl) (fun v_116 m_116 h => ?_)
        refine gc_imul dX9_bearsOf_119 ?_
        refine gc_iadd dX9_bearsOf_120 ?_
        exact go_iret dX9_bearsOf_121 rfl (Nat.le_refl _) (Nat.le_refl _) ⟨_, rfl, h⟩
      · have h := h.2 hn2
        have hq2 := tab_ne hn2 (a := 3) (by decide)
        by_cases hn3 : v_62 = 4
        · have h := h.1 hn3
          refine gc_tabIn (off := 60) 125 dX9_bearsOf_65 (by rw [hn3]; decide) (by rw [hn3]; decide) (by rw [hn3]; rfl) (by decide) ?_
          refine gc_iload dX9_bearsOf_125 rfl ?_
          refine gc_bipush (v := 10) dX9_bearsOf_127 (by decide) ?_
          refine gc_isub dX9_bearsOf_129 ?_
          refine gc_iconst (v := 0) dX9_bearsOf_130 (by decide) ?_
          refine gc_bipush (v := 99) dX9_bearsOf_131 (by decide) ?_
          refine go_cSI (y := M_X9_within) (As := [.int (s0 - 10), .int 0, .int 99]) (rest := []) dX9_bearsOf_133 lm_X9_107 ok_X9_within (by decide) (w_X9_within X (s0 - 10) 0 99 m_62 _ h) rfl (Nat.le_of_ble_eq_true rfl) (fun v_133 m_133 h => ?_)
          exact go_iret dX9_bearsOf_136 rfl (Nat.le_refl _) (Nat.le_refl _) ⟨_, rfl, h⟩
        · have h := h.2 hn3
          have hq3 := tab_ne hn3 (a := 4) (by decide)
          by_cases hn4 : v_62 = 5
          · have h := h.1 hn4
            refine gc_tabIn (off := 72) 137 dX9_bearsOf_65 (by rw [hn4]; decide) (by rw [hn4]; decide) (by rw [hn4]; rfl) (by decide) ?_
            refine gc_bipush (v := 99) dX9_bearsOf_137 (by decide) ?_
            exact go_iret dX9_bearsOf_139 rfl (Nat.le_refl _) (Nat.le_refl _) ⟨_, rfl, h⟩
          · have h := h.2 hn4
            have hq4 := tab_ne hn4 (a := 5) (by decide)
            refine gc_tabOut 140 dX9_bearsOf_65 (by have q := tab_out (x := v_62) (lo := 1) (hi := 5) (fun j h1 h2 => by rcases (show j = 1 ∨ j = 2 ∨ j = 3 ∨ j = 4 ∨ j = 5 by omega) with rfl | rfl | rfl | rfl | rfl <;> assumption); exact q) (by decide) ?_
            refine gc_iload dX9_bearsOf_140 rfl ?_
            exact go_iret dX9_bearsOf_142 rfl (Nat.le_refl _) (Nat.le_refl _) ⟨_, rfl, h⟩
def B_X9_bearsOf_24 (p0 : Int32) (p1 : Int32) (K : Int32 → Mm → Prop) (l1 : Int32) (l2 : Int32) (s0 : Int32) (mem : Mm) : Prop := W_X9_within s0 0 99 mem (fun v_27 m_27 => W_X9_of l1 2 m_27 (fun v_37 m_37 => (¬ l2 = 0 → (B_X9_bearsOf_57 p0 p1   K l1 v_27 (v_27 + (v_37 / 10)) v_27 m_37)) ∧ (l2 = 0 → (B_X9_bearsOf_57 p0 p1   K l1 v_27 (v_27 + (v_37 / 10)) 99 m_37))))
set_option maxRecDepth 100000 in
set_option maxHeartbeats 4000000 in
theorem b_X9_bearsOf_24 (X : CX) (p0 : Int32) (p1 : Int32)  (K : Int32 → Mm → Prop) (l1 : Int32) (l2 : Int32) (s0 : Int32) (mem : Mm)  (h : B_X9_bearsOf_24 p0 p1   K l1 l2 s0 mem) : GoC X 3 0 0 M_X9_bearsOf 24 [some (.ref (cx_n X + 82)), some (.int l1), some (.int l2), none, none, none, none] [.int s0] 0 0 (cellAt X mem) (sz mem) (qm X (fun r m => ∃ v : Int32, r = some (.int v) ∧ K v m)) := by
  unfold B_X9_bearsOf_24 at h
  refine gc_iconst (v := 0) dX9_bearsOf_24 (by decide) ?_
  refine gc_bipush (v := 99) dX9_bearsOf_25 (by decide) ?_
  refine go_cSI (y := M_X9_within) (As := [.int s0, .int 0, .int 99]) (rest := []) dX9_bearsOf_27 lm_X9_107 ok_X9_within (by decide) (w_X9_within X s0 0 99 mem _ h) rfl (Nat.le_of_ble_eq_true rfl) (fun v_27 m_27 h => ?_)
  refine gc_istore dX9_bearsOf_30 (by decide) ?_
  refine gc_iload dX9_bearsOf_32 rfl ?_
  refine gc_aload_n dX9_bearsOf_34 rfl ?_
  refine gc_iload_n dX9_bearsOf_35 rfl ?_
  refine gc_iconst (v := 2) dX9_bearsOf_36 (by decide) ?_
  refine go_cVI (y := M_X9_of) (As := [.int l1, .int 2]) (rest := [.int v_27]) dX9_bearsOf_37 lm_X9_89 ok_X9_of (by decide) (sz_lt (by decide)) kd_82 rfl rfl (w_X9_of X l1 2 m_27 _ h) rfl (Nat.le_of_ble_eq_true rfl) (fun v_37 m_37 h => ?_)
  refine gc_bipush (v := 10) dX9_bearsOf_40 (by decide) ?_
  refine gc_idiv dX9_bearsOf_42 (by decide) ?_
  refine gc_iadd dX9_bearsOf_43 ?_
  refine gc_istore dX9_bearsOf_44 (by decide) ?_
  refine gc_iload_n dX9_bearsOf_46 rfl ?_
  refine gc_if_ne 55 dX9_bearsOf_47 (by decide) (fun hc => ?_) (fun hc => ?_)
  · have h := h.1 hc
    refine gc_iload dX9_bearsOf_55 rfl ?_
    refine gc_forget 2 ?_
    exact b_X9_bearsOf_57 X p0 p1    K   l1 v_27 (v_27 + (v_37 / 10)) v_27 m_37  h
  · have h := h.2 hc
    refine gc_bipush (v := 99) dX9_bearsOf_50 (by decide) ?_
    refine gc_goto 57 dX9_bearsOf_52 (by decide) ?_
    refine gc_forget 2 ?_
    exact b_X9_bearsOf_57 X p0 p1    K   l1 v_27 (v_27 + (v_37 / 10)) 99 m_37  h
def W_X9_bearsOf (p0 : Int32) (p1 : Int32) (mem : Mm) (K : Int32 → Mm → Prop) : Prop := W_X9_plainBears p0 mem (fun v_2 m_2 => W_X9_of p0 3 m_2 (fun v_10 m_10 => (¬ p1 = v_10 → (B_X9_bearsOf_24 p0 p1   K p0 p1 v_2 m_10)) ∧ (p1 = v_10 → (B_X9_bearsOf_24 p0 p1   K p0 p1 (v_2 - 20) m_10))))
set_option maxRecDepth 100000 in
set_option maxHeartbeats 4000000 in
theorem w_X9_bearsOf (X : CX) (p0 : Int32) (p1 : Int32) (mem : Mm) (K : Int32 → Mm → Prop) (h : W_X9_bearsOf p0 p1 mem K) : CallsI X 3 M_X9_bearsOf [.ref (cx_n X + 82), .int p0, .int p1] mem K := by
  unfold W_X9_bearsOf at h
  refine CallsC.ofP 4 (by decide) rfl (Nat.le_of_ble_eq_true rfl) ?_
  refine gc_aload_n dX9_bearsOf_0 rfl ?_
  refine gc_iload_n dX9_bearsOf_1 rfl ?_
  refine go_cVI (y := M_X9_plainBears) (As := [.int p0]) (rest := []) dX9_bearsOf_2 lm_X9_111 ok_X9_plainBears (by decide) (sz_lt (by decide)) kd_82 rfl rfl (w_X9_plainBears X p0 mem _ h) rfl (Nat.le_of_ble_eq_true rfl) (fun v_2 m_2 h => ?_)
  refine gc_istore_n dX9_bearsOf_5 (by decide) ?_
  refine gc_iload_n dX9_bearsOf_6 rfl ?_
  refine gc_aload_n dX9_bearsOf_7 rfl ?_
  refine gc_iload_n dX9_bearsOf_8 rfl ?_
  refine gc_iconst (v := 3) dX9_bearsOf_9 (by decide) ?_
  refine go_cVI (y := M_X9_of) (As := [.int p0, .int 3]) (rest := [.int p1]) dX9_bearsOf_10 lm_X9_89 ok_X9_of (by decide) (sz_lt (by decide)) kd_82 rfl rfl (w_X9_of X p0 3 m_2 _ h) rfl (Nat.le_of_ble_eq_true rfl) (fun v_10 m_10 h => ?_)
  refine gc_icmp_ne 23 dX9_bearsOf_13 (by decide) (fun hc => ?_) (fun hc => ?_)
  · have h := h.1 hc
    refine gc_iload_n dX9_bearsOf_23 rfl ?_
    refine gc_forget 3 ?_
    exact b_X9_bearsOf_24 X p0 p1    K   p0 p1 v_2 m_10  h
  · have h := h.2 hc
    refine gc_iload_n dX9_bearsOf_16 rfl ?_
    refine gc_bipush (v := 20) dX9_bearsOf_17 (by decide) ?_
    refine gc_isub dX9_bearsOf_19 ?_
    refine gc_goto 24 dX9_bearsOf_20 (by decide) ?_
    refine gc_forget 3 ?_
    exact b_X9_bearsOf_24 X p0 p1    K   p0 p1 (v_2 - 20) m_10  h
def W_X9_bears (p0 : Int32) (p1 : Int32) (mem : Mm) (K : Int32 → Mm → Prop) : Prop := W_X9_isMan p0 mem (fun v_2 m_2 => ((bZ v_2) = 0 → (K (-1000000001) m_2)) ∧ (¬ (bZ v_2) = 0 → (W_X9_isTopic p1 m_2 (fun v_9 m_9 => ((bZ v_9) = 0 → (K (-1000000001) m_9)) ∧ (¬ (bZ v_9) = 0 → (W_X9_bearsOf p0 p1 m_9 (fun v_18 m_18 => K v_18 m_18)))))))
set_option maxRecDepth 100000 in
set_option maxHeartbeats 4000000 in
theorem w_X9_bears (X : CX) (p0 : Int32) (p1 : Int32) (mem : Mm) (K : Int32 → Mm → Prop) (h : W_X9_bears p0 p1 mem K) : CallsI X 4 M_X9_bears [.ref (cx_n X + 82), .int p0, .int p1] mem K := by
  unfold W_X9_bears at h
  refine CallsC.ofP 0 (by decide) rfl (Nat.le_of_ble_eq_true rfl) ?_
  refine gc_aload_n dX9_bears_0 rfl ?_
  refine gc_iload_n dX9_bears_1 rfl ?_
  refine go_cVZ (y := M_X9_isMan) (As := [.int p0]) (rest := []) dX9_bears_2 lm_X9_85 ok_X9_isMan (by decide) (sz_lt (by decide)) kd_82 rfl rfl (w_X9_isMan X p0 mem _ h) rfl (Nat.le_of_ble_eq_true rfl) (fun v_2 m_2 h => ?_)
  refine gc_if_eq 24 dX9_bears_5 (by decide) (fun hc => ?_) (fun hc => ?_)
  · have h := h.1 hc
    refine gc_ldc (v := (-1000000001)) dX9_bears_24 lk_X9_121 ?_
    exact go_iret dX9_bears_26 rfl (Nat.le_refl _) (Nat.le_refl _) ⟨_, rfl, h⟩
  · have h := h.2 hc
    refine gc_iload_n dX9_bears_8 rfl ?_
    refine go_cSZ (y := M_X9_isTopic) (As := [.int p1]) (rest := []) dX9_bears_9 lm_X9_118 ok_X9_isTopic (by decide) (w_X9_isTopic X p1 m_2 _ h) rfl (Nat.le_of_ble_eq_true rfl) (fun v_9 m_9 h => ?_)
    refine gc_if_eq 24 dX9_bears_12 (by decide) (fun hc => ?_) (fun hc => ?_)
    · have h := h.1 hc
      refine gc_ldc (v := (-1000000001)) dX9_bears_24 lk_X9_121 ?_
      exact go_iret dX9_bears_26 rfl (Nat.le_refl _) (Nat.le_refl _) ⟨_, rfl, h⟩
    · have h := h.2 hc
      refine gc_aload_n dX9_bears_15 rfl ?_
      refine gc_iload_n dX9_bears_16 rfl ?_
      refine gc_iload_n dX9_bears_17 rfl ?_
      refine go_cVI (y := M_X9_bearsOf) (As := [.int p0, .int p1]) (rest := []) dX9_bears_18 lm_X9_133 ok_X9_bearsOf (by decide) (sz_lt (by decide)) kd_82 rfl rfl (w_X9_bearsOf X p0 p1 m_9 _ h) rfl (Nat.le_of_ble_eq_true rfl) (fun v_18 m_18 h => ?_)
      refine gc_goto 26 dX9_bears_21 (by decide) ?_
      exact go_iret dX9_bears_26 rfl (Nat.le_refl _) (Nat.le_refl _) ⟨_, rfl, h⟩
def W_X9_isUnder (p0 : Int32) (p1 : Int32) (mem : Mm) (K : Bool → Mm → Prop) : Prop := (p1 = 0 → (K true mem)) ∧ (¬ p1 = 0 → ((p0 = p1 → (K true mem)) ∧ (¬ p0 = p1 → ((¬ p1 = 1 → ((¬ p1 = 2 → (K false mem)) ∧ (p1 = 2 → ((¬ p0 = 4 → (K false mem)) ∧ (p0 = 4 → (K true mem)))))) ∧ (p1 = 1 → ((p0 = 3 → (K true mem)) ∧ (¬ p0 = 3 → ((¬ p1 = 2 → (K false mem)) ∧ (p1 = 2 → ((¬ p0 = 4 → (K false mem)) ∧ (p0 = 4 → (K true mem))))))))))))
set_option maxRecDepth 100000 in
set_option maxHeartbeats 4000000 in
theorem w_X9_isUnder (X : CX) (p0 : Int32) (p1 : Int32) (mem : Mm) (K : Bool → Mm → Prop) (h : W_X9_isUnder p0 p1 mem K) : CallsZ X 0 M_X9_isUnder [.int p0, .int p1] mem K := by
  unfold W_X9_isUnder at h
  refine CallsC.ofP 0 (by decide) rfl (Nat.le_of_ble_eq_true rfl) ?_
  refine gc_iload_n dX9_isUnder_0 rfl ?_
  refine gc_if_eq 29 dX9_isUnder_1 (by decide) (fun hc => ?_) (fun hc => ?_)
  · have h := h.1 hc
    refine gc_iconst (v := 1) dX9_isUnder_29 (by decide) ?_
    refine gc_goto 34 dX9_isUnder_30 (by decide) ?_
    exact go_zret dX9_isUnder_34 rfl (by decide) (Nat.le_refl _) (Nat.le_refl _) ⟨true, rfl, h⟩
  · have h := h.2 hc
    refine gc_iload_n dX9_isUnder_4 rfl ?_
    refine gc_iload_n dX9_isUnder_5 rfl ?_
    refine gc_icmp_eq 29 dX9_isUnder_6 (by decide) (fun hc => ?_) (fun hc => ?_)
    · have h := h.1 hc
      refine gc_iconst (v := 1) dX9_isUnder_29 (by decide) ?_
      refine gc_goto 34 dX9_isUnder_30 (by decide) ?_
      exact go_zret dX9_isUnder_34 rfl (by decide) (Nat.le_refl _) (Nat.le_refl _) ⟨true, rfl, h⟩
    · have h := h.2 hc
      refine gc_iload_n dX9_isUnder_9 rfl ?_
      refine gc_iconst (v := 1) dX9_isUnder_10 (by decide) ?_
      refine gc_icmp_ne 19 dX9_isUnder_11 (by decide) (fun hc => ?_) (fun hc => ?_)
      · have h := h.1 hc
        refine gc_iload_n dX9_isUnder_19 rfl ?_
        refine gc_iconst (v := 2) dX9_isUnder_20 (by decide) ?_
        refine gc_icmp_ne 33 dX9_isUnder_21 (by decide) (fun hc => ?_) (fun hc => ?_)
        · have h := h.1 hc
          refine gc_iconst (v := 0) dX9_isUnder_33 (by decide) ?_
          exact go_zret dX9_isUnder_34 rfl (by decide) (Nat.le_refl _) (Nat.le_refl _) ⟨false, rfl, h⟩
        · have h := h.2 hc
          refine gc_iload_n dX9_isUnder_24 rfl ?_
          refine gc_iconst (v := 4) dX9_isUnder_25 (by decide) ?_
          refine gc_icmp_ne 33 dX9_isUnder_26 (by decide) (fun hc => ?_) (fun hc => ?_)
          · have h := h.1 hc
            refine gc_iconst (v := 0) dX9_isUnder_33 (by decide) ?_
            exact go_zret dX9_isUnder_34 rfl (by decide) (Nat.le_refl _) (Nat.le_refl _) ⟨false, rfl, h⟩
          · have h := h.2 hc
            refine gc_iconst (v := 1) dX9_isUnder_29 (by decide) ?_
            refine gc_goto 34 dX9_isUnder_30 (by decide) ?_
            exact go_zret dX9_isUnder_34 rfl (by decide) (Nat.le_refl _) (Nat.le_refl _) ⟨true, rfl, h⟩
      · have h := h.2 hc
        refine gc_iload_n dX9_isUnder_14 rfl ?_
        refine gc_iconst (v := 3) dX9_isUnder_15 (by decide) ?_
        refine gc_icmp_eq 29 dX9_isUnder_16 (by decide) (fun hc => ?_) (fun hc => ?_)
        · have h := h.1 hc
          refine gc_iconst (v := 1) dX9_isUnder_29 (by decide) ?_
          refine gc_goto 34 dX9_isUnder_30 (by decide) ?_
          exact go_zret dX9_isUnder_34 rfl (by decide) (Nat.le_refl _) (Nat.le_refl _) ⟨true, rfl, h⟩
        · have h := h.2 hc
          refine gc_iload_n dX9_isUnder_19 rfl ?_
          refine gc_iconst (v := 2) dX9_isUnder_20 (by decide) ?_
          refine gc_icmp_ne 33 dX9_isUnder_21 (by decide) (fun hc => ?_) (fun hc => ?_)
          · have h := h.1 hc
            refine gc_iconst (v := 0) dX9_isUnder_33 (by decide) ?_
            exact go_zret dX9_isUnder_34 rfl (by decide) (Nat.le_refl _) (Nat.le_refl _) ⟨false, rfl, h⟩
          · have h := h.2 hc
            refine gc_iload_n dX9_isUnder_24 rfl ?_
            refine gc_iconst (v := 4) dX9_isUnder_25 (by decide) ?_
            refine gc_icmp_ne 33 dX9_isUnder_26 (by decide) (fun hc => ?_) (fun hc => ?_)
            · have h := h.1 hc
              refine gc_iconst (v := 0) dX9_isUnder_33 (by decide) ?_
              exact go_zret dX9_isUnder_34 rfl (by decide) (Nat.le_refl _) (Nat.le_refl _) ⟨false, rfl, h⟩
            · have h := h.2 hc
              refine gc_iconst (v := 1) dX9_isUnder_29 (by decide) ?_
              refine gc_goto 34 dX9_isUnder_30 (by decide) ?_
              exact go_zret dX9_isUnder_34 rfl (by decide) (Nat.le_refl _) (Nat.le_refl _) ⟨true, rfl, h⟩
def W_X9_as (p0 : Int32) (p1 : Int32) (mem : Mm) (K : Int32 → Mm → Prop) : Prop := W_X9_isMan p0 mem (fun v_2 m_2 => ((bZ v_2) = 0 → (K (-1000000001) m_2)) ∧ (¬ (bZ v_2) = 0 → (W_X9_in p1 0 5 m_2 (fun v_11 m_11 => (¬ (bZ v_11) = 0 → (W_X9_of p0 0 m_11 (fun v_23 m_23 => W_X9_isUnder v_23 p1 m_23 (fun v_27 m_27 => ((bZ v_27) = 0 → (K (-1000000012) m_27)) ∧ (¬ (bZ v_27) = 0 → (W_X9_of p0 1 m_27 (fun v_36 m_36 => K v_36 m_36))))))) ∧ ((bZ v_11) = 0 → (K (-1000000001) m_11))))))
set_option maxRecDepth 100000 in
set_option maxHeartbeats 4000000 in
theorem w_X9_as (X : CX) (p0 : Int32) (p1 : Int32) (mem : Mm) (K : Int32 → Mm → Prop) (h : W_X9_as p0 p1 mem K) : CallsI X 2 M_X9_as [.ref (cx_n X + 82), .int p0, .int p1] mem K := by
  unfold W_X9_as at h
  refine CallsC.ofP 0 (by decide) rfl (Nat.le_of_ble_eq_true rfl) ?_
  refine gc_aload_n dX9_as_0 rfl ?_
  refine gc_iload_n dX9_as_1 rfl ?_
  refine go_cVZ (y := M_X9_isMan) (As := [.int p0]) (rest := []) dX9_as_2 lm_X9_85 ok_X9_isMan (by decide) (sz_lt (by decide)) kd_82 rfl rfl (w_X9_isMan X p0 mem _ h) rfl (Nat.le_of_ble_eq_true rfl) (fun v_2 m_2 h => ?_)
  refine gc_if_eq 17 dX9_as_5 (by decide) (fun hc => ?_) (fun hc => ?_)
  · have h := h.1 hc
    refine gc_ldc (v := (-1000000001)) dX9_as_17 lk_X9_121 ?_
    exact go_iret dX9_as_19 rfl (Nat.le_refl _) (Nat.le_refl _) ⟨_, rfl, h⟩
  · have h := h.2 hc
    refine gc_iload_n dX9_as_8 rfl ?_
    refine gc_iconst (v := 0) dX9_as_9 (by decide) ?_
    refine gc_iconst (v := 5) dX9_as_10 (by decide) ?_
    refine go_cSZ (y := M_X9_in) (As := [.int p1, .int 0, .int 5]) (rest := []) dX9_as_11 lm_X9_81 ok_X9_in (by decide) (w_X9_in X p1 0 5 m_2 _ h) rfl (Nat.le_of_ble_eq_true rfl) (fun v_11 m_11 h => ?_)
    refine gc_if_ne 20 dX9_as_14 (by decide) (fun hc => ?_) (fun hc => ?_)
    · have h := h.1 hc
      refine gc_aload_n dX9_as_20 rfl ?_
      refine gc_iload_n dX9_as_21 rfl ?_
      refine gc_iconst (v := 0) dX9_as_22 (by decide) ?_
      refine go_cVI (y := M_X9_of) (As := [.int p0, .int 0]) (rest := []) dX9_as_23 lm_X9_89 ok_X9_of (by decide) (sz_lt (by decide)) kd_82 rfl rfl (w_X9_of X p0 0 m_11 _ h) rfl (Nat.le_of_ble_eq_true rfl) (fun v_23 m_23 h => ?_)
      refine gc_iload_n dX9_as_26 rfl ?_
      refine go_cSZ (y := M_X9_isUnder) (As := [.int v_23, .int p1]) (rest := []) dX9_as_27 lm_X9_136 ok_X9_isUnder (by decide) (w_X9_isUnder X v_23 p1 m_23 _ h) rfl (Nat.le_of_ble_eq_true rfl) (fun v_27 m_27 h => ?_)
      refine gc_if_eq 42 dX9_as_30 (by decide) (fun hc => ?_) (fun hc => ?_)
      · have h := h.1 hc
        refine gc_ldc (v := (-1000000012)) dX9_as_42 lk_X9_140 ?_
        exact go_iret dX9_as_44 rfl (Nat.le_refl _) (Nat.le_refl _) ⟨_, rfl, h⟩
      · have h := h.2 hc
        refine gc_aload_n dX9_as_33 rfl ?_
        refine gc_iload_n dX9_as_34 rfl ?_
        refine gc_iconst (v := 1) dX9_as_35 (by decide) ?_
        refine go_cVI (y := M_X9_of) (As := [.int p0, .int 1]) (rest := []) dX9_as_36 lm_X9_89 ok_X9_of (by decide) (sz_lt (by decide)) kd_82 rfl rfl (w_X9_of X p0 1 m_27 _ h) rfl (Nat.le_of_ble_eq_true rfl) (fun v_36 m_36 h => ?_)
        refine gc_goto 44 dX9_as_39 (by decide) ?_
        exact go_iret dX9_as_44 rfl (Nat.le_refl _) (Nat.le_refl _) ⟨_, rfl, h⟩
    · have h := h.2 hc
      refine gc_ldc (v := (-1000000001)) dX9_as_17 lk_X9_121 ?_
      exact go_iret dX9_as_19 rfl (Nat.le_refl _) (Nat.le_refl _) ⟨_, rfl, h⟩
def W_X9_swaps (p0 : Int32) (p1 : Int32) (mem : Mm) (K : Int32 → Mm → Prop) : Prop := ∃ i_5 : Nat, p0 = nI i_5 ∧ i_5 < 1433 ∧ (∃ i_13 : Nat, p0 = nI i_13 ∧ i_13 < 1433 ∧ (∀ m_13 : Mm, m_13 = mu mem 83 i_13 p1 → (K (mem 83 i_5) m_13)))
set_option maxRecDepth 100000 in
set_option maxHeartbeats 4000000 in
theorem w_X9_swaps (X : CX) (p0 : Int32) (p1 : Int32) (mem : Mm) (K : Int32 → Mm → Prop) (h : W_X9_swaps p0 p1 mem K) : CallsI X 0 M_X9_swaps [.ref (cx_n X + 82), .int p0, .int p1] mem K := by
  unfold W_X9_swaps at h
  refine CallsC.ofP 1 (by decide) rfl (Nat.le_of_ble_eq_true rfl) ?_
  refine gc_aload_n dX9_swaps_0 rfl ?_
  refine go_getR dX9_swaps_1 lg_X9_9 (sz_lt (by decide)) kd_82 rfl ?_
  refine gc_iload_n dX9_swaps_4 rfl ?_
  obtain ⟨i_5, hx_5, hi_5, h⟩ := h
  refine go_iald i_5 dX9_swaps_5 kd_83 hx_5 hi_5 ?_
  refine gc_istore_n dX9_swaps_6 (by decide) ?_
  refine gc_aload_n dX9_swaps_7 rfl ?_
  refine go_getR dX9_swaps_8 lg_X9_9 (sz_lt (by decide)) kd_82 rfl ?_
  refine gc_iload_n dX9_swaps_11 rfl ?_
  refine gc_iload_n dX9_swaps_12 rfl ?_
  obtain ⟨i_13, hx_13, hi_13, h⟩ := h
  refine go_iast_ i_13 dX9_swaps_13 kd_83 hx_13 hi_13 (by decide) (fun m_13 em_13 => ?_)
  have h := h m_13 em_13
  refine gc_iload_n dX9_swaps_14 rfl ?_
  exact go_iret dX9_swaps_15 rfl (Nat.le_refl _) (Nat.le_refl _) ⟨_, rfl, h⟩
def W_X9_turns (p0 : Int32) (p1 : Int32) (mem : Mm) (K : Int32 → Mm → Prop) : Prop := W_X9_isMan p0 mem (fun v_2 m_2 => ((bZ v_2) = 0 → (K (-1000000001) m_2)) ∧ (¬ (bZ v_2) = 0 → (W_X9_in p1 0 5 m_2 (fun v_11 m_11 => ((bZ v_11) = 0 → (K (-1000000001) m_11)) ∧ (¬ (bZ v_11) = 0 → (W_X9_swaps (7 + (6 * p0)) p1 m_11 (fun v_26 m_26 => K v_26 m_26)))))))
set_option maxRecDepth 100000 in
set_option maxHeartbeats 4000000 in
theorem w_X9_turns (X : CX) (p0 : Int32) (p1 : Int32) (mem : Mm) (K : Int32 → Mm → Prop) (h : W_X9_turns p0 p1 mem K) : CallsI X 2 M_X9_turns [.ref (cx_n X + 82), .int p0, .int p1] mem K := by
  unfold W_X9_turns at h
  refine CallsC.ofP 0 (by decide) rfl (Nat.le_of_ble_eq_true rfl) ?_
  refine gc_aload_n dX9_turns_0 rfl ?_
  refine gc_iload_n dX9_turns_1 rfl ?_
  refine go_cVZ (y := M_X9_isMan) (As := [.int p0]) (rest := []) dX9_turns_2 lm_X9_85 ok_X9_isMan (by decide) (sz_lt (by decide)) kd_82 rfl rfl (w_X9_isMan X p0 mem _ h) rfl (Nat.le_of_ble_eq_true rfl) (fun v_2 m_2 h => ?_)
  refine gc_if_eq 32 dX9_turns_5 (by decide) (fun hc => ?_) (fun hc => ?_)
  · have h := h.1 hc
    refine gc_ldc (v := (-1000000001)) dX9_turns_32 lk_X9_121 ?_
    exact go_iret dX9_turns_34 rfl (Nat.le_refl _) (Nat.le_refl _) ⟨_, rfl, h⟩
  · have h := h.2 hc
    refine gc_iload_n dX9_turns_8 rfl ?_
    refine gc_iconst (v := 0) dX9_turns_9 (by decide) ?_
    refine gc_iconst (v := 5) dX9_turns_10 (by decide) ?_
    refine go_cSZ (y := M_X9_in) (As := [.int p1, .int 0, .int 5]) (rest := []) dX9_turns_11 lm_X9_81 ok_X9_in (by decide) (w_X9_in X p1 0 5 m_2 _ h) rfl (Nat.le_of_ble_eq_true rfl) (fun v_11 m_11 h => ?_)
    refine gc_if_eq 32 dX9_turns_14 (by decide) (fun hc => ?_) (fun hc => ?_)
    · have h := h.1 hc
      refine gc_ldc (v := (-1000000001)) dX9_turns_32 lk_X9_121 ?_
      exact go_iret dX9_turns_34 rfl (Nat.le_refl _) (Nat.le_refl _) ⟨_, rfl, h⟩
    · have h := h.2 hc
      refine gc_aload_n dX9_turns_17 rfl ?_
      refine gc_bipush (v := 7) dX9_turns_18 (by decide) ?_
      refine gc_bipush (v := 6) dX9_turns_20 (by decide) ?_
      refine gc_iload_n dX9_turns_22 rfl ?_
      refine gc_imul dX9_turns_23 ?_
      refine gc_iadd dX9_turns_24 ?_
      refine gc_iload_n dX9_turns_25 rfl ?_
      refine go_cVI (y := M_X9_swaps) (As := [.int (7 + (6 * p0)), .int p1]) (rest := []) dX9_turns_26 lm_X9_141 ok_X9_swaps (by decide) (sz_lt (by decide)) kd_82 rfl rfl (w_X9_swaps X (7 + (6 * p0)) p1 m_11 _ h) rfl (Nat.le_of_ble_eq_true rfl) (fun v_26 m_26 h => ?_)
      refine gc_goto 34 dX9_turns_29 (by decide) ?_
      exact go_iret dX9_turns_34 rfl (Nat.le_refl _) (Nat.le_refl _) ⟨_, rfl, h⟩
def W_X9_mostOf (p0 : Int32) (mem : Mm) (K : Int32 → Mm → Prop) : Prop := (¬ p0 = 3 → ((¬ p0 = 4 → ((¬ p0 = 5 → (K 99 mem)) ∧ (p0 = 5 → (K 1 mem)))) ∧ (p0 = 4 → (K 9999 mem)))) ∧ (p0 = 3 → (K 7 mem))
set_option maxRecDepth 100000 in
set_option maxHeartbeats 4000000 in
theorem w_X9_mostOf (X : CX) (p0 : Int32) (mem : Mm) (K : Int32 → Mm → Prop) (h : W_X9_mostOf p0 mem K) : CallsI X 0 M_X9_mostOf [.int p0] mem K := by
  unfold W_X9_mostOf at h
  refine CallsC.ofP 0 (by decide) rfl (Nat.le_of_ble_eq_true rfl) ?_
  refine gc_iload_n dX9_mostOf_0 rfl ?_
  refine gc_iconst (v := 3) dX9_mostOf_1 (by decide) ?_
  refine gc_icmp_ne 10 dX9_mostOf_2 (by decide) (fun hc => ?_) (fun hc => ?_)
  · have h := h.1 hc
    refine gc_iload_n dX9_mostOf_10 rfl ?_
    refine gc_iconst (v := 4) dX9_mostOf_11 (by decide) ?_
    refine gc_icmp_ne 21 dX9_mostOf_12 (by decide) (fun hc => ?_) (fun hc => ?_)
    · have h := h.1 hc
      refine gc_iload_n dX9_mostOf_21 rfl ?_
      refine gc_iconst (v := 5) dX9_mostOf_22 (by decide) ?_
      refine gc_icmp_ne 30 dX9_mostOf_23 (by decide) (fun hc => ?_) (fun hc => ?_)
      · have h := h.1 hc
        refine gc_bipush (v := 99) dX9_mostOf_30 (by decide) ?_
        exact go_iret dX9_mostOf_32 rfl (Nat.le_refl _) (Nat.le_refl _) ⟨_, rfl, h⟩
      · have h := h.2 hc
        refine gc_iconst (v := 1) dX9_mostOf_26 (by decide) ?_
        refine gc_goto 32 dX9_mostOf_27 (by decide) ?_
        exact go_iret dX9_mostOf_32 rfl (Nat.le_refl _) (Nat.le_refl _) ⟨_, rfl, h⟩
    · have h := h.2 hc
      refine gc_sipush (v := 9999) dX9_mostOf_15 (by decide) ?_
      refine gc_goto 32 dX9_mostOf_18 (by decide) ?_
      exact go_iret dX9_mostOf_32 rfl (Nat.le_refl _) (Nat.le_refl _) ⟨_, rfl, h⟩
  · have h := h.2 hc
    refine gc_bipush (v := 7) dX9_mostOf_5 (by decide) ?_
    refine gc_goto 32 dX9_mostOf_7 (by decide) ?_
    exact go_iret dX9_mostOf_32 rfl (Nat.le_refl _) (Nat.le_refl _) ⟨_, rfl, h⟩
def W_X9_set (p0 : Int32) (p1 : Int32) (p2 : Int32) (mem : Mm) (K : Int32 → Mm → Prop) : Prop := W_X9_isMan p0 mem (fun v_2 m_2 => ((bZ v_2) = 0 → (K (-1000000001) m_2)) ∧ (¬ (bZ v_2) = 0 → (W_X9_in p1 1 5 m_2 (fun v_11 m_11 => ((bZ v_11) = 0 → (K (-1000000001) m_11)) ∧ (¬ (bZ v_11) = 0 → (W_X9_mostOf p1 m_11 (fun v_20 m_20 => W_X9_in p2 0 v_20 m_20 (fun v_23 m_23 => ((bZ v_23) = 0 → (K (-1000000001) m_23)) ∧ (¬ (bZ v_23) = 0 → (W_X9_swaps ((7 + (6 * p0)) + p1) p2 m_23 (fun v_40 m_40 => K v_40 m_40)))))))))))
set_option maxRecDepth 100000 in
set_option maxHeartbeats 4000000 in
theorem w_X9_set (X : CX) (p0 : Int32) (p1 : Int32) (p2 : Int32) (mem : Mm) (K : Int32 → Mm → Prop) (h : W_X9_set p0 p1 p2 mem K) : CallsI X 2 M_X9_set [.ref (cx_n X + 82), .int p0, .int p1, .int p2] mem K := by
  unfold W_X9_set at h
  refine CallsC.ofP 0 (by decide) rfl (Nat.le_of_ble_eq_true rfl) ?_
  refine gc_aload_n dX9_set_0 rfl ?_
  refine gc_iload_n dX9_set_1 rfl ?_
  refine go_cVZ (y := M_X9_isMan) (As := [.int p0]) (rest := []) dX9_set_2 lm_X9_85 ok_X9_isMan (by decide) (sz_lt (by decide)) kd_82 rfl rfl (w_X9_isMan X p0 mem _ h) rfl (Nat.le_of_ble_eq_true rfl) (fun v_2 m_2 h => ?_)
  refine gc_if_eq 46 dX9_set_5 (by decide) (fun hc => ?_) (fun hc => ?_)
  · have h := h.1 hc
    refine gc_ldc (v := (-1000000001)) dX9_set_46 lk_X9_121 ?_
    exact go_iret dX9_set_48 rfl (Nat.le_refl _) (Nat.le_refl _) ⟨_, rfl, h⟩
  · have h := h.2 hc
    refine gc_iload_n dX9_set_8 rfl ?_
    refine gc_iconst (v := 1) dX9_set_9 (by decide) ?_
    refine gc_iconst (v := 5) dX9_set_10 (by decide) ?_
    refine go_cSZ (y := M_X9_in) (As := [.int p1, .int 1, .int 5]) (rest := []) dX9_set_11 lm_X9_81 ok_X9_in (by decide) (w_X9_in X p1 1 5 m_2 _ h) rfl (Nat.le_of_ble_eq_true rfl) (fun v_11 m_11 h => ?_)
    refine gc_if_eq 46 dX9_set_14 (by decide) (fun hc => ?_) (fun hc => ?_)
    · have h := h.1 hc
      refine gc_ldc (v := (-1000000001)) dX9_set_46 lk_X9_121 ?_
      exact go_iret dX9_set_48 rfl (Nat.le_refl _) (Nat.le_refl _) ⟨_, rfl, h⟩
    · have h := h.2 hc
      refine gc_iload_n dX9_set_17 rfl ?_
      refine gc_iconst (v := 0) dX9_set_18 (by decide) ?_
      refine gc_iload_n dX9_set_19 rfl ?_
      refine go_cSI (y := M_X9_mostOf) (As := [.int p1]) (rest := [.int 0, .int p2]) dX9_set_20 lm_X9_144 ok_X9_mostOf (by decide) (w_X9_mostOf X p1 m_11 _ h) rfl (Nat.le_of_ble_eq_true rfl) (fun v_20 m_20 h => ?_)
      refine go_cSZ (y := M_X9_in) (As := [.int p2, .int 0, .int v_20]) (rest := []) dX9_set_23 lm_X9_81 ok_X9_in (by decide) (w_X9_in X p2 0 v_20 m_20 _ h) rfl (Nat.le_of_ble_eq_true rfl) (fun v_23 m_23 h => ?_)
      refine gc_if_eq 46 dX9_set_26 (by decide) (fun hc => ?_) (fun hc => ?_)
      · have h := h.1 hc
        refine gc_ldc (v := (-1000000001)) dX9_set_46 lk_X9_121 ?_
        exact go_iret dX9_set_48 rfl (Nat.le_refl _) (Nat.le_refl _) ⟨_, rfl, h⟩
      · have h := h.2 hc
        refine gc_aload_n dX9_set_29 rfl ?_
        refine gc_bipush (v := 7) dX9_set_30 (by decide) ?_
        refine gc_bipush (v := 6) dX9_set_32 (by decide) ?_
        refine gc_iload_n dX9_set_34 rfl ?_
        refine gc_imul dX9_set_35 ?_
        refine gc_iadd dX9_set_36 ?_
        refine gc_iload_n dX9_set_37 rfl ?_
        refine gc_iadd dX9_set_38 ?_
        refine gc_iload_n dX9_set_39 rfl ?_
        refine go_cVI (y := M_X9_swaps) (As := [.int ((7 + (6 * p0)) + p1), .int p2]) (rest := []) dX9_set_40 lm_X9_141 ok_X9_swaps (by decide) (sz_lt (by decide)) kd_82 rfl rfl (w_X9_swaps X ((7 + (6 * p0)) + p1) p2 m_23 _ h) rfl (Nat.le_of_ble_eq_true rfl) (fun v_40 m_40 h => ?_)
        refine gc_goto 48 dX9_set_43 (by decide) ?_
        exact go_iret dX9_set_48 rfl (Nat.le_refl _) (Nat.le_refl _) ⟨_, rfl, h⟩
def W_X9_doesStand (p0 : Int32) (mem : Mm) (K : Bool → Mm → Prop) : Prop := W_X9_isMan p0 mem (fun v_2 m_2 => ((bZ v_2) = 0 → (K false m_2)) ∧ (¬ (bZ v_2) = 0 → (W_X9_of p0 5 m_2 (fun v_11 m_11 => (¬ v_11 = 0 → (K false m_11)) ∧ (v_11 = 0 → (K true m_11))))))
set_option maxRecDepth 100000 in
set_option maxHeartbeats 4000000 in
theorem w_X9_doesStand (X : CX) (p0 : Int32) (mem : Mm) (K : Bool → Mm → Prop) (h : W_X9_doesStand p0 mem K) : CallsZ X 2 M_X9_doesStand [.ref (cx_n X + 82), .int p0] mem K := by
  unfold W_X9_doesStand at h
  refine CallsC.ofP 0 (by decide) rfl (Nat.le_of_ble_eq_true rfl) ?_
  refine gc_aload_n dX9_doesStand_0 rfl ?_
  refine gc_iload_n dX9_doesStand_1 rfl ?_
  refine go_cVZ (y := M_X9_isMan) (As := [.int p0]) (rest := []) dX9_doesStand_2 lm_X9_85 ok_X9_isMan (by decide) (sz_lt (by decide)) kd_82 rfl rfl (w_X9_isMan X p0 mem _ h) rfl (Nat.le_of_ble_eq_true rfl) (fun v_2 m_2 h => ?_)
  refine gc_if_eq 21 dX9_doesStand_5 (by decide) (fun hc => ?_) (fun hc => ?_)
  · have h := h.1 hc
    refine gc_iconst (v := 0) dX9_doesStand_21 (by decide) ?_
    exact go_zret dX9_doesStand_22 rfl (by decide) (Nat.le_refl _) (Nat.le_refl _) ⟨false, rfl, h⟩
  · have h := h.2 hc
    refine gc_aload_n dX9_doesStand_8 rfl ?_
    refine gc_iload_n dX9_doesStand_9 rfl ?_
    refine gc_iconst (v := 5) dX9_doesStand_10 (by decide) ?_
    refine go_cVI (y := M_X9_of) (As := [.int p0, .int 5]) (rest := []) dX9_doesStand_11 lm_X9_89 ok_X9_of (by decide) (sz_lt (by decide)) kd_82 rfl rfl (w_X9_of X p0 5 m_2 _ h) rfl (Nat.le_of_ble_eq_true rfl) (fun v_11 m_11 h => ?_)
    refine gc_if_ne 21 dX9_doesStand_14 (by decide) (fun hc => ?_) (fun hc => ?_)
    · have h := h.1 hc
      refine gc_iconst (v := 0) dX9_doesStand_21 (by decide) ?_
      exact go_zret dX9_doesStand_22 rfl (by decide) (Nat.le_refl _) (Nat.le_refl _) ⟨false, rfl, h⟩
    · have h := h.2 hc
      refine gc_iconst (v := 1) dX9_doesStand_17 (by decide) ?_
      refine gc_goto 22 dX9_doesStand_18 (by decide) ?_
      exact go_zret dX9_doesStand_22 rfl (by decide) (Nat.le_refl _) (Nat.le_refl _) ⟨true, rfl, h⟩
def B_X9_drops_88 (p0 : Int32) (p1 : Int32) (p2 : Int32) (rc : Int32 → Int32 → Int32 → Mm → (Mm → Prop) → Prop) (K : Mm → Prop) (l1 : Int32) (l2 : Int32) (l3 : Int32) (l4 : Int32) (mem : Mm) : Prop := (l3 = (-1) → (K mem)) ∧ (¬ l3 = (-1) → (∃ i_98 : Nat, l1 = nI i_98 ∧ i_98 < 9 ∧ (W_X9_doesStand ((st_F 4).getD i_98 0) mem (fun v_99 m_99 => ((bZ v_99) = 0 → (K m_99)) ∧ (¬ (bZ v_99) = 0 → (∃ i_110 : Nat, l1 = nI i_110 ∧ i_110 < 9 ∧ (W_X9_bearsOf ((st_F 4).getD i_110 0) l2 m_99 (fun v_112 m_112 => (l4 ≤ v_112 → (K m_112)) ∧ (¬ l4 ≤ v_112 → (∃ i_125 : Nat, l1 = nI i_125 ∧ i_125 < 9 ∧ (rc ((st_F 4).getD i_125 0) l2 l3 m_112 (fun m_128 => K m_128))))))))))))
set_option maxRecDepth 100000 in
set_option maxHeartbeats 4000000 in
theorem b_X9_drops_88 (X : CX) (p0 : Int32) (p1 : Int32) (p2 : Int32)  (rc : Int32 → Int32 → Int32 → Mm → (Mm → Prop) → Prop) (K : Mm → Prop) (n : Nat) (hrc : ∀ (q0 q1 q2 : Int32) (mem : Mm) (K : Mm → Prop), rc q0 q1 q2 mem K → CallsU X (4 + n) M_X9_drops [.ref (cx_n X + 82), .int q0, .int q1, .int q2] mem K) (l1 : Int32) (l2 : Int32) (l3 : Int32) (l4 : Int32) (mem : Mm)  (h : B_X9_drops_88 p0 p1 p2 rc  K l1 l2 l3 l4 mem) : GoC X (4 + n + 1) 0 0 M_X9_drops 88 [some (.ref (cx_n X + 82)), some (.int l1), some (.int l2), some (.int l3), some (.int l4)] [] 0 0 (cellAt X mem) (sz mem) (qm X (fun r m => r = none ∧ K m)) := by
  unfold B_X9_drops_88 at h
  refine gc_iload_n dX9_drops_88 rfl ?_
  refine gc_iconst (v := (-1)) dX9_drops_89 (by decide) ?_
  refine gc_icmp_eq 131 dX9_drops_90 (by decide) (fun hc => ?_) (fun hc => ?_)
  · have h := h.1 hc
    exact go_vret dX9_drops_131 rfl (Nat.le_refl _) (Nat.le_refl _) ⟨rfl, h⟩
  · have h := h.2 hc
    refine gc_aload_n dX9_drops_93 rfl ?_
    refine gc_gets 4 (by decide) dX9_drops_94 ls_X9_156 ?_
    refine gc_iload_n dX9_drops_97 rfl ?_
    obtain ⟨i_98, hx_98, hi_98, h⟩ := h
    refine gc_sald 4 i_98 (by decide) dX9_drops_98 hx_98 hi_98 ?_
    refine go_cVZ (y := M_X9_doesStand) (As := [.int ((st_F 4).getD i_98 0)]) (rest := []) dX9_drops_99 lm_X9_150 ok_X9_doesStand (by omega) (sz_lt (by decide)) kd_82 rfl rfl (w_X9_doesStand X ((st_F 4).getD i_98 0) mem _ h) rfl (Nat.le_of_ble_eq_true rfl) (fun v_99 m_99 h => ?_)
    refine gc_if_eq 131 dX9_drops_102 (by decide) (fun hc => ?_) (fun hc => ?_)
    · have h := h.1 hc
      exact go_vret dX9_drops_131 rfl (Nat.le_refl _) (Nat.le_refl _) ⟨rfl, h⟩
    · have h := h.2 hc
      refine gc_aload_n dX9_drops_105 rfl ?_
      refine gc_gets 4 (by decide) dX9_drops_106 ls_X9_156 ?_
      refine gc_iload_n dX9_drops_109 rfl ?_
      obtain ⟨i_110, hx_110, hi_110, h⟩ := h
      refine gc_sald 4 i_110 (by decide) dX9_drops_110 hx_110 hi_110 ?_
      refine gc_iload_n dX9_drops_111 rfl ?_
      refine go_cVI (y := M_X9_bearsOf) (As := [.int ((st_F 4).getD i_110 0), .int l2]) (rest := []) dX9_drops_112 lm_X9_133 ok_X9_bearsOf (by omega) (sz_lt (by decide)) kd_82 rfl rfl (w_X9_bearsOf X ((st_F 4).getD i_110 0) l2 m_99 _ h) rfl (Nat.le_of_ble_eq_true rfl) (fun v_112 m_112 h => ?_)
      refine gc_iload dX9_drops_115 rfl ?_
      refine gc_icmp_ge 131 dX9_drops_117 (by decide) (fun hc => ?_) (fun hc => ?_)
      · have h := h.1 hc
        exact go_vret dX9_drops_131 rfl (Nat.le_refl _) (Nat.le_refl _) ⟨rfl, h⟩
      · have h := h.2 hc
        refine gc_aload_n dX9_drops_120 rfl ?_
        refine gc_gets 4 (by decide) dX9_drops_121 ls_X9_156 ?_
        refine gc_iload_n dX9_drops_124 rfl ?_
        obtain ⟨i_125, hx_125, hi_125, h⟩ := h
        refine gc_sald 4 i_125 (by decide) dX9_drops_125 hx_125 hi_125 ?_
        refine gc_iload_n dX9_drops_126 rfl ?_
        refine gc_iload_n dX9_drops_127 rfl ?_
        refine go_cVU (y := M_X9_drops) (As := [.int ((st_F 4).getD i_125 0), .int l2, .int l3]) (rest := []) dX9_drops_128 lm_X9_153 ok_X9_drops (Nat.le_refl _) (sz_lt (by decide)) kd_82 rfl rfl (hrc ((st_F 4).getD i_125 0) l2 l3 m_112 _ h) rfl (Nat.le_of_ble_eq_true rfl) (fun m_128 h => ?_)
        exact go_vret dX9_drops_131 rfl (Nat.le_refl _) (Nat.le_refl _) ⟨rfl, h⟩
def W_X9_drops  : Nat → Int32 → Int32 → Int32 → Mm → (Mm → Prop) → Prop
  | 0, _, _, _, _, _ => False
  | n + 1, p0, p1, p2, mem, K => W_X9_put p0 5 1 mem (fun m_4 => W_X9_of p0 4 m_4 (fun v_13 m_13 => W_X9_within (v_13 + 1) 0 9999 m_13 (fun v_22 m_22 => W_X9_put p0 4 v_22 m_22 (fun m_25 => ∀ m_37 : Mm, m_37 = mu m_25 83 3 ((m_25 83 3) + 1) → (W_X9_pushesOf p0 m_37 (fun v_40 m_40 => (p2 = 1 → (B_X9_drops_88 p0 p1 p2 (W_X9_drops n)  K p0 p1 p2 v_40 m_40)) ∧ (¬ p2 = 1 → (∃ i_55 : Nat, p0 = nI i_55 ∧ i_55 < 9 ∧ (W_X9_doesStand ((st_F 3).getD i_55 0) m_40 (fun v_56 m_56 => ((bZ v_56) = 0 → (B_X9_drops_88 p0 p1 p2 (W_X9_drops n)  K p0 p1 p2 v_40 m_56)) ∧ (¬ (bZ v_56) = 0 → (∃ i_67 : Nat, p0 = nI i_67 ∧ i_67 < 9 ∧ (W_X9_bearsOf ((st_F 3).getD i_67 0) p1 m_56 (fun v_69 m_69 => (v_40 ≤ v_69 → (B_X9_drops_88 p0 p1 p2 (W_X9_drops n)  K p0 p1 p2 v_40 m_69)) ∧ (¬ v_40 ≤ v_69 → (∃ i_82 : Nat, p0 = nI i_82 ∧ i_82 < 9 ∧ ((W_X9_drops n) ((st_F 3).getD i_82 0) p1 p2 m_69 (fun m_85 => B_X9_drops_88 p0 p1 p2 (W_X9_drops n)  K p0 p1 p2 v_40 m_85))))))))))))))))))
set_option maxRecDepth 100000 in
set_option maxHeartbeats 4000000 in
theorem w_X9_drops (X : CX)  : ∀ (n : Nat) (p0 p1 p2 : Int32) (mem : Mm) (K : Mm → Prop) (h : W_X9_drops n p0 p1 p2 mem K), CallsU X (4 + n) M_X9_drops [.ref (cx_n X + 82), .int p0, .int p1, .int p2] mem K := by
  intro n
  induction n with
  | zero => intro p0 p1 p2 mem K h; exact h.elim
  | succ n ih =>
    intro p0 p1 p2 mem K h
    unfold W_X9_drops at h
    refine CallsC.ofP 1 (by decide) rfl (Nat.le_of_ble_eq_true rfl) ?_
    refine gc_aload_n dX9_drops_0 rfl ?_
    refine gc_iload_n dX9_drops_1 rfl ?_
    refine gc_iconst (v := 5) dX9_drops_2 (by decide) ?_
    refine gc_iconst (v := 1) dX9_drops_3 (by decide) ?_
    refine go_cVU (y := M_X9_put) (As := [.int p0, .int 5, .int 1]) (rest := []) dX9_drops_4 lm_X9_114 ok_X9_put (by omega) (sz_lt (by decide)) kd_82 rfl rfl (w_X9_put X p0 5 1 mem _ h) rfl (Nat.le_of_ble_eq_true rfl) (fun m_4 h => ?_)
    refine gc_aload_n dX9_drops_7 rfl ?_
    refine gc_iload_n dX9_drops_8 rfl ?_
    refine gc_iconst (v := 4) dX9_drops_9 (by decide) ?_
    refine gc_aload_n dX9_drops_10 rfl ?_
    refine gc_iload_n dX9_drops_11 rfl ?_
    refine gc_iconst (v := 4) dX9_drops_12 (by decide) ?_
    refine go_cVI (y := M_X9_of) (As := [.int p0, .int 4]) (rest := [.int 4, .int p0, .ref (cx_n X + 82)]) dX9_drops_13 lm_X9_89 ok_X9_of (by omega) (sz_lt (by decide)) kd_82 rfl rfl (w_X9_of X p0 4 m_4 _ h) rfl (Nat.le_of_ble_eq_true rfl) (fun v_13 m_13 h => ?_)
    refine gc_iconst (v := 1) dX9_drops_16 (by decide) ?_
    refine gc_iadd dX9_drops_17 ?_
    refine gc_iconst (v := 0) dX9_drops_18 (by decide) ?_
    refine gc_sipush (v := 9999) dX9_drops_19 (by decide) ?_
    refine go_cSI (y := M_X9_within) (As := [.int (v_13 + 1), .int 0, .int 9999]) (rest := [.int 4, .int p0, .ref (cx_n X + 82)]) dX9_drops_22 lm_X9_107 ok_X9_within (by omega) (w_X9_within X (v_13 + 1) 0 9999 m_13 _ h) rfl (Nat.le_of_ble_eq_true rfl) (fun v_22 m_22 h => ?_)
    refine go_cVU (y := M_X9_put) (As := [.int p0, .int 4, .int v_22]) (rest := []) dX9_drops_25 lm_X9_114 ok_X9_put (by omega) (sz_lt (by decide)) kd_82 rfl rfl (w_X9_put X p0 4 v_22 m_22 _ h) rfl (Nat.le_of_ble_eq_true rfl) (fun m_25 h => ?_)
    refine gc_aload_n dX9_drops_28 rfl ?_
    refine go_getR dX9_drops_29 lg_X9_9 (sz_lt (by decide)) kd_82 rfl ?_
    refine gc_iconst (v := 3) dX9_drops_32 (by decide) ?_
    refine gc_dup2 dX9_drops_33 rfl rfl ?_
    refine go_iald 3 dX9_drops_34 kd_83 rfl (by decide) ?_
    refine gc_iconst (v := 1) dX9_drops_35 (by decide) ?_
    refine gc_iadd dX9_drops_36 ?_
    refine go_iast_ 3 dX9_drops_37 kd_83 rfl (by decide) (by decide) (fun m_37 em_37 => ?_)
    have h := h m_37 em_37
    refine gc_aload_n dX9_drops_38 rfl ?_
    refine gc_iload_n dX9_drops_39 rfl ?_
    refine go_cVI (y := M_X9_pushesOf) (As := [.int p0]) (rest := []) dX9_drops_40 lm_X9_127 ok_X9_pushesOf (by omega) (sz_lt (by decide)) kd_82 rfl rfl (w_X9_pushesOf X p0 m_37 _ h) rfl (Nat.le_of_ble_eq_true rfl) (fun v_40 m_40 h => ?_)
    refine gc_istore dX9_drops_43 (by decide) ?_
    refine gc_iload_n dX9_drops_45 rfl ?_
    refine gc_iconst (v := 1) dX9_drops_46 (by decide) ?_
    refine gc_icmp_eq 88 dX9_drops_47 (by decide) (fun hc => ?_) (fun hc => ?_)
    · have h := h.1 hc
      exact b_X9_drops_88 X p0 p1 p2  (W_X9_drops n)  K n ih  p0 p1 p2 v_40 m_40  h
    · have h := h.2 hc
      refine gc_aload_n dX9_drops_50 rfl ?_
      refine gc_gets 3 (by decide) dX9_drops_51 ls_X9_147 ?_
      refine gc_iload_n dX9_drops_54 rfl ?_
      obtain ⟨i_55, hx_55, hi_55, h⟩ := h
      refine gc_sald 3 i_55 (by decide) dX9_drops_55 hx_55 hi_55 ?_
      refine go_cVZ (y := M_X9_doesStand) (As := [.int ((st_F 3).getD i_55 0)]) (rest := []) dX9_drops_56 lm_X9_150 ok_X9_doesStand (by omega) (sz_lt (by decide)) kd_82 rfl rfl (w_X9_doesStand X ((st_F 3).getD i_55 0) m_40 _ h) rfl (Nat.le_of_ble_eq_true rfl) (fun v_56 m_56 h => ?_)
      refine gc_if_eq 88 dX9_drops_59 (by decide) (fun hc => ?_) (fun hc => ?_)
      · have h := h.1 hc
        exact b_X9_drops_88 X p0 p1 p2  (W_X9_drops n)  K n ih  p0 p1 p2 v_40 m_56  h
      · have h := h.2 hc
        refine gc_aload_n dX9_drops_62 rfl ?_
        refine gc_gets 3 (by decide) dX9_drops_63 ls_X9_147 ?_
        refine gc_iload_n dX9_drops_66 rfl ?_
        obtain ⟨i_67, hx_67, hi_67, h⟩ := h
        refine gc_sald 3 i_67 (by decide) dX9_drops_67 hx_67 hi_67 ?_
        refine gc_iload_n dX9_drops_68 rfl ?_
        refine go_cVI (y := M_X9_bearsOf) (As := [.int ((st_F 3).getD i_67 0), .int p1]) (rest := []) dX9_drops_69 lm_X9_133 ok_X9_bearsOf (by omega) (sz_lt (by decide)) kd_82 rfl rfl (w_X9_bearsOf X ((st_F 3).getD i_67 0) p1 m_56 _ h) rfl (Nat.le_of_ble_eq_true rfl) (fun v_69 m_69 h => ?_)
        refine gc_iload dX9_drops_72 rfl ?_
        refine gc_icmp_ge 88 dX9_drops_74 (by decide) (fun hc => ?_) (fun hc => ?_)
        · have h := h.1 hc
          exact b_X9_drops_88 X p0 p1 p2  (W_X9_drops n)  K n ih  p0 p1 p2 v_40 m_69  h
        · have h := h.2 hc
          refine gc_aload_n dX9_drops_77 rfl ?_
          refine gc_gets 3 (by decide) dX9_drops_78 ls_X9_147 ?_
          refine gc_iload_n dX9_drops_81 rfl ?_
          obtain ⟨i_82, hx_82, hi_82, h⟩ := h
          refine gc_sald 3 i_82 (by decide) dX9_drops_82 hx_82 hi_82 ?_
          refine gc_iload_n dX9_drops_83 rfl ?_
          refine gc_iload_n dX9_drops_84 rfl ?_
          refine go_cVU (y := M_X9_drops) (As := [.int ((st_F 3).getD i_82 0), .int p1, .int p2]) (rest := []) dX9_drops_85 lm_X9_153 ok_X9_drops (Nat.le_refl _) (sz_lt (by decide)) kd_82 rfl rfl (ih ((st_F 3).getD i_82 0) p1 p2 m_69 _ h) rfl (Nat.le_of_ble_eq_true rfl) (fun m_85 h => ?_)
          exact b_X9_drops_88 X p0 p1 p2  (W_X9_drops n)  K n ih  p0 p1 p2 v_40 m_85  h
def W_X9_said (p0 : Int32) (p1 : Int32) (p2 : Int32) (p3 : Int32) (mem : Mm) (K : Int32 → Mm → Prop) : Prop := W_X9_bearsOf p0 p1 mem (fun v_11 m_11 => (p2 ≤ v_11 → (K ((m_11 83 3) - (mem 83 3)) m_11)) ∧ (¬ p2 ≤ v_11 → (W_X9_drops 12 p0 p1 p3 m_11 (fun m_23 => K ((m_23 83 3) - (mem 83 3)) m_23))))
set_option maxRecDepth 100000 in
set_option maxHeartbeats 4000000 in
theorem w_X9_said (X : CX) (p0 : Int32) (p1 : Int32) (p2 : Int32) (p3 : Int32) (mem : Mm) (K : Int32 → Mm → Prop) (h : W_X9_said p0 p1 p2 p3 mem K) : CallsI X 17 M_X9_said [.ref (cx_n X + 82), .int p0, .int p1, .int p2, .int p3] mem K := by
  unfold W_X9_said at h
  refine CallsC.ofP 1 (by decide) rfl (Nat.le_of_ble_eq_true rfl) ?_
  refine gc_aload_n dX9_said_0 rfl ?_
  refine go_getR dX9_said_1 lg_X9_9 (sz_lt (by decide)) kd_82 rfl ?_
  refine gc_iconst (v := 3) dX9_said_4 (by decide) ?_
  refine go_iald 3 dX9_said_5 kd_83 rfl (by decide) ?_
  refine gc_istore dX9_said_6 (by decide) ?_
  refine gc_aload_n dX9_said_8 rfl ?_
  refine gc_iload_n dX9_said_9 rfl ?_
  refine gc_iload_n dX9_said_10 rfl ?_
  refine go_cVI (y := M_X9_bearsOf) (As := [.int p0, .int p1]) (rest := []) dX9_said_11 lm_X9_133 ok_X9_bearsOf (by decide) (sz_lt (by decide)) kd_82 rfl rfl (w_X9_bearsOf X p0 p1 mem _ h) rfl (Nat.le_of_ble_eq_true rfl) (fun v_11 m_11 h => ?_)
  refine gc_iload_n dX9_said_14 rfl ?_
  refine gc_icmp_ge 26 dX9_said_15 (by decide) (fun hc => ?_) (fun hc => ?_)
  · have h := h.1 hc
    refine gc_aload_n dX9_said_26 rfl ?_
    refine go_getR dX9_said_27 lg_X9_9 (sz_lt (by decide)) kd_82 rfl ?_
    refine gc_iconst (v := 3) dX9_said_30 (by decide) ?_
    refine go_iald 3 dX9_said_31 kd_83 rfl (by decide) ?_
    refine gc_iload dX9_said_32 rfl ?_
    refine gc_isub dX9_said_34 ?_
    exact go_iret dX9_said_35 rfl (Nat.le_refl _) (Nat.le_refl _) ⟨_, rfl, h⟩
  · have h := h.2 hc
    refine gc_aload_n dX9_said_18 rfl ?_
    refine gc_iload_n dX9_said_19 rfl ?_
    refine gc_iload_n dX9_said_20 rfl ?_
    refine gc_iload dX9_said_21 rfl ?_
    refine go_cVU (y := M_X9_drops) (As := [.int p0, .int p1, .int p3]) (rest := []) dX9_said_23 lm_X9_153 ok_X9_drops (by decide) (sz_lt (by decide)) kd_82 rfl rfl (w_X9_drops X 12 p0 p1 p3 m_11 _ h) rfl (Nat.le_of_ble_eq_true rfl) (fun m_23 h => ?_)
    refine gc_aload_n dX9_said_26 rfl ?_
    refine go_getR dX9_said_27 lg_X9_9 (sz_lt (by decide)) kd_82 rfl ?_
    refine gc_iconst (v := 3) dX9_said_30 (by decide) ?_
    refine go_iald 3 dX9_said_31 kd_83 rfl (by decide) ?_
    refine gc_iload dX9_said_32 rfl ?_
    refine gc_isub dX9_said_34 ?_
    exact go_iret dX9_said_35 rfl (Nat.le_refl _) (Nat.le_refl _) ⟨_, rfl, h⟩
def W_X9_says (p0 : Int32) (p1 : Int32) (p2 : Int32) (p3 : Int32) (mem : Mm) (K : Int32 → Mm → Prop) : Prop := W_X9_isMan p0 mem (fun v_2 m_2 => ((bZ v_2) = 0 → (K (-1000000001) m_2)) ∧ (¬ (bZ v_2) = 0 → (W_X9_isTopic p1 m_2 (fun v_9 m_9 => ((bZ v_9) = 0 → (K (-1000000001) m_9)) ∧ (¬ (bZ v_9) = 0 → (W_X9_in p2 0 99 m_9 (fun v_19 m_19 => ((bZ v_19) = 0 → (K (-1000000001) m_19)) ∧ (¬ (bZ v_19) = 0 → (W_X9_in p3 (-1) 1 m_19 (fun v_29 m_29 => (¬ (bZ v_29) = 0 → (W_X9_doesStand p0 m_29 (fun v_40 m_40 => ((bZ v_40) = 0 → (K (-1000000002) m_40)) ∧ (¬ (bZ v_40) = 0 → (W_X9_said p0 p1 p2 p3 m_40 (fun v_52 m_52 => K v_52 m_52)))))) ∧ ((bZ v_29) = 0 → (K (-1000000001) m_29))))))))))))
set_option maxRecDepth 100000 in
set_option maxHeartbeats 4000000 in
theorem w_X9_says (X : CX) (p0 : Int32) (p1 : Int32) (p2 : Int32) (p3 : Int32) (mem : Mm) (K : Int32 → Mm → Prop) (h : W_X9_says p0 p1 p2 p3 mem K) : CallsI X 18 M_X9_says [.ref (cx_n X + 82), .int p0, .int p1, .int p2, .int p3] mem K := by
  unfold W_X9_says at h
  refine CallsC.ofP 0 (by decide) rfl (Nat.le_of_ble_eq_true rfl) ?_
  refine gc_aload_n dX9_says_0 rfl ?_
  refine gc_iload_n dX9_says_1 rfl ?_
  refine go_cVZ (y := M_X9_isMan) (As := [.int p0]) (rest := []) dX9_says_2 lm_X9_85 ok_X9_isMan (by decide) (sz_lt (by decide)) kd_82 rfl rfl (w_X9_isMan X p0 mem _ h) rfl (Nat.le_of_ble_eq_true rfl) (fun v_2 m_2 h => ?_)
  refine gc_if_eq 35 dX9_says_5 (by decide) (fun hc => ?_) (fun hc => ?_)
  · have h := h.1 hc
    refine gc_ldc (v := (-1000000001)) dX9_says_35 lk_X9_121 ?_
    exact go_iret dX9_says_37 rfl (Nat.le_refl _) (Nat.le_refl _) ⟨_, rfl, h⟩
  · have h := h.2 hc
    refine gc_iload_n dX9_says_8 rfl ?_
    refine go_cSZ (y := M_X9_isTopic) (As := [.int p1]) (rest := []) dX9_says_9 lm_X9_118 ok_X9_isTopic (by decide) (w_X9_isTopic X p1 m_2 _ h) rfl (Nat.le_of_ble_eq_true rfl) (fun v_9 m_9 h => ?_)
    refine gc_if_eq 35 dX9_says_12 (by decide) (fun hc => ?_) (fun hc => ?_)
    · have h := h.1 hc
      refine gc_ldc (v := (-1000000001)) dX9_says_35 lk_X9_121 ?_
      exact go_iret dX9_says_37 rfl (Nat.le_refl _) (Nat.le_refl _) ⟨_, rfl, h⟩
    · have h := h.2 hc
      refine gc_iload_n dX9_says_15 rfl ?_
      refine gc_iconst (v := 0) dX9_says_16 (by decide) ?_
      refine gc_bipush (v := 99) dX9_says_17 (by decide) ?_
      refine go_cSZ (y := M_X9_in) (As := [.int p2, .int 0, .int 99]) (rest := []) dX9_says_19 lm_X9_81 ok_X9_in (by decide) (w_X9_in X p2 0 99 m_9 _ h) rfl (Nat.le_of_ble_eq_true rfl) (fun v_19 m_19 h => ?_)
      refine gc_if_eq 35 dX9_says_22 (by decide) (fun hc => ?_) (fun hc => ?_)
      · have h := h.1 hc
        refine gc_ldc (v := (-1000000001)) dX9_says_35 lk_X9_121 ?_
        exact go_iret dX9_says_37 rfl (Nat.le_refl _) (Nat.le_refl _) ⟨_, rfl, h⟩
      · have h := h.2 hc
        refine gc_iload dX9_says_25 rfl ?_
        refine gc_iconst (v := (-1)) dX9_says_27 (by decide) ?_
        refine gc_iconst (v := 1) dX9_says_28 (by decide) ?_
        refine go_cSZ (y := M_X9_in) (As := [.int p3, .int (-1), .int 1]) (rest := []) dX9_says_29 lm_X9_81 ok_X9_in (by decide) (w_X9_in X p3 (-1) 1 m_19 _ h) rfl (Nat.le_of_ble_eq_true rfl) (fun v_29 m_29 h => ?_)
        refine gc_if_ne 38 dX9_says_32 (by decide) (fun hc => ?_) (fun hc => ?_)
        · have h := h.1 hc
          refine gc_aload_n dX9_says_38 rfl ?_
          refine gc_iload_n dX9_says_39 rfl ?_
          refine go_cVZ (y := M_X9_doesStand) (As := [.int p0]) (rest := []) dX9_says_40 lm_X9_150 ok_X9_doesStand (by decide) (sz_lt (by decide)) kd_82 rfl rfl (w_X9_doesStand X p0 m_29 _ h) rfl (Nat.le_of_ble_eq_true rfl) (fun v_40 m_40 h => ?_)
          refine gc_if_eq 58 dX9_says_43 (by decide) (fun hc => ?_) (fun hc => ?_)
          · have h := h.1 hc
            refine gc_ldc (v := (-1000000002)) dX9_says_58 lk_X9_162 ?_
            exact go_iret dX9_says_60 rfl (Nat.le_refl _) (Nat.le_refl _) ⟨_, rfl, h⟩
          · have h := h.2 hc
            refine gc_aload_n dX9_says_46 rfl ?_
            refine gc_iload_n dX9_says_47 rfl ?_
            refine gc_iload_n dX9_says_48 rfl ?_
            refine gc_iload_n dX9_says_49 rfl ?_
            refine gc_iload dX9_says_50 rfl ?_
            refine go_cVI (y := M_X9_said) (As := [.int p0, .int p1, .int p2, .int p3]) (rest := []) dX9_says_52 lm_X9_159 ok_X9_said (by decide) (sz_lt (by decide)) kd_82 rfl rfl (w_X9_said X p0 p1 p2 p3 m_40 _ h) rfl (Nat.le_of_ble_eq_true rfl) (fun v_52 m_52 h => ?_)
            refine gc_goto 60 dX9_says_55 (by decide) ?_
            exact go_iret dX9_says_60 rfl (Nat.le_refl _) (Nat.le_refl _) ⟨_, rfl, h⟩
        · have h := h.2 hc
          refine gc_ldc (v := (-1000000001)) dX9_says_35 lk_X9_121 ?_
          exact go_iret dX9_says_37 rfl (Nat.le_refl _) (Nat.le_refl _) ⟨_, rfl, h⟩
def L_X9_setsUp_2  (K : Mm → Prop) : Nat → Int32 → Mm → Prop
  | 0, _, _ => False
  | n + 1, l1, mem => ((mem 83 1) ≤ l1 → (∀ m_31 : Mm, m_31 = mu mem 83 5 0 → (∀ m_41 : Mm, m_41 = mu m_31 83 4 ((m_31 83 4) + 1) → (K m_41)))) ∧ (¬ (mem 83 1) ≤ l1 → (W_X9_put l1 5 0 mem (fun m_16 => L_X9_setsUp_2   K n (l1 + 1) m_16)))
set_option maxRecDepth 100000 in
set_option maxHeartbeats 4000000 in
theorem l_X9_setsUp_2 (X : CX)   (K : Mm → Prop) : ∀ (n : Nat) (l1 : Int32) (mem : Mm), L_X9_setsUp_2    K n l1 mem → GoC X 1 0 0 M_X9_setsUp 2 [some (.ref (cx_n X + 82)), some (.int l1)] [] 0 0 (cellAt X mem) (sz mem) (qm X (fun r m => r = none ∧ K m))
  := by
  intro n
  induction n with
  | zero => intro l1 mem h; exact h.elim
  | succ n ih =>
    intro l1 mem h
    unfold L_X9_setsUp_2 at h
    refine gc_iload_n dX9_setsUp_2 rfl ?_
    refine gc_aload_n dX9_setsUp_3 rfl ?_
    refine go_getR dX9_setsUp_4 lg_X9_9 (sz_lt (by decide)) kd_82 rfl ?_
    refine gc_iconst (v := 1) dX9_setsUp_7 (by decide) ?_
    refine go_iald 1 dX9_setsUp_8 kd_83 rfl (by decide) ?_
    refine gc_icmp_ge 25 dX9_setsUp_9 (by decide) (fun hc => ?_) (fun hc => ?_)
    · have h := h.1 hc
      refine gc_aload_n dX9_setsUp_25 rfl ?_
      refine go_getR dX9_setsUp_26 lg_X9_9 (sz_lt (by decide)) kd_82 rfl ?_
      refine gc_iconst (v := 5) dX9_setsUp_29 (by decide) ?_
      refine gc_iconst (v := 0) dX9_setsUp_30 (by decide) ?_
      refine go_iast_ 5 dX9_setsUp_31 kd_83 rfl (by decide) (by decide) (fun m_31 em_31 => ?_)
      have h := h m_31 em_31
      refine gc_aload_n dX9_setsUp_32 rfl ?_
      refine go_getR dX9_setsUp_33 lg_X9_9 (sz_lt (by decide)) kd_82 rfl ?_
      refine gc_iconst (v := 4) dX9_setsUp_36 (by decide) ?_
      refine gc_dup2 dX9_setsUp_37 rfl rfl ?_
      refine go_iald 4 dX9_setsUp_38 kd_83 rfl (by decide) ?_
      refine gc_iconst (v := 1) dX9_setsUp_39 (by decide) ?_
      refine gc_iadd dX9_setsUp_40 ?_
      refine go_iast_ 4 dX9_setsUp_41 kd_83 rfl (by decide) (by decide) (fun m_41 em_41 => ?_)
      have h := h m_41 em_41
      exact go_vret dX9_setsUp_42 rfl (Nat.le_refl _) (Nat.le_refl _) ⟨rfl, h⟩
    · have h := h.2 hc
      refine gc_aload_n dX9_setsUp_12 rfl ?_
      refine gc_iload_n dX9_setsUp_13 rfl ?_
      refine gc_iconst (v := 5) dX9_setsUp_14 (by decide) ?_
      refine gc_iconst (v := 0) dX9_setsUp_15 (by decide) ?_
      refine go_cVU (y := M_X9_put) (As := [.int l1, .int 5, .int 0]) (rest := []) dX9_setsUp_16 lm_X9_114 ok_X9_put (by decide) (sz_lt (by decide)) kd_82 rfl rfl (w_X9_put X l1 5 0 mem _ h) rfl (Nat.le_of_ble_eq_true rfl) (fun m_16 h => ?_)
      refine gc_iinc (v := l1 + 1) dX9_setsUp_19 rfl rfl (by decide) ?_
      refine gc_goto 2 dX9_setsUp_22 (by decide) ?_
      exact ih (l1 + 1) m_16  h
def W_X9_setsUp  (mem : Mm) (K : Mm → Prop) : Prop := ∃ nz : Nat, L_X9_setsUp_2    K nz 0 mem
set_option maxRecDepth 100000 in
set_option maxHeartbeats 4000000 in
theorem w_X9_setsUp (X : CX)  (mem : Mm) (K : Mm → Prop) (h : W_X9_setsUp  mem K) : CallsU X 1 M_X9_setsUp [.ref (cx_n X + 82)] mem K := by
  unfold W_X9_setsUp at h
  refine CallsC.ofP 1 (by decide) rfl (Nat.le_of_ble_eq_true rfl) ?_
  refine gc_iconst (v := 0) dX9_setsUp_0 (by decide) ?_
  refine gc_istore_n dX9_setsUp_1 (by decide) ?_
  obtain ⟨n9, h⟩ := h
  exact l_X9_setsUp_2 X     K   n9 0 mem  h
def W_X9_sets  (mem : Mm) (K : Int32 → Mm → Prop) : Prop := W_X9_standing  mem (fun v_7 m_7 => W_X9_bits v_7 m_7 (fun v_10 m_10 => W_X9_setsUp  m_10 (fun m_16 => K ((mem 83 1) - v_10) m_16)))
set_option maxRecDepth 100000 in
set_option maxHeartbeats 4000000 in
theorem w_X9_sets (X : CX)  (mem : Mm) (K : Int32 → Mm → Prop) (h : W_X9_sets  mem K) : CallsI X 2 M_X9_sets [.ref (cx_n X + 82)] mem K := by
  unfold W_X9_sets at h
  refine CallsC.ofP 1 (by decide) rfl (Nat.le_of_ble_eq_true rfl) ?_
  refine gc_aload_n dX9_sets_0 rfl ?_
  refine go_getR dX9_sets_1 lg_X9_9 (sz_lt (by decide)) kd_82 rfl ?_
  refine gc_iconst (v := 1) dX9_sets_4 (by decide) ?_
  refine go_iald 1 dX9_sets_5 kd_83 rfl (by decide) ?_
  refine gc_aload_n dX9_sets_6 rfl ?_
  refine go_cVI (y := M_X9_standing) (As := []) (rest := [.int (mem 83 1)]) dX9_sets_7 lm_X9_97 ok_X9_standing (by decide) (sz_lt (by decide)) kd_82 rfl rfl (w_X9_standing X  mem _ h) rfl (Nat.le_of_ble_eq_true rfl) (fun v_7 m_7 h => ?_)
  refine go_cSI (y := M_X9_bits) (As := [.int v_7]) (rest := [.int (mem 83 1)]) dX9_sets_10 lm_X9_101 ok_X9_bits (by decide) (w_X9_bits X v_7 m_7 _ h) rfl (Nat.le_of_ble_eq_true rfl) (fun v_10 m_10 h => ?_)
  refine gc_isub dX9_sets_13 ?_
  refine gc_istore_n dX9_sets_14 (by decide) ?_
  refine gc_aload_n dX9_sets_15 rfl ?_
  refine go_cVU (y := M_X9_setsUp) (As := []) (rest := []) dX9_sets_16 lm_X9_163 ok_X9_setsUp (by decide) (sz_lt (by decide)) kd_82 rfl rfl (w_X9_setsUp X  m_10 _ h) rfl (Nat.le_of_ble_eq_true rfl) (fun m_16 h => ?_)
  refine gc_iload_n dX9_sets_19 rfl ?_
  exact go_iret dX9_sets_20 rfl (Nat.le_refl _) (Nat.le_refl _) ⟨_, rfl, h⟩
def W_X9_draw  (mem : Mm) (K : Int32 → Mm → Prop) : Prop := ∀ m_18 : Mm, m_18 = mu mem 83 0 (((mem 83 0) * 1103515245) + 12345) → (K (((m_18 83 0).toUInt32 >>> (Int32.toUInt32 8 &&& Int32.toUInt32 31)).toInt32) m_18)
set_option maxRecDepth 100000 in
set_option maxHeartbeats 4000000 in
theorem w_X9_draw (X : CX)  (mem : Mm) (K : Int32 → Mm → Prop) (h : W_X9_draw  mem K) : CallsI X 0 M_X9_draw [.ref (cx_n X + 82)] mem K := by
  unfold W_X9_draw at h
  refine CallsC.ofP 0 (by decide) rfl (Nat.le_of_ble_eq_true rfl) ?_
  refine gc_aload_n dX9_draw_0 rfl ?_
  refine go_getR dX9_draw_1 lg_X9_9 (sz_lt (by decide)) kd_82 rfl ?_
  refine gc_iconst (v := 0) dX9_draw_4 (by decide) ?_
  refine gc_aload_n dX9_draw_5 rfl ?_
  refine go_getR dX9_draw_6 lg_X9_9 (sz_lt (by decide)) kd_82 rfl ?_
  refine gc_iconst (v := 0) dX9_draw_9 (by decide) ?_
  refine go_iald 0 dX9_draw_10 kd_83 rfl (by decide) ?_
  refine gc_ldc (v := 1103515245) dX9_draw_11 lk_X9_166 ?_
  refine gc_imul dX9_draw_13 ?_
  refine gc_sipush (v := 12345) dX9_draw_14 (by decide) ?_
  refine gc_iadd dX9_draw_17 ?_
  refine go_iast_ 0 dX9_draw_18 kd_83 rfl (by decide) (by decide) (fun m_18 em_18 => ?_)
  have h := h m_18 em_18
  refine gc_aload_n dX9_draw_19 rfl ?_
  refine go_getR dX9_draw_20 lg_X9_9 (sz_lt (by decide)) kd_82 rfl ?_
  refine gc_iconst (v := 0) dX9_draw_23 (by decide) ?_
  refine go_iald 0 dX9_draw_24 kd_83 rfl (by decide) ?_
  refine gc_bipush (v := 8) dX9_draw_25 (by decide) ?_
  refine gc_iushr dX9_draw_27 ?_
  exact go_iret dX9_draw_28 rfl (Nat.le_refl _) (Nat.le_refl _) ⟨_, rfl, h⟩
def L_X9_deal_15 (p0 : Int32) (K : Int32 → Mm → Prop) : Nat → Int32 → Int32 → Mm → Prop
  | 0, _, _, _ => False
  | n + 1, l1, l2, mem => (l1 ≤ l2 → (K l2 mem)) ∧ (¬ l1 ≤ l2 → ((9 ≤ (mem 83 1) → (K l2 mem)) ∧ (¬ 9 ≤ (mem 83 1) → (W_X9_draw  mem (fun v_32 m_32 => W_X9_draw  m_32 (fun v_40 m_40 => W_X9_draw  m_40 (fun v_49 m_49 => W_X9_draw  m_49 (fun v_64 m_64 => W_X9_comes (v_32 - v_32 / 6 * 6) (v_40 - v_40 / 100 * 100) (v_49 - v_49 / 100 * 100) (v_64 - v_64 / 8 * 8) m_64 (fun v_70 m_70 => L_X9_deal_15 p0  K n l1 (l2 + 1) m_70)))))))))
set_option maxRecDepth 100000 in
set_option maxHeartbeats 4000000 in
theorem l_X9_deal_15 (X : CX) (p0 : Int32)  (K : Int32 → Mm → Prop) : ∀ (n : Nat) (l1 : Int32) (l2 : Int32) (mem : Mm), L_X9_deal_15 p0   K n l1 l2 mem → GoC X 2 0 0 M_X9_deal 15 [some (.ref (cx_n X + 82)), some (.int l1), some (.int l2), none, none, none, none] [] 0 0 (cellAt X mem) (sz mem) (qm X (fun r m => ∃ v : Int32, r = some (.int v) ∧ K v m))
  := by
  intro n
  induction n with
  | zero => intro l1 l2 mem h; exact h.elim
  | succ n ih =>
    intro l1 l2 mem h
    unfold L_X9_deal_15 at h
    refine gc_iload_n dX9_deal_15 rfl ?_
    refine gc_iload_n dX9_deal_16 rfl ?_
    refine gc_icmp_ge 81 dX9_deal_17 (by decide) (fun hc => ?_) (fun hc => ?_)
    · have h := h.1 hc
      refine gc_iload_n dX9_deal_81 rfl ?_
      exact go_iret dX9_deal_82 rfl (Nat.le_refl _) (Nat.le_refl _) ⟨_, rfl, h⟩
    · have h := h.2 hc
      refine gc_aload_n dX9_deal_20 rfl ?_
      refine go_getR dX9_deal_21 lg_X9_9 (sz_lt (by decide)) kd_82 rfl ?_
      refine gc_iconst (v := 1) dX9_deal_24 (by decide) ?_
      refine go_iald 1 dX9_deal_25 kd_83 rfl (by decide) ?_
      refine gc_bipush (v := 9) dX9_deal_26 (by decide) ?_
      refine gc_icmp_ge 81 dX9_deal_28 (by decide) (fun hc => ?_) (fun hc => ?_)
      · have h := h.1 hc
        refine gc_iload_n dX9_deal_81 rfl ?_
        exact go_iret dX9_deal_82 rfl (Nat.le_refl _) (Nat.le_refl _) ⟨_, rfl, h⟩
      · have h := h.2 hc
        refine gc_aload_n dX9_deal_31 rfl ?_
        refine go_cVI (y := M_X9_draw) (As := []) (rest := []) dX9_deal_32 lm_X9_167 ok_X9_draw (by decide) (sz_lt (by decide)) kd_82 rfl rfl (w_X9_draw X  mem _ h) rfl (Nat.le_of_ble_eq_true rfl) (fun v_32 m_32 h => ?_)
        refine gc_bipush (v := 6) dX9_deal_35 (by decide) ?_
        refine gc_irem dX9_deal_37 (by decide) ?_
        refine gc_istore_n dX9_deal_38 (by decide) ?_
        refine gc_aload_n dX9_deal_39 rfl ?_
        refine go_cVI (y := M_X9_draw) (As := []) (rest := []) dX9_deal_40 lm_X9_167 ok_X9_draw (by decide) (sz_lt (by decide)) kd_82 rfl rfl (w_X9_draw X  m_32 _ h) rfl (Nat.le_of_ble_eq_true rfl) (fun v_40 m_40 h => ?_)
        refine gc_bipush (v := 100) dX9_deal_43 (by decide) ?_
        refine gc_irem dX9_deal_45 (by decide) ?_
        refine gc_istore dX9_deal_46 (by decide) ?_
        refine gc_aload_n dX9_deal_48 rfl ?_
        refine go_cVI (y := M_X9_draw) (As := []) (rest := []) dX9_deal_49 lm_X9_167 ok_X9_draw (by decide) (sz_lt (by decide)) kd_82 rfl rfl (w_X9_draw X  m_40 _ h) rfl (Nat.le_of_ble_eq_true rfl) (fun v_49 m_49 h => ?_)
        refine gc_bipush (v := 100) dX9_deal_52 (by decide) ?_
        refine gc_irem dX9_deal_54 (by decide) ?_
        refine gc_istore dX9_deal_55 (by decide) ?_
        refine gc_aload_n dX9_deal_57 rfl ?_
        refine gc_iload_n dX9_deal_58 rfl ?_
        refine gc_iload dX9_deal_59 rfl ?_
        refine gc_iload dX9_deal_61 rfl ?_
        refine gc_aload_n dX9_deal_63 rfl ?_
        refine go_cVI (y := M_X9_draw) (As := []) (rest := [.int (v_49 - v_49 / 100 * 100), .int (v_40 - v_40 / 100 * 100), .int (v_32 - v_32 / 6 * 6), .ref (cx_n X + 82)]) dX9_deal_64 lm_X9_167 ok_X9_draw (by decide) (sz_lt (by decide)) kd_82 rfl rfl (w_X9_draw X  m_49 _ h) rfl (Nat.le_of_ble_eq_true rfl) (fun v_64 m_64 h => ?_)
        refine gc_bipush (v := 8) dX9_deal_67 (by decide) ?_
        refine gc_irem dX9_deal_69 (by decide) ?_
        refine go_cVI (y := M_X9_comes) (As := [.int (v_32 - v_32 / 6 * 6), .int (v_40 - v_40 / 100 * 100), .int (v_49 - v_49 / 100 * 100), .int (v_64 - v_64 / 8 * 8)]) (rest := []) dX9_deal_70 lm_X9_123 ok_X9_comes (by decide) (sz_lt (by decide)) kd_82 rfl rfl (w_X9_comes X (v_32 - v_32 / 6 * 6) (v_40 - v_40 / 100 * 100) (v_49 - v_49 / 100 * 100) (v_64 - v_64 / 8 * 8) m_64 _ h) rfl (Nat.le_of_ble_eq_true rfl) (fun v_70 m_70 h => ?_)
        refine gc_istore dX9_deal_73 (by decide) ?_
        refine gc_iinc (v := l2 + 1) dX9_deal_75 rfl rfl (by decide) ?_
        refine gc_goto 15 dX9_deal_78 (by decide) ?_
        refine gc_forget 3 ?_
        refine gc_forget 4 ?_
        refine gc_forget 5 ?_
        refine gc_forget 6 ?_
        exact ih l1 (l2 + 1) m_70  h
def W_X9_deal (p0 : Int32) (mem : Mm) (K : Int32 → Mm → Prop) : Prop := W_X9_in p0 1 9 mem (fun v_4 m_4 => (¬ (bZ v_4) = 0 → (∃ nz : Nat, L_X9_deal_15 p0   K nz p0 0 m_4)) ∧ ((bZ v_4) = 0 → (K (-1000000001) m_4)))
set_option maxRecDepth 100000 in
set_option maxHeartbeats 4000000 in
theorem w_X9_deal (X : CX) (p0 : Int32) (mem : Mm) (K : Int32 → Mm → Prop) (h : W_X9_deal p0 mem K) : CallsI X 2 M_X9_deal [.ref (cx_n X + 82), .int p0] mem K := by
  unfold W_X9_deal at h
  refine CallsC.ofP 5 (by decide) rfl (Nat.le_of_ble_eq_true rfl) ?_
  refine gc_iload_n dX9_deal_0 rfl ?_
  refine gc_iconst (v := 1) dX9_deal_1 (by decide) ?_
  refine gc_bipush (v := 9) dX9_deal_2 (by decide) ?_
  refine go_cSZ (y := M_X9_in) (As := [.int p0, .int 1, .int 9]) (rest := []) dX9_deal_4 lm_X9_81 ok_X9_in (by decide) (w_X9_in X p0 1 9 mem _ h) rfl (Nat.le_of_ble_eq_true rfl) (fun v_4 m_4 h => ?_)
  refine gc_if_ne 13 dX9_deal_7 (by decide) (fun hc => ?_) (fun hc => ?_)
  · have h := h.1 hc
    refine gc_iconst (v := 0) dX9_deal_13 (by decide) ?_
    refine gc_istore_n dX9_deal_14 (by decide) ?_
    obtain ⟨n9, h⟩ := h
    exact l_X9_deal_15 X p0    K   n9 p0 0 m_4  h
  · have h := h.2 hc
    refine gc_ldc (v := (-1000000001)) dX9_deal_10 lk_X9_121 ?_
    exact go_iret dX9_deal_12 rfl (Nat.le_refl _) (Nat.le_refl _) ⟨_, rfl, h⟩
