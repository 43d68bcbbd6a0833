/-! a new text: three cells more -/
def muT (m : Mm) (key : Int32) (p c : Nat) : Mm := fun q =>
  if q = 106 + 3 * nTx m then (fun j => if j = 0 then key else if j = 1 then nI p else 0)
  else if q = 106 + 3 * nTx m + 1 then (fun j => if j = 1000 then nI c else if j < c then m 49 j else 0)
  else if q = 106 + 3 * nTx m + 2 then (fun j => if j = 1000 then nI (max 1 p) else 0)
  else if q = 0 then upd (m 0) 1000 (nI (nTx m + 1)) else m q
theorem nTx_muT {m : Mm} {key : Int32} {p c : Nat} (h : nTx m ≤ 100000) : nTx (muT m key p c) = nTx m + 1 := by
  have e : muT m key p c 0 1000 = nI (nTx m + 1) := by
    simp only [muT]
    rw [if_neg (by omega), if_neg (by omega), if_neg (by omega)]
    simp [upd]
  show (muT m key p c 0 1000).toNatClampNeg = _
  rw [e]
  exact nI_clamp (by omega)
theorem cell_0u (X : CX) (row : Nat → Int32) (v : Int32) : cellR X (upd row 1000 v) 0 = cellR X row 0 := by
  simp only [cellR, kd_0]
  congr 2
theorem HRc.text {X : CX} {m : Mm} {key : Int32} {p c : Nat} {ce : Nat → va_E} {H : Heap} (hT : nTx m ≤ 100000) (hp : p ≤ 100) (hc : c < 96) (h : HRc X ce (sz m + 1 + 1 + 1) H)
    (h0 : ∀ q, q < sz m → ce q = cellAt X m q) (h1 : ce (sz m) = .inr (6, [.int key, .int (nI p), .ref (cx_n X + (sz m + 1)), .ref (cx_n X + (sz m + 1 + 1))])) (h2 : ce (sz m + 1) = .inl (cx_a X 0, c, .inl (va_cpy (m 49) (fun _ => 0) 0 0 c))) (h3 : ce (sz m + 1 + 1) = .inl (cx_a X 0, max 1 p, .inl (fun _ => 0))) :
    HRc X (cellAt X (muT m key p c)) (sz (muT m key p c)) H := by
  have hz : sz (muT m key p c) = sz m + 1 + 1 + 1 := by
    unfold sz
    rw [nTx_muT hT]
    omega
  have hs : sz m = 106 + 3 * nTx m := rfl
  refine ⟨by rw [hz]; exact h.1, fun q hq => ?_⟩
  rw [hz] at hq
  have hat := h.2 q hq
  by_cases q0 : q < sz m
  · rw [h0 q q0] at hat
    have e : cellAt X (muT m key p c) q = cellAt X m q := by
      have r1 : ¬ q = 106 + 3 * nTx m := by omega
      have r2 : ¬ q = 106 + 3 * nTx m + 1 := by omega
      have r3 : ¬ q = 106 + 3 * nTx m + 2 := by omega
      by_cases z : q = 0
      · subst z
        show cellR X (muT m key p c 0) 0 = cellR X (m 0) 0
        have e9 : muT m key p c 0 = upd (m 0) 1000 (nI (nTx m + 1)) := by
          simp only [muT]
          rw [if_neg r1, if_neg r2, if_neg r3]
          simp
        rw [e9]
        exact cell_0u X _ _
      · have e9 : muT m key p c q = m q := by
          simp only [muT]
          rw [if_neg r1, if_neg r2, if_neg r3, if_neg z]
        simp only [cellAt, e9]
    rw [e]
    exact hat
  · by_cases q1 : q = sz m
    · subst q1
      rw [h1] at hat
      have e : cellAt X (muT m key p c) (sz m) = .inr (6, [.int key, .int (nI p), .ref (cx_n X + (sz m + 1)), .ref (cx_n X + (sz m + 1 + 1))]) := by
        have hk : kd (sz m) = (0, 6, 0) := kd_tx (nTx m)
        rw [cell_ob hk]
        have e9 : muT m key p c (sz m) = (fun j => if j = 0 then key else if j = 1 then nI p else 0) := by
          simp only [muT]
          rw [if_pos hs]
        rw [e9]
        rfl
      rw [e]
      exact hat
    · by_cases q2 : q = sz m + 1
      · subst q2
        rw [h2] at hat
        have hk : kd (sz m + 1) = (4, 0, 0) := kd_t1 (nTx m)
        have e9 : muT m key p c (sz m + 1) = (fun j => if j = 1000 then nI c else if j < c then m 49 j else 0) := by
          simp only [muT]
          rw [if_neg (by omega), if_pos (by omega)]
        rw [cell_dy hk, e9]
        have e8 : (nI c).toNatClampNeg = c := nI_clamp (by omega)
        show va_at _ _ (_, .inl (cx_a X 0, (nI c).toNatClampNeg, _)) H
        rw [e8]
        refine va_at_ext hat fun j hj => ?_
        have h9 : ¬ j = 1000 := by omega
        simp [va_cpy, hj, h9]
      · have q3 : q = sz m + 1 + 1 := by omega
        subst q3
        rw [h3] at hat
        have hk : kd (sz m + 1 + 1) = (4, 0, 0) := kd_t2 (nTx m)
        have e9 : muT m key p c (sz m + 1 + 1) = (fun j => if j = 1000 then nI (max 1 p) else 0) := by
          simp only [muT]
          rw [if_neg (by omega), if_neg (by omega), if_pos (by omega)]
        rw [cell_dy hk, e9]
        have e8 : (nI (max 1 p)).toNatClampNeg = max 1 p := nI_clamp (by omega)
        show va_at _ _ (_, .inl (cx_a X 0, (nI (max 1 p)).toNatClampNeg, _)) H
        rw [e8]
        refine va_at_ext hat fun j hj => ?_
        have h9 : ¬ j = 1000 := by omega
        simp [h9]
section GTX
variable {X : CX} {d mc ms : Nat} {M : MT} {pc : Nat} {lc : List (Option Value)} {st : List Value} {cn sn : Nat} {mem : Mm} {Q : Option Value → (Nat → va_E) → Nat → Prop} {ce : Nat → va_E} {N : Nat}
theorem gc_getIc {index k c z j : Nat} (hd : decode M.2.1 pc = .ok (.getfield index, 3)) (hf : LkG M.1.cls index c j) (hN : k < N) (he : ce k = cellAt X mem k) (hkd : kd k = (0, c, z)) (ht : tg c k j = none) (kt : GoC X d mc ms M (pc + 3) lc (.int (mem k j) :: st) cn sn ce N Q) : GoC X d mc ms M pc lc (.ref (cx_n X + k) :: st) cn sn ce N Q := by
  obtain ⟨C, T, Nf, h1, h2, h3⟩ := hf
  refine gc_get hd h3 hN (he.trans (cell_ob hkd)) h1 h2 ?_ kt
  rw [flds_get _ _ _ _ (by rw [vw_nf h1]; exact h2)]
  simp [fldV, ht]
theorem gc_getRc {index k c z j a : Nat} (hd : decode M.2.1 pc = .ok (.getfield index, 3)) (hf : LkG M.1.cls index c j) (hN : k < N) (he : ce k = cellAt X mem k) (hkd : kd k = (0, c, z)) (ht : tg c k j = some a) (kt : GoC X d mc ms M (pc + 3) lc (.ref (cx_n X + a) :: st) cn sn ce N Q) : GoC X d mc ms M pc lc (.ref (cx_n X + k) :: st) cn sn ce N Q := by
  obtain ⟨C, T, Nf, h1, h2, h3⟩ := hf
  refine gc_get hd h3 hN (he.trans (cell_ob hkd)) h1 h2 ?_ kt
  rw [flds_get _ _ _ _ (by rw [vw_nf h1]; exact h2)]
  simp [fldV, ht]
end GTX
def W_X7_made (mem : Mm) (K : Nat → Mm → Prop) : Prop := W_X7_popSignsFrom 1 mem (fun m => ∃ p c : Nat, m 45 7 = nI p ∧ p ≤ 90 ∧ m 45 13 = nI c ∧ c < 96 ∧ nTx m ≤ 100000 ∧ ∀ m1 : Mm, m1 = muT m (m 45 6) p c → K (nTx m) m1)
set_option maxRecDepth 100000 in
set_option maxHeartbeats 4000000 in
theorem w_X7_made (X : CX) (mem : Mm) (K : Nat → Mm → Prop) (h : W_X7_made mem K) : Calls X 3 3 200 M_X7_made [.ref (cx_n X + 45)] mem (fun r m => ∃ j : Nat, r = some (.ref (cx_n X + (106 + 3 * j))) ∧ K j m) := by
  unfold W_X7_made at h
  refine CallsC.ofP 0 (by decide) rfl (Nat.le_of_ble_eq_true rfl) ?_
  refine gc_aload_n dX7_made_0 rfl ?_
  refine gc_iconst (v := 1) dX7_made_1 (by decide) ?_
  refine go_callV (mc' := 0) (ms' := 0) (y := M_X7_popSignsFrom) (As := [.int 1]) (rest := []) dX7_made_2 lm_X7_77 ok_X7_popSignsFrom (by decide) (by decide) (by decide) (sz_lt (by decide)) kd_45 rfl rfl rfl (Nat.le_of_ble_eq_true rfl) (w_X7_popSignsFrom X 1 mem _ h) (fun r m hq => ?_)
  obtain ⟨rfl, p, c, hp, hp2, hc, hc2, hT, h⟩ := hq
  have h := h _ rfl
  refine gc_new (ci := 6) (C := RX6) (T := TX6) (Nf := 4) (fs := [.int 0, .int 0, .null, .null]) tyX6 tyX6_ok dX7_made_5 lc_X7_81 li_X6 lz_X6 rfl (fun j hj => by rcases (show j = 0 ∨ j = 1 ∨ j = 2 ∨ j = 3 by omega) with rfl | rfl | rfl | rfl <;> rfl) (by decide) (by decide) ?_
  refine gc_dup dX7_made_8 rfl ?_
  have h45 : (45 : Nat) < sz m := sz_lt (by decide)
  have h49 : (49 : Nat) < sz m := sz_lt (by decide)
  have e45 : ceU (cellAt X m) (sz m) (.inr (6, [.int 0, .int 0, .null, .null])) 45 = cellAt X m 45 := ceU_n _ _ _ (by omega)
  have e49 : ceU (cellAt X m) (sz m) (.inr (6, [.int 0, .int 0, .null, .null])) 49 = .inl (cx_a X 0, 96, .inl (m 49)) := (ceU_n _ _ _ (by omega)).trans (cell_ar kd_49)
  refine gc_aload_n dX7_made_9 rfl ?_
  refine gc_getIc (mem := m) dX7_made_10 lg_X7_35 (Nat.lt_succ_of_lt h45) e45 kd_45 rfl ?_
  refine gc_aload_n dX7_made_13 rfl ?_
  refine gc_getIc (mem := m) dX7_made_14 lg_X7_38 (Nat.lt_succ_of_lt h45) e45 kd_45 rfl ?_
  refine gc_aload_n dX7_made_17 rfl ?_
  refine gc_getRc (mem := m) dX7_made_18 lg_X7_54 (Nat.lt_succ_of_lt h45) e45 kd_45 rfl ?_
  refine gc_aload_n dX7_made_21 rfl ?_
  refine gc_getIc (mem := m) dX7_made_22 lg_X7_57 (Nat.lt_succ_of_lt h45) e45 kd_45 rfl ?_
  rw [hc]
  refine gc_callS (d' := 1) (mc' := 1) (ms' := c) (y := M_J7_copyOf_59c91) (As := [.ref (cx_n X + 49), .int (nI c)]) (rest := [.int (m 45 7), .int (m 45 6), .ref (cx_n X + sz m), .ref (cx_n X + sz m)]) dX7_made_25 lm_X7_83 ok_J7_copyOf_59c91 (by decide) (by decide) (by omega) rfl (Nat.le_of_ble_eq_true rfl) (a_copyOf X 49 (m 49) c _ _ (Nat.lt_succ_of_lt h49) e49 hc2) (fun r ce1 N1 hq => ?_)
  obtain ⟨rfl, rfl, rfl⟩ := hq
  refine gc_callI (d' := 1) (mc' := 1) (ms' := max 1 p) (a := cx_n X + sz m) (y := M_X6_init) (As := [.int (m 45 6), .int (m 45 7), .ref (cx_n X + (sz m + 1))]) (rest := [.ref (cx_n X + sz m)]) dX7_made_28 lm_X7_89 ok_X6_init (by decide) (by decide) (by omega) rfl (Nat.le_of_ble_eq_true rfl) (a_Text X (sz m) (sz m + 1) (m 45 6) (m 45 7) p _ _ (by omega) (by rw [ceU_n _ _ _ (by omega)]; exact ceU_s _ _ _) hp (by omega)) (fun r ce2 N2 hq => ?_)
  obtain ⟨rfl, t1, t2, t3, rfl⟩ := hq
  refine gc_conv (ce' := cellAt X (muT m (m 45 6) p c)) (N' := sz (muT m (m 45 6) p c)) (fun H hH => HRc.text hT (by omega) hc2 hH ?_ ?_ ?_ ?_) ?_
  · intro q hq
    rw [t3 q (by omega) (by omega), ceU_n _ _ _ (by omega), ceU_n _ _ _ (by omega)]
  · rw [t1, hp]
  · rw [t3 (sz m + 1) (by omega) (by omega), ceU_s]
  · exact t2
  · exact gc_aret dX7_made_31 rfl (Or.inl ⟨_, rfl⟩) (Or.inr ⟨_, rfl⟩) (by decide) (by omega) ⟨_, rfl, rfl, nTx m, rfl, h⟩
def W_X8_text (mem : Mm) (K : Int32 → Mm → Prop) : Prop := W_X7_faultFound mem (fun v m => ∀ m1 : Mm, m1 = mu m 46 1 0 → (v = (-1) → ((14 ≤ m1 1 8 → K (-1000000003) m1) ∧ (¬ 14 ≤ m1 1 8 → W_X7_made m1 (fun j m2 => W_X0_takeText 1 j m2 K)))) ∧ (¬ v = (-1) → K ((-100) - v) m1))
set_option maxRecDepth 100000 in
set_option maxHeartbeats 4000000 in
theorem w_X8_text (X : CX) (mem : Mm) (K : Int32 → Mm → Prop) (h : W_X8_text mem K) : Calls X 20 3 200 M_X8_text [.ref (cx_n X + 0)] mem (fun r m => ∃ v : Int32, r = some (.int v) ∧ K v m) := by
  unfold W_X8_text at h
  refine CallsC.ofP 1 (by decide) rfl (Nat.le_of_ble_eq_true rfl) ?_
  refine gc_aload_n dX8_text_0 rfl ?_
  refine go_getR dX8_text_1 lg_X8_36 (sz_lt (by decide)) kd_0 rfl ?_
  refine go_callV (mc' := 0) (ms' := 0) (y := M_X7_faultFound) (As := []) (rest := []) dX8_text_4 lm_X8_259 ok_X7_faultFound (by decide) (by decide) (by decide) (sz_lt (by decide)) kd_45 rfl rfl rfl (Nat.le_of_ble_eq_true rfl) (w_X7_faultFound X mem _ h) (fun r m hq => ?_)
  obtain ⟨v, rfl, h⟩ := hq
  refine gc_istore_n (x := v) dX8_text_7 (by decide) ?_
  refine gc_aload_n dX8_text_8 rfl ?_
  refine go_getR dX8_text_9 lg_X8_44 (sz_lt (by decide)) kd_0 rfl ?_
  refine gc_iconst (v := 0) dX8_text_12 (by decide) ?_
  refine go_putI_ dX8_text_13 lp_X8_253 (sz_lt (by decide)) kd_46 rfl (fun m1 em1 => ?_)
  have h := h m1 em1
  refine gc_iload_n dX8_text_16 rfl ?_
  refine gc_iconst (v := (-1)) dX8_text_17 (by decide) ?_
  refine gc_icmp_eq 26 dX8_text_18 (by decide) (fun hcz => ?_) (fun hcz => ?_)
  · have h := h.1 hcz
    refine gc_aload_n dX8_text_26 rfl ?_
    refine go_getR dX8_text_27 lg_X8_10 (sz_lt (by decide)) kd_0 rfl ?_
    refine go_getI dX8_text_30 lg_X8_262 (sz_lt (by decide)) kd_1 rfl ?_
    refine gc_bipush (v := 14) dX8_text_33 (by decide) ?_
    refine gc_icmp_ge 55 dX8_text_35 (by decide) (fun hcy => ?_) (fun hcy => ?_)
    · have h := h.1 hcy
      refine gc_ldc (v := (-1000000003)) dX8_text_55 lk_X8_78 ?_
      exact go_iret dX8_text_57 rfl (by decide) (by decide) ⟨_, rfl, h⟩
    · have h := h.2 hcy
      refine gc_aload_n dX8_text_38 rfl ?_
      refine go_getR dX8_text_39 lg_X8_10 (sz_lt (by decide)) kd_0 rfl ?_
      refine gc_aload_n dX8_text_42 rfl ?_
      refine go_getR dX8_text_43 lg_X8_36 (sz_lt (by decide)) kd_0 rfl ?_
      refine go_callV (mc' := 3) (ms' := 200) (y := M_X7_made) (As := []) (rest := [.ref (cx_n X + 1)]) dX8_text_46 lm_X8_265 ok_X7_made (by decide) (by decide) (by decide) (sz_lt (by decide)) kd_45 rfl rfl rfl (Nat.le_of_ble_eq_true rfl) (w_X7_made X m1 _ h) (fun r m2 hq => ?_)
      obtain ⟨j, rfl, h⟩ := hq
      refine go_callV (mc' := 0) (ms' := 0) (y := M_X0_takeText) (As := [.ref (cx_n X + (106 + 3 * j))]) (rest := []) dX8_text_49 lm_X8_269 ok_X0_takeText (by decide) (by decide) (by decide) (sz_lt (by decide)) kd_1 rfl rfl rfl (Nat.le_of_ble_eq_true rfl) (w_X0_takeText X 1 al_1 j m2 _ h) (fun r m3 hq => ?_)
      obtain ⟨w, rfl, h⟩ := hq
      refine gc_goto 57 dX8_text_52 (by decide) ?_
      exact go_iret dX8_text_57 rfl (by decide) (by decide) ⟨_, rfl, h⟩
  · have h := h.2 hcz
    refine gc_bipush (v := (-100)) dX8_text_21 (by decide) ?_
    refine gc_iload_n dX8_text_23 rfl ?_
    refine gc_isub dX8_text_24 ?_
    exact go_iret dX8_text_25 rfl (by decide) (by decide) ⟨_, rfl, h⟩
