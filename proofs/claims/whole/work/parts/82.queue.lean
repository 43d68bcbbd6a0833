/-! the queue of sets -/
def cnV (p : Nat → Int32) : Nat → Nat
  | 0 => 0
  | n + 1 => if p n = -1 then cnV p n else cnV p n + 1
theorem cnV_le (p : Nat → Int32) (n : Nat) : cnV p n ≤ n := by
  induction n with
  | zero => exact Nat.le_refl _
  | succ n ih => unfold cnV; split <;> omega
theorem cnV_lt {p : Nat → Int32} {s : Nat} (hp : p s = -1) : ∀ n, s < n → cnV p n < n := by
  intro n
  induction n with
  | zero => intro h; omega
  | succ n ih =>
    intro h
    have hl := cnV_le p n
    unfold cnV
    by_cases c1 : s = n
    · rw [← c1, if_pos hp, c1]; omega
    · have := ih (by omega)
      split <;> omega
theorem cnV_up {p : Nat → Int32} {s : Nat} {v : Int32} (hp : p s = -1) (hv : ¬ v = -1) : ∀ n, cnV (upd p s v) n = cnV p n + (if s < n then 1 else 0) := by
  intro n
  induction n with
  | zero => rw [if_neg (by omega)]; rfl
  | succ n ih =>
    unfold cnV
    by_cases c1 : n = s
    · subst c1
      rw [pk_us, if_neg hv, if_pos hp, ih, if_neg (by omega), if_pos (by omega)]
    · rw [pk_un c1]
      by_cases c2 : s < n
      · rw [if_pos c2] at ih
        rw [if_pos (show s < n + 1 by omega)]
        split <;> omega
      · rw [if_neg c2] at ih
        rw [if_neg (show ¬ s < n + 1 by omega)]
        split <;> omega
abbrev viS (m : Mm) (s : Nat) : Prop := ¬ m (40 + 1 + 2) s = -1
def QbR (a : Rw) (f : Int32) (m : Mm) (qn : Nat) : Prop := TbR a f m ∧ m 40 4 = nI qn ∧ cnV (m (40 + 1 + 2)) 512 = qn ∧ (∀ i, i < qn → ∃ s, m (40 + 1 + 3) i = nI s ∧ SbR a s ∧ viS m s) ∧ (∀ s, s < 512 → viS m s → SbR a s ∧ (∃ i, i < qn ∧ m (40 + 1 + 3) i = nI s) ∧ ∃ d, m (40 + 1 + 2) s = nI d ∧ d + pc9 s ≤ 9)
theorem QbR.le {a : Rw} {f : Int32} {m : Mm} {qn : Nat} (h : QbR a f m qn) : qn ≤ 512 := by
  rw [← h.2.2.1]
  exact cnV_le _ _
theorem nI_nm1 {n : Nat} (h : n < 2 ^ 31) : ¬ nI n = -1 := fun z => nI_pos h (by rw [z]; decide)
def enqM (m : Mm) (s d qn : Nat) : Mm := mu (mu (mu m (40 + 1 + 2) s (nI d)) (40 + 1 + 3) qn (nI s)) 40 4 (nI (qn + 1))
theorem enq_43 (m : Mm) (s d qn : Nat) : enqM m s d qn (40 + 1 + 2) = upd (m (40 + 1 + 2)) s (nI d) := by
  unfold enqM
  rw [mu_row_n _ _ _ (by omega), mu_row_n _ _ _ (by omega), mu_row_s]
theorem enq_44 (m : Mm) (s d qn : Nat) : enqM m s d qn (40 + 1 + 3) = upd (m (40 + 1 + 3)) qn (nI s) := by
  unfold enqM
  rw [mu_row_n _ _ _ (by omega), mu_row_s, mu_row_n _ _ _ (by omega)]
theorem enq_40 (m : Mm) (s d qn j : Nat) : enqM m s d qn 40 j = if j = 4 then nI (qn + 1) else m 40 j := by
  unfold enqM
  rw [mu_row_s]
  show (if j = 4 then _ else _) = _
  rw [mu_row_n _ _ _ (by omega), mu_row_n _ _ _ (by omega)]
theorem enq_o (m : Mm) {s d qn q : Nat} (h0 : q ≠ 40) (h2 : q ≠ 40 + 1 + 2) (h3 : q ≠ 40 + 1 + 3) : enqM m s d qn q = m q := by
  unfold enqM
  rw [mu_row_n _ _ _ h0, mu_row_n _ _ _ h3, mu_row_n _ _ _ h2]
theorem QbR.enq {a : Rw} {f : Int32} {m : Mm} {qn s d : Nat} (hn : nm a ≤ 9) (h : QbR a f m qn) (hS : SbR a s) (hv : m (40 + 1 + 2) s = -1) (hd : d + pc9 s ≤ 9) : QbR a f (enqM m s d qn) (qn + 1) ∧ qn < 512 := by
  obtain ⟨a1, a2, a3, a4, a5⟩ := h
  have hs := hS.l5 hn
  have dn : ¬ nI d = -1 := nI_nm1 (by omega)
  have q5 : qn < 512 := by rw [← a3]; exact cnV_lt hv 512 hs
  have vi : ∀ s2, viS (enqM m s d qn) s2 ↔ (s2 = s ∨ viS m s2) := by
    intro s2
    unfold viS
    rw [enq_43]
    by_cases c1 : s2 = s
    · rw [c1, pk_us]; exact ⟨fun _ => Or.inl rfl, fun _ => dn⟩
    · rw [pk_un c1]; exact ⟨fun z => Or.inr z, fun z => by rcases z with z | z; exact absurd z c1; exact z⟩
  refine ⟨⟨?_, ?_, ?_, fun i hi => ?_, fun s2 hs2 hv2 => ?_⟩, q5⟩
  · obtain ⟨b1, b2, b3, b4⟩ := a1
    refine ⟨by rw [enq_40, if_neg (by omega)]; exact b1, by rw [enq_40, if_neg (by omega)]; exact b2, fun i hi hb => ?_, fun i t cnt hi hb ht h1 h2 => ?_⟩
    · rw [enq_o m (by omega) (by omega) (by omega)]; exact b3 i hi hb
    · rw [enq_o m (by omega) (by omega) (by omega)]; exact b4 i t cnt hi hb ht h1 h2
  · rw [enq_40, if_pos rfl]
  · rw [enq_43, cnV_up hv dn, if_pos hs, a3]
  · rw [enq_44]
    by_cases c1 : i = qn
    · rw [c1, pk_us]
      exact ⟨s, rfl, hS, (vi s).mpr (Or.inl rfl)⟩
    · rw [pk_un c1]
      obtain ⟨s2, x1, x2, x3⟩ := a4 i (by omega)
      exact ⟨s2, x1, x2, (vi s2).mpr (Or.inr x3)⟩
  · rw [enq_43, enq_44]
    by_cases c1 : s2 = s
    · rw [c1, pk_us]
      exact ⟨hS, ⟨qn, by omega, pk_us⟩, d, rfl, hd⟩
    · have hv3 : viS m s2 := by
        rcases (vi s2).mp hv2 with z | z
        · exact absurd z c1
        · exact z
      obtain ⟨x1, ⟨i, hi, x2⟩, x3⟩ := a5 s2 hs2 hv3
      rw [pk_un c1]
      exact ⟨x1, ⟨i, by omega, by rw [pk_un (by omega)]; exact x2⟩, x3⟩
theorem s_enqueue {a : Rw} {f : Int32} {s d qn : Nat} {mem : Mm} {K : Mm → Prop} (hn : nm a ≤ 9) (hQ : QbR a f mem qn) (hS : SbR a s) (hd : mem (40 + 1 + 2) s = -1 → d + pc9 s ≤ 9) (h1 : viS mem s → K mem) (h2 : mem (40 + 1 + 2) s = -1 → QbR a f (enqM mem s d qn) (qn + 1) → K (enqM mem s d qn)) : W_X2_enqueue (nI s) (nI d) mem K := by
  have hs := hS.l5 hn
  unfold W_X2_enqueue
  refine ⟨s, rfl, hs, fun hv => h1 hv, fun hv => ?_⟩
  obtain ⟨e1, e2⟩ := hQ.enq hn hS hv (hd hv)
  rw [hQ.2.1]
  refine cf1 (nI_ge (a := qn) (b := 512) e2 (by omega)) ⟨s, rfl, hs, fun m1 x1 => ?_⟩
  have y1 : m1 40 4 = nI qn := by rw [x1, mu_row_n _ _ _ (by omega)]; exact hQ.2.1
  rw [y1]
  refine ⟨qn, rfl, e2, fun m2 x2 m3 x3 => ?_⟩
  have y2 : m2 40 4 = nI qn := by rw [x2, mu_row_n _ _ _ (by omega)]; exact y1
  rw [y2, nI_1] at x3
  have y3 : m3 = enqM mem s d qn := by rw [x3, x2, x1]; rfl
  rw [y3]
  exact h2 hv e1
/-! strictly fewer stand behind a saying that fells -/
theorem lb_mo {a : Rw} {t u : Int32} (hn : nm a ≤ 9) : ∀ (n s m : Nat), SbR a s → m < nm a → pc9 (lbF a n s m t u) ≤ pc9 s ∧ pc9 (lbF a (n + 1) s m t u) ≤ pc9 (rmB s m) := by
  intro n
  have gs : ∀ (n : Nat), (∀ s m, SbR a s → m < nm a → pc9 (lbF a n s m t u) ≤ pc9 s) → ∀ (p : Int32) (s j : Nat), SbR a s → j ≤ 9 → pc9 (lbG (fun s2 j => lbF a n s2 j t u) a p s j t) ≤ pc9 s := by
    intro n ih p s j hS hj
    unfold lbG
    split
    · rename_i hc
      exact ih s j hS (hS.in9 hn hj hc.1)
    · exact Nat.le_refl _
  have stp : ∀ (n : Nat), (∀ s m, SbR a s → m < nm a → pc9 (lbF a n s m t u) ≤ pc9 s) → ∀ s m, SbR a s → m < nm a → pc9 (lbF a (n + 1) s m t u) ≤ pc9 (rmB s m) := by
    intro n ih s m hS hm
    obtain ⟨_, y1, y2, y3, y4⟩ := tb_nx m (by omega)
    have hR := hS.rm hn (show m < 9 by omega)
    have h1 : pc9 (if u = 1 then rmB s m else lbG (fun s2 j => lbF a n s2 j t u) a (puS a m) (rmB s m) (nxL m) t) ≤ pc9 (rmB s m) ∧ SbR a (if u = 1 then rmB s m else lbG (fun s2 j => lbF a n s2 j t u) a (puS a m) (rmB s m) (nxL m) t) := by
      split
      · exact ⟨Nat.le_refl _, hR⟩
      · exact ⟨gs n ih _ _ _ hR y2, hR.gs hn y2 (SbR.lb hn n)⟩
    unfold lbF
    split
    · exact h1.1
    · exact Nat.le_trans (gs n ih _ _ _ h1.2 y4) h1.1
  have all : ∀ n s m, SbR a s → m < nm a → pc9 (lbF a n s m t u) ≤ pc9 s := by
    intro n
    induction n with
    | zero => intro s m _ _; exact Nat.le_refl _
    | succ n ih =>
      intro s m hS hm
      exact Nat.le_trans (stp n ih s m hS hm) (tb_rm m (by omega) s (hS.l5 hn)).1
  intro s m hS hm
  exact ⟨all n s m hS hm, stp n (all n) s m hS hm⟩
theorem fl_lt {a : Rw} {f : Int32} {s k : Nat} (hn : nm a ≤ 9) (hS : SbR a s) (hk : k < 216) : flS a f s k = s ∨ pc9 (flS a f s k) < pc9 s := by
  unfold flS lbG
  split
  · rename_i hc
    right
    have hm := hS.in9 hn (show k / 24 ≤ 9 by omega) hc.1
    have z := (lb_mo (t := nI (k / 3 % 8)) (u := nI (k % 3) - 1) hn 11 s (k / 24) hS hm).2
    have z2 := (tb_out (k / 24) (by omega) s (hS.l5 hn)).2 hc.1
    have z3 : pc9 (rmB s (k / 24)) + 1 = pc9 s := by unfold rmB; rw [if_pos hc.1]; exact z2
    have z4 : pc9 (lbF a 12 s (k / 24) (nI (k / 3 % 8)) (nI (k % 3) - 1)) ≤ pc9 (rmB s (k / 24)) := z
    show pc9 (lbF a 12 s (k / 24) (nI (k / 3 % 8)) (nI (k % 3) - 1)) < pc9 s
    omega
  · left; rfl
theorem fl_le {a : Rw} {f : Int32} {s k : Nat} (hn : nm a ≤ 9) (hS : SbR a s) (hk : k < 216) : pc9 (flS a f s k) ≤ pc9 s := by
  rcases fl_lt (f := f) hn hS hk with z | z
  · rw [z]; exact Nat.le_refl _
  · omega
/-- all behind s up to saying k are in the queue -/
def QsR (a : Rw) (f : Int32) (s d : Nat) (m0 : Mm) (q0 k : Nat) (m : Mm) (qn : Nat) : Prop := QbR a f m qn ∧ (∀ q, q ≠ 40 → q ≠ 40 + 1 + 2 → q ≠ 40 + 1 + 3 → m q = m0 q) ∧ q0 ≤ qn ∧ (∀ i, i < q0 → m (40 + 1 + 3) i = m0 (40 + 1 + 3) i) ∧ (∀ s2, s2 < 512 → viS m0 s2 → m (40 + 1 + 2) s2 = m0 (40 + 1 + 2) s2) ∧ (∀ k2, k2 < k → viS m (flS a f s k2)) ∧ ∀ i, q0 ≤ i → i < qn → ∃ k2, k2 < 216 ∧ m (40 + 1 + 3) i = nI (flS a f s k2) ∧ m (40 + 1 + 2) (flS a f s k2) = nI (d + 1)
theorem QsR.stay {a : Rw} {f : Int32} {s d q0 k qn : Nat} {m0 m : Mm} (h : QsR a f s d m0 q0 k m qn) (hv : viS m (flS a f s k)) : QsR a f s d m0 q0 (k + 1) m qn := by
  obtain ⟨h1, h2, h3, h4, h5, h6, h7⟩ := h
  refine ⟨h1, h2, h3, h4, h5, fun k2 hk2 => ?_, h7⟩
  by_cases c1 : k2 = k
  · rw [c1]; exact hv
  · exact h6 k2 (by omega)
theorem QsR.same {a : Rw} {f : Int32} {s d q0 k qn : Nat} {m0 m : Mm} (h : QsR a f s d m0 q0 k m qn) (hv : viS m s) : ∀ j, (∀ k2, k ≤ k2 → k2 < k + j → flS a f s k2 = s) → QsR a f s d m0 q0 (k + j) m qn := by
  intro j
  induction j with
  | zero => intro _; exact h
  | succ j ih =>
    intro hs
    have z := ih (fun k2 a1 a2 => hs k2 a1 (by omega))
    exact z.stay (by rw [hs (k + j) (by omega) (by omega)]; exact hv)
theorem QsR.vs {a : Rw} {f : Int32} {s d q0 k qn : Nat} {m0 m : Mm} (h : QsR a f s d m0 q0 k m qn) (hs : s < 512) (hv : viS m0 s) (hd : m0 (40 + 1 + 2) s = nI d) : viS m s ∧ m (40 + 1 + 2) s = nI d := by
  have e1 := h.2.2.2.2.1 s hs hv
  exact ⟨by unfold viS; rw [e1]; exact hv, e1.trans hd⟩
set_option maxHeartbeats 4000000 in
theorem l_queue41 {a : Rw} {f p0 : Int32} {s d q0 i t : Nat} {m0 : Mm} {K : Mm → Prop} {kb2 : Int32 → Int32 → Mm → Prop} {kb10 : Int32 → Int32 → Int32 → Mm → Prop} (hw : Wm a) (hS : SbR a s) (hi : i < nm a) (ht : t < 8) (hb : inB s i) (hfb : fbB a f s i (nI t)) (hv : viS m0 s) (hd : m0 (40 + 1 + 2) s = nI d) (hd9 : d + pc9 s ≤ 9) (hK : ∀ m qn, QsR a f s d m0 q0 (24 * i + 3 * (t + 1)) m qn → kb10 (nI s) (nI i) (nI (t + 1)) m) : ∀ (r w : Nat) (m : Mm) (qn : Nat), w + r = 3 → QsR a f s d m0 q0 (24 * i + 3 * t + w) m qn → L_X2_queueAllBehind_41 p0 kb2 kb10 K (r + 1) (nI s) (nI i) (nI t) (nI w - 1) m := by
  intro r
  have h9 := hw.2.1
  have hs := hS.l5 h9
  induction r with
  | zero =>
    intro w m qn hw0 hQ
    have c0 : w = 3 := by omega
    subst c0
    unfold L_X2_queueAllBehind_41
    refine ct1 (by decide) ?_
    rw [nI_1]
    exact hK m qn hQ
  | succ r ih =>
    intro w m qn hw0 hQ
    obtain ⟨v1, v2⟩ := hQ.vs hs hv hd
    unfold L_X2_queueAllBehind_41
    refine cf1 (tb_turn w (by omega)).1 ?_
    refine s_leftBehind h9 hQ.1.1 ht 12 s i 0 _ (by omega) hi (hS.2.1 i hi hb) (by omega) hS ⟨s, rfl, hs, ?_⟩
    rw [v2, nI_1, (tb_turn w (by omega)).2]
    have efl : lbF a 12 s i (nI t) (nI w - 1) = flS a f s (24 * i + 3 * t + w) := by rw [fl_lb ht (by omega), if_pos hfb]
    rw [efl]
    have hk : 24 * i + 3 * t + w < 216 := by omega
    have hSf : SbR a (flS a f s (24 * i + 3 * t + w)) := hS.fl h9 hk
    have hsf := hSf.l5 h9
    refine s_enqueue h9 hQ.1 hSf (fun hno => ?_) (fun hy => ?_) (fun hno hQ2 => ?_)
    · rcases fl_lt (f := f) h9 hS hk with z | z
      · rw [z] at hno; exact absurd hno v1
      · omega
    · exact ih (w + 1) m qn (by omega) (hQ.stay hy)
    · refine ih (w + 1) _ (qn + 1) (by omega) ?_
      obtain ⟨b1, b2, b3, b4, b5, b6, b7⟩ := hQ
      have dn : ¬ nI (d + 1) = -1 := nI_nm1 (by omega)
      refine ⟨hQ2, fun q n0 n2 n3 => by rw [enq_o m n0 n2 n3]; exact b2 q n0 n2 n3, by omega, fun j hj => by rw [enq_44, pk_un (by omega)]; exact b4 j hj, fun s2 hs2 hv2 => ?_, fun k2 hk2 => ?_, fun j hj1 hj2 => ?_⟩
      · have e1 := b5 s2 hs2 hv2
        have ne : s2 ≠ flS a f s (24 * i + 3 * t + w) := fun z => by
          rw [z] at e1 hv2
          exact hv2 (by rw [← e1]; exact hno)
        rw [enq_43, pk_un ne]
        exact e1
      · unfold viS
        rw [enq_43]
        by_cases c1 : flS a f s k2 = flS a f s (24 * i + 3 * t + w)
        · rw [c1, pk_us]; exact dn
        · rw [pk_un c1]
          have c2 : k2 ≠ 24 * i + 3 * t + w := fun z => c1 (by rw [z])
          exact b6 k2 (by omega)
      · rw [enq_44]
        by_cases c1 : j = qn
        · rw [c1, pk_us]
          exact ⟨24 * i + 3 * t + w, hk, rfl, by rw [enq_43, pk_us]⟩
        · rw [pk_un c1]
          obtain ⟨k2, y1, y2, y3⟩ := b7 j hj1 (by omega)
          refine ⟨k2, y1, y2, ?_⟩
          rw [enq_43]
          by_cases c2 : flS a f s k2 = flS a f s (24 * i + 3 * t + w)
          · rw [c2, pk_us]
          · rw [pk_un c2]; exact y3
theorem fl_no {a : Rw} {f : Int32} {s k : Nat} (h : ¬ fbB a f s (k / 24) (nI (k / 3 % 8))) : flS a f s k = s := by
  unfold flS lbG
  rw [if_neg h]
set_option maxHeartbeats 4000000 in
theorem l_queue10 {a : Rw} {f p0 : Int32} {s d q0 i : Nat} {m0 : Mm} {K : Mm → Prop} {kb2 : Int32 → Int32 → Mm → Prop} (hw : Wm a) (hS : SbR a s) (hi : i < 9) (hv : viS m0 s) (hd : m0 (40 + 1 + 2) s = nI d) (hd9 : d + pc9 s ≤ 9) (hK : ∀ m qn, QsR a f s d m0 q0 (24 * (i + 1)) m qn → kb2 (nI s) (nI (i + 1)) m) : ∀ (r t : Nat) (m : Mm) (qn : Nat), t + r = 8 → QsR a f s d m0 q0 (24 * i + 3 * t) m qn → L_X2_queueAllBehind_10 p0 kb2 K (r + 1) (nI s) (nI i) (nI t) m := by
  intro r
  have h9 := hw.2.1
  have hs := hS.l5 h9
  induction r with
  | zero =>
    intro t m qn ht hQ
    have c0 : t = 8 := by omega
    subst c0
    unfold L_X2_queueAllBehind_10
    refine ct1 (by decide) ?_
    rw [nI_1]
    refine hK m qn ?_
    rw [show 24 * (i + 1) = 24 * i + 3 * 8 by omega]
    exact hQ
  | succ r ih =>
    intro t m qn ht hQ
    obtain ⟨v1, v2⟩ := hQ.vs hs hv hd
    unfold L_X2_queueAllBehind_10
    refine cf1 (nI_ge (a := t) (b := 8) (by omega) (by omega)) (s_isIn hi hs ?_)
    by_cases c1 : inB s i
    · rw [decide_eq_true c1]
      have hin := hS.in9 h9 (by omega) c1
      have en : nbI i = nI i := by unfold nbI; rw [if_neg (by omega)]
      refine zt1 ?_
      rw [hQ.1.1.2.1]
      have go : W_X2_fallsBy f (nbI i) (nI t) (nI s) m (fun v_32 m_32 => ((bZ v_32) = 0 → (L_X2_queueAllBehind_10 p0 kb2 K (r + 1) (nI s) (nI i) (nI t + 1) m_32)) ∧ (¬ (bZ v_32) = 0 → (∃ nz : Nat, L_X2_queueAllBehind_41 p0 kb2 (fun zl1 zl2 zl3 zm => L_X2_queueAllBehind_10 p0 kb2 K (r + 1) zl1 zl2 zl3 zm) K nz (nI s) (nI i) (nI t) (-1) m_32))) := by
        refine s_fallsBy h9 hQ.1.1 (by omega) hS (by omega) ?_
        by_cases c2 : fbB a f s i (nI t)
        · rw [decide_eq_true c2]
          refine zt1 ⟨3 + 1, ?_⟩
          exact l_queue41 hw hS hin (by omega) c1 c2 hv hd hd9 (fun m2 qn2 hQ2 => ih (t + 1) m2 qn2 (by omega) hQ2) 3 0 m qn (by omega) hQ
        · rw [decide_eq_false c2, nI_1]
          refine zf1 (ih (t + 1) m qn (by omega) ?_)
          rw [show 24 * i + 3 * (t + 1) = 24 * i + 3 * t + 3 by omega]
          refine hQ.same v1 3 (fun k2 a1 a2 => fl_no ?_)
          have e24 : k2 / 24 = i := by omega
          have e8 : k2 / 3 % 8 = t := by omega
          rw [e24, e8]
          exact c2
      rw [en] at go
      exact go
    · rw [decide_eq_false c1, nI_1]
      refine zf1 (hK m qn ?_)
      rw [show 24 * (i + 1) = 24 * i + 3 * t + (24 - 3 * t) by omega]
      refine hQ.same v1 (24 - 3 * t) (fun k2 a1 a2 => fl_no ?_)
      have e24 : k2 / 24 = i := by omega
      rw [e24]
      exact fun z => c1 z.1
theorem l_queue2 {a : Rw} {f p0 : Int32} {s d q0 : Nat} {m0 : Mm} {K : Mm → Prop} (hw : Wm a) (hS : SbR a s) (hv : viS m0 s) (hd : m0 (40 + 1 + 2) s = nI d) (hd9 : d + pc9 s ≤ 9) (hK : ∀ m qn, QsR a f s d m0 q0 216 m qn → K m) : ∀ (r i : Nat) (m : Mm) (qn : Nat), i + r = 9 → QsR a f s d m0 q0 (24 * i) m qn → L_X2_queueAllBehind_2 p0 K (r + 1) (nI s) (nI i) m := by
  intro r
  induction r with
  | zero =>
    intro i m qn hi hQ
    have c0 : i = 9 := by omega
    subst c0
    unfold L_X2_queueAllBehind_2
    exact ct1 (by decide) (hK m qn hQ)
  | succ r ih =>
    intro i m qn hi hQ
    unfold L_X2_queueAllBehind_2
    refine cf1 (nI_ge (a := i) (b := 9) (by omega) (by omega)) ⟨8 + 1, l_queue10 hw hS (by omega) hv hd hd9 (fun m2 qn2 hQ2 => ih (i + 1) m2 qn2 (by omega) hQ2) 8 0 m qn (by omega) hQ⟩
theorem s_queueAll {a : Rw} {f : Int32} {s d qn : Nat} {mem : Mm} {K : Mm → Prop} (hw : Wm a) (hQ : QbR a f mem qn) (hS : SbR a s) (hv : viS mem s) (hd : mem (40 + 1 + 2) s = nI d) (hd9 : d + pc9 s ≤ 9) (hK : ∀ m qn2, QsR a f s d mem qn 216 m qn2 → K m) : W_X2_queueAllBehind (nI s) mem K := by
  unfold W_X2_queueAllBehind
  exact ⟨9 + 1, l_queue2 hw hS hv hd hd9 hK 9 0 mem qn (by omega) ⟨hQ, fun _ _ _ _ => rfl, Nat.le_refl _, fun _ _ => rfl, fun _ _ _ => rfl, fun k2 hk2 => by omega, fun i a1 a2 => by omega⟩⟩
theorem cnV_all {p : Nat → Int32} (h : ∀ s, s < 512 → p s = -1) : ∀ n, n ≤ 512 → cnV p n = 0 := by
  intro n
  induction n with
  | zero => intro _; rfl
  | succ n ih =>
    intro hn
    unfold cnV
    rw [if_pos (h n (by omega))]
    exact ih (by omega)
theorem s_startQueue {a : Rw} {f : Int32} {mem : Mm} {K : Mm → Prop} (hw : Wm a) (hT : TbR a f mem) (hK : ∀ m, (∀ q, q ≠ 40 → q ≠ 40 + 1 + 2 → q ≠ 40 + 1 + 3 → m q = mem q) → QbR a f m 1 → m (40 + 1 + 3) 0 = nI (stS a) → m (40 + 1 + 2) (stS a) = nI 0 → (∀ s, s < 512 → viS m s → s = stS a) → K m) : W_X2_startQueue mem K := by
  have hl := stS_lt hw
  unfold W_X2_startQueue
  refine s_fill (by omega) (fun m1 x1 x2 x3 => ?_)
  have y5 : m1 40 5 = nI (stS a) := by rw [x1 40 (by omega)]; exact hT.1
  refine ⟨stS a, y5, hl, fun m2 e2 m3 e3 m4 e4 => ?_⟩
  have y6 : m2 40 5 = nI (stS a) := by rw [e2, mu_row_n _ _ _ (by omega)]; exact y5
  rw [y6] at e3
  have p43 : m4 (40 + 1 + 2) = upd (m1 (40 + 1 + 2)) (stS a) 0 := by rw [e4, mu_row_n _ _ _ (by omega), e3, mu_row_n _ _ _ (by omega), e2, mu_row_s]
  have p44 : m4 (40 + 1 + 3) 0 = nI (stS a) := by rw [e4, mu_row_n _ _ _ (by omega), e3, mu_s]
  have po : ∀ q, q ≠ 40 → q ≠ 40 + 1 + 2 → q ≠ 40 + 1 + 3 → m4 q = mem q := fun q n0 n2 n3 => by rw [e4, mu_row_n _ _ _ n0, e3, mu_row_n _ _ _ n3, e2, mu_row_n _ _ _ n2, x1 q n2]
  have p40 : ∀ j, j ≠ 4 → m4 40 j = mem 40 j := fun j nj => by rw [e4, mu_j _ _ _ nj, e3, mu_row_n _ _ _ (by omega), e2, mu_row_n _ _ _ (by omega), x1 40 (by omega)]
  have hv : ∀ s, s < 512 → viS m4 s → s = stS a := by
    intro s hs hv
    by_cases c1 : s = stS a
    · exact c1
    · unfold viS at hv
      rw [p43, pk_un c1] at hv
      exact absurd (x2 s hs) hv
  have hT4 : TbR a f m4 := by
    obtain ⟨b1, b2, b3, b4⟩ := hT
    refine ⟨by rw [p40 5 (by omega)]; exact b1, by rw [p40 6 (by omega)]; exact b2, fun i hi hb => ?_, fun i t cnt hi hb ht h1 h2 => ?_⟩
    · rw [po _ (by omega) (by omega) (by omega)]; exact b3 i hi hb
    · rw [po _ (by omega) (by omega) (by omega)]; exact b4 i t cnt hi hb ht h1 h2
  have vs : viS m4 (stS a) := by unfold viS; rw [p43, pk_us]; decide
  refine hK m4 po ⟨hT4, by rw [e4, mu_s]; rfl, ?_, fun i hi => ?_, fun s hs hv2 => ?_⟩ p44 (by rw [p43, pk_us]; rfl) hv
  · rw [p43, cnV_up (x2 _ hl) (by decide), if_pos hl, cnV_all x2 512 (Nat.le_refl _)]
  · have c0 : i = 0 := by omega
    rw [c0]
    exact ⟨stS a, p44, SbR.st hw, vs⟩
  · have c1 := hv s hs hv2
    subst c1
    exact ⟨SbR.st hw, ⟨0, by omega, p44⟩, 0, by rw [p43, pk_us]; rfl, by have := pc9_le (stS a); omega⟩
