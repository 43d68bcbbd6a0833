/-! BEST -/
def fkS (a : Rw) (f : Int32) (s k : Nat) : Nat := pc9 s - pc9 (flS a f s k)
def bsM (a : Rw) (f : Int32) (s : Nat) : Nat → Int32
  | 0 => -1
  | k + 1 => if inB s (k / 24) ∧ ¬ nI (fkS a f s k) ≤ bsM a f s k then nI (fkS a f s k) else bsM a f s k
def bsB (a : Rw) (f : Int32) (s : Nat) : Nat → Nat
  | 0 => 0
  | k + 1 => if inB s (k / 24) ∧ ¬ nI (fkS a f s k) ≤ bsM a f s k then k else bsB a f s k
theorem fkS_le (a : Rw) (f : Int32) (s k : Nat) : fkS a f s k ≤ 9 := by
  unfold fkS
  have := pc9_le s
  omega
theorem bs_pos {a : Rw} {f : Int32} {s i : Nat} (hb : inB s i) : ∀ k, 24 * i < k → ¬ bsM a f s k = -1 := by
  intro k
  induction k with
  | zero => intro h; omega
  | succ k ih =>
    intro h
    have f9 := fkS_le a f s k
    unfold bsM
    by_cases c1 : inB s (k / 24) ∧ ¬ nI (fkS a f s k) ≤ bsM a f s k
    · rw [if_pos c1]
      intro z
      have z2 := nI_pos (n := fkS a f s k) (by omega)
      rw [z] at z2
      exact z2 (by decide)
    · rw [if_neg c1]
      by_cases c2 : 24 * i < k
      · exact ih c2
      · have c3 : k / 24 = i := by omega
        intro z
        refine c1 ⟨by rw [c3]; exact hb, ?_⟩
        rw [z]
        intro y
        have y2 := nI_pos' (n := fkS a f s k) (by omega)
        exact absurd (i_le_trans y2 y) (by decide)
theorem bs_skip {a : Rw} {f : Int32} {s i : Nat} (hb : ¬ inB s i) : ∀ j, j ≤ 24 → bsM a f s (24 * i + j) = bsM a f s (24 * i) ∧ bsB a f s (24 * i + j) = bsB a f s (24 * i) := by
  intro j
  induction j with
  | zero => intro _; exact ⟨rfl, rfl⟩
  | succ j ih =>
    intro hj
    obtain ⟨x1, x2⟩ := ih (by omega)
    have e1 : (24 * i + j) / 24 = i := by omega
    have no : ¬ (inB s ((24 * i + j) / 24) ∧ ¬ nI (fkS a f s (24 * i + j)) ≤ bsM a f s (24 * i + j)) := by
      rw [e1]
      exact fun z => hb z.1
    have y1 : bsM a f s (24 * i + j + 1) = bsM a f s (24 * i + j) := by
      show (if _ then _ else _) = _
      rw [if_neg no]
    have y2 : bsB a f s (24 * i + j + 1) = bsB a f s (24 * i + j) := by
      show (if _ then _ else _) = _
      rw [if_neg no]
    exact ⟨y1.trans x1, y2.trans x2⟩
theorem bs_rest {a : Rw} {f : Int32} {s n : Nat} (hn : n ≤ 9) (hs : s < 2 ^ n) : ∀ d, n + d ≤ 9 → bsM a f s (24 * (n + d)) = bsM a f s (24 * n) ∧ bsB a f s (24 * (n + d)) = bsB a f s (24 * n) := by
  intro d
  induction d with
  | zero => intro _; exact ⟨rfl, rfl⟩
  | succ d ih =>
    intro hd
    obtain ⟨x1, x2⟩ := ih (by omega)
    have nb : ¬ inB s (n + d) := tb_no9 n (by omega) s hs (n + d) (by omega) (by omega)
    obtain ⟨y1, y2⟩ := bs_skip (a := a) (f := f) nb 24 (by omega)
    rw [show 24 * (n + (d + 1)) = 24 * (n + d) + 24 by omega]
    exact ⟨y1.trans x1, y2.trans x2⟩
/-- what the search holds behind k sayings -/
def BsC (a : Rw) (f : Int32) (k : Nat) (m : Mm) : Prop := TbR a f m ∧ m 40 7 = bsM a f (stS a) k ∧ (bsM a f (stS a) k = -1 ∨ (m 40 8 = nI (bsB a f (stS a) k / 24) ∧ m 40 9 = nI (bsB a f (stS a) k / 3 % 8) ∧ m 40 10 = nI (bsB a f (stS a) k % 3) - 1))
theorem tb_turn : ∀ w, w < 3 → ¬ 1 < nI w - 1 ∧ (nI w - 1) + 1 = nI (w + 1) - 1 := by decide
theorem TbR.k40 {a : Rw} {f : Int32} {m m2 : Mm} (h : TbR a f m) (h0 : ∀ q, q ≠ 40 → m2 q = m q) (h5 : m2 40 5 = m 40 5) (h6 : m2 40 6 = m 40 6) : TbR a f m2 := by
  obtain ⟨a1, a2, a3, a4⟩ := h
  refine ⟨h5.trans a1, h6.trans a2, fun i hi hb => ?_, fun i t cnt hi hb ht h1 h2 => ?_⟩
  · rw [h0 _ (by omega)]; exact a3 i hi hb
  · rw [h0 _ (by omega)]; exact a4 i t cnt hi hb ht h1 h2
theorem s_offer {a : Rw} {f : Int32} {i t w : Nat} {mem : Mm} {K : Mm → Prop} (ht : t < 8) (hw3 : w < 3) (hb : inB (stS a) i) (hB : BsC a f (24 * i + 3 * t + w) mem) (hK : ∀ m, (∀ q, q ≠ 40 → m q = mem q) → BsC a f (24 * i + 3 * t + w + 1) m → K m) : W_X2_offer (nI (fkS a f (stS a) (24 * i + 3 * t + w))) (nI i) (nI t) (nI w - 1) mem K := by
  obtain ⟨hT, h7, h8⟩ := hB
  have e24 : (24 * i + 3 * t + w) / 24 = i := by omega
  have e8 : (24 * i + 3 * t + w) / 3 % 8 = t := by omega
  have e3 : (24 * i + 3 * t + w) % 3 = w := by omega
  unfold W_X2_offer
  rw [h7]
  refine ⟨fun hc => hK mem (fun _ _ => rfl) ⟨hT, ?_, ?_⟩, fun hc m1 e1 m2 e2 m3 e3b m4 e4 => hK m4 (fun q nq => ?_) ⟨?_, ?_, Or.inr ⟨?_, ?_, ?_⟩⟩⟩
  · show _ = (if _ then _ else _)
    rw [if_neg (fun z => z.2 hc)]; exact h7
  · have y1 : bsM a f (stS a) (24 * i + 3 * t + w + 1) = bsM a f (stS a) (24 * i + 3 * t + w) := by
      show (if _ then _ else _) = _
      rw [if_neg (fun z => z.2 hc)]
    have y2 : bsB a f (stS a) (24 * i + 3 * t + w + 1) = bsB a f (stS a) (24 * i + 3 * t + w) := by
      show (if _ then _ else _) = _
      rw [if_neg (fun z => z.2 hc)]
    rw [y1, y2]; exact h8
  · rw [e4, mu_row_n _ _ _ nq, e3b, mu_row_n _ _ _ nq, e2, mu_row_n _ _ _ nq, e1, mu_row_n _ _ _ nq]
  · refine hT.k40 (fun q nq => by rw [e4, mu_row_n _ _ _ nq, e3b, mu_row_n _ _ _ nq, e2, mu_row_n _ _ _ nq, e1, mu_row_n _ _ _ nq]) ?_ ?_
    · rw [e4, mu_j _ _ _ (by omega), e3b, mu_j _ _ _ (by omega), e2, mu_j _ _ _ (by omega), e1, mu_j _ _ _ (by omega)]
    · rw [e4, mu_j _ _ _ (by omega), e3b, mu_j _ _ _ (by omega), e2, mu_j _ _ _ (by omega), e1, mu_j _ _ _ (by omega)]
  · show _ = (if _ then _ else _)
    rw [if_pos ⟨by rw [e24]; exact hb, hc⟩, e4, mu_j _ _ _ (by omega), e3b, mu_j _ _ _ (by omega), e2, mu_j _ _ _ (by omega), e1, mu_s]
  · have y2 : bsB a f (stS a) (24 * i + 3 * t + w + 1) = 24 * i + 3 * t + w := by
      show (if _ then _ else _) = _
      rw [if_pos ⟨by rw [e24]; exact hb, hc⟩]
    rw [y2, e24, e4, mu_j _ _ _ (by omega), e3b, mu_j _ _ _ (by omega), e2, mu_s]
  · have y2 : bsB a f (stS a) (24 * i + 3 * t + w + 1) = 24 * i + 3 * t + w := by
      show (if _ then _ else _) = _
      rw [if_pos ⟨by rw [e24]; exact hb, hc⟩]
    rw [y2, e8, e4, mu_j _ _ _ (by omega), e3b, mu_s]
  · have y2 : bsB a f (stS a) (24 * i + 3 * t + w + 1) = 24 * i + 3 * t + w := by
      show (if _ then _ else _) = _
      rw [if_pos ⟨by rw [e24]; exact hb, hc⟩]
    rw [y2, e3, e4, mu_s]
theorem s_best80 {a : Rw} {f : Int32} {i t w left : Nat} {l3 : Int32} {mem : Mm} {K : Mm → Prop} {kb7 : Int32 → Mm → Prop} {kb15 : Int32 → Int32 → Mm → Prop} {kb50 : Int32 → Int32 → Int32 → Int32 → Mm → Prop} (hw : Wm a) (ht : t < 8) (hw3 : w < 3) (hb : inB (stS a) i) (hB : BsC a f (24 * i + 3 * t + w) mem) (hleft : left = flS a f (stS a) (24 * i + 3 * t + w)) (hl : left < 512) (hle : pc9 left ≤ pc9 (stS a)) (hK : ∀ m, (∀ q, q ≠ 40 → m q = mem q) → BsC a f (24 * i + 3 * t + w + 1) m → kb50 (nI i) (nI t) l3 (nI (w + 1) - 1) m) : B_X2_findBest_80 kb7 kb15 kb50 K (nI i) (nI t) l3 (nI w - 1) (nI left) mem := by
  unfold B_X2_findBest_80
  rw [hB.1.1]
  refine s_bitCount (stS_lt hw) (s_bitCount hl ?_)
  rw [pk_sub hle]
  have e1 : pc9 (stS a) - pc9 left = fkS a f (stS a) (24 * i + 3 * t + w) := by unfold fkS; rw [hleft]
  rw [e1]
  refine s_offer ht hw3 hb hB (fun m q0 hB2 => ?_)
  rw [(tb_turn w hw3).2]
  exact hK m q0 hB2
theorem fl_lb {a : Rw} {f : Int32} {s i t w : Nat} (ht : t < 8) (hw3 : w < 3) : flS a f s (24 * i + 3 * t + w) = if fbB a f s i (nI t) then lbF a 12 s i (nI t) (nI w - 1) else s := by
  have e24 : (24 * i + 3 * t + w) / 24 = i := by omega
  have e8 : (24 * i + 3 * t + w) / 3 % 8 = t := by omega
  have e3 : (24 * i + 3 * t + w) % 3 = w := by omega
  unfold flS lbG
  rw [e24, e8, e3]
theorem l_best50 {a : Rw} {f : Int32} {i t : Nat} {m0 : Mm} {K : Mm → Prop} {kb7 : Int32 → Mm → Prop} {kb15 : Int32 → Int32 → Mm → Prop} (hw : Wm a) (hi : i < nm a) (ht : t < 8) (hb : inB (stS a) i) (hK : ∀ m, (∀ q, q ≠ 40 → m q = m0 q) → BsC a f (24 * i + 3 * (t + 1)) m → kb15 (nI i) (nI (t + 1)) m) : ∀ (d w : Nat) (m : Mm), w + d = 3 → (∀ q, q ≠ 40 → m q = m0 q) → BsC a f (24 * i + 3 * t + w) m → L_X2_findBest_50 kb7 kb15 K (d + 1) (nI i) (nI t) (bZ (decide (fbB a f (stS a) i (nI t)))) (nI w - 1) m := by
  intro d
  have h9 := hw.2.1
  induction d with
  | zero =>
    intro w m hw0 h0 hB
    have c0 : w = 3 := by omega
    subst c0
    unfold L_X2_findBest_50
    refine ct1 (by decide) ?_
    rw [nI_1]
    exact hK m h0 hB
  | succ d ih =>
    intro w m hw0 h0 hB
    have hS := SbR.st hw
    unfold L_X2_findBest_50
    refine cf1 (tb_turn w (by omega)).1 ?_
    have fin : ∀ left : Nat, left = flS a f (stS a) (24 * i + 3 * t + w) → B_X2_findBest_80 kb7 kb15 (fun zl1 zl2 zl3 zl4 zm => L_X2_findBest_50 kb7 kb15 K (d + 1) zl1 zl2 zl3 zl4 zm) K (nI i) (nI t) (bZ (decide (fbB a f (stS a) i (nI t)))) (nI w - 1) (nI left) m := by
      intro left hleft
      have hL : SbR a left := by rw [hleft]; exact hS.fl h9 (by omega)
      refine s_best80 hw ht (by omega) hb hB hleft (hL.l5 h9) hL.2.2 (fun m2 q0 hB2 => ?_)
      exact ih (w + 1) m2 (by omega) (fun q nq => by rw [q0 q nq]; exact h0 q nq) hB2
    have e5 := hB.1.1
    rw [e5]
    by_cases c1 : fbB a f (stS a) i (nI t)
    · rw [decide_eq_true c1] at fin ⊢
      refine cf1 (by decide) (s_leftBehind h9 hB.1 ht 12 (stS a) i 0 _ (by omega) hi hb (by omega) hS (fin _ ?_))
      rw [fl_lb ht (by omega), if_pos c1]
    · rw [decide_eq_false c1] at fin ⊢
      refine ct1 (by decide) (fin _ ?_)
      rw [fl_lb ht (by omega), if_neg c1]
theorem l_best15 {a : Rw} {f : Int32} {i : Nat} {m0 : Mm} {K : Mm → Prop} {kb7 : Int32 → Mm → Prop} (hw : Wm a) (hi : i < 9) (hK : ∀ m, (∀ q, q ≠ 40 → m q = m0 q) → BsC a f (24 * (i + 1)) m → kb7 (nI (i + 1)) m) : ∀ (d t : Nat) (m : Mm), t + d = 8 → (∀ q, q ≠ 40 → m q = m0 q) → BsC a f (24 * i + 3 * t) m → (inB (stS a) i ∨ t = 0) → L_X2_findBest_15 kb7 K (d + 1) (nI i) (nI t) m := by
  intro d
  have h9 := hw.2.1
  have hS := SbR.st hw
  induction d with
  | zero =>
    intro t m ht h0 hB _
    have c0 : t = 8 := by omega
    subst c0
    unfold L_X2_findBest_15
    refine ct1 (by decide) ?_
    rw [nI_1]
    refine hK m h0 ?_
    rw [show 24 * (i + 1) = 24 * i + 3 * 8 by omega]
    exact hB
  | succ d ih =>
    intro t m ht h0 hB ho
    unfold L_X2_findBest_15
    refine cf1 (nI_ge (a := t) (b := 8) (by omega) (by omega)) ?_
    rw [hB.1.1]
    refine s_isIn hi (stS_lt hw) ?_
    by_cases c1 : inB (stS a) i
    · rw [decide_eq_true c1]
      have hin := hS.in9 h9 (by omega) c1
      have en : nbI i = nI i := by unfold nbI; rw [if_neg (by omega)]
      refine zt1 ?_
      rw [hB.1.2.1, hB.1.1, ← en]
      refine s_fallsBy h9 hB.1 (by omega) hS (by omega) ⟨3 + 1, ?_⟩
      rw [en]
      refine l_best50 hw hin (by omega) c1 (fun m2 q0 hB2 => ?_) 3 0 m (by omega) (fun _ _ => rfl) hB
      exact ih (t + 1) m2 (by omega) (fun q nq => by rw [q0 q nq]; exact h0 q nq) hB2 (Or.inl c1)
    · rw [decide_eq_false c1]
      have ct0 : t = 0 := by
        rcases ho with z | z
        · exact absurd z c1
        · exact z
      subst ct0
      refine zf1 ?_
      rw [nI_1]
      refine hK m h0 ?_
      obtain ⟨y1, y2⟩ := bs_skip (a := a) (f := f) c1 24 (by omega)
      obtain ⟨z1, z2, z3⟩ := hB
      have e0 : 24 * i + 3 * 0 = 24 * i := by omega
      rw [e0] at z2 z3
      unfold BsC
      rw [show 24 * (i + 1) = 24 * i + 24 by omega, y1, y2]
      exact ⟨z1, z2, z3⟩
theorem l_best7 {a : Rw} {f : Int32} {m0 : Mm} {K : Mm → Prop} (hw : Wm a) (hK : ∀ m, (∀ q, q ≠ 40 → m q = m0 q) → BsC a f 216 m → K m) : ∀ (d i : Nat) (m : Mm), i + d = 9 → (∀ q, q ≠ 40 → m q = m0 q) → BsC a f (24 * i) m → L_X2_findBest_7 K (d + 1) (nI i) m := by
  intro d
  induction d with
  | zero =>
    intro i m hi h0 hB
    have c0 : i = 9 := by omega
    subst c0
    unfold L_X2_findBest_7
    exact ct1 (by decide) (hK m h0 hB)
  | succ d ih =>
    intro i m hi h0 hB
    unfold L_X2_findBest_7
    refine cf1 (nI_ge (a := i) (b := 9) (by omega) (by omega)) ⟨8 + 1, l_best15 hw (by omega) (fun m2 q0 hB2 => ?_) 8 0 m (by omega) (fun _ _ => rfl) hB (Or.inr rfl)⟩
    exact ih (i + 1) m2 (by omega) (fun q nq => by rw [q0 q nq]; exact h0 q nq) hB2
theorem s_findBest {a : Rw} {f : Int32} {mem : Mm} {K : Mm → Prop} (hw : Wm a) (hT : TbR a f mem) (hK : ∀ m, (∀ q, q ≠ 40 → m q = mem q) → BsC a f 216 m → K m) : W_X2_findBest mem K := by
  unfold W_X2_findBest
  intro m1 e1
  have q1 : ∀ q, q ≠ 40 → m1 q = mem q := fun q nq => by rw [e1, mu_row_n _ _ _ nq]
  refine ⟨9 + 1, l_best7 hw (fun m2 q2 hB => hK m2 (fun q nq => by rw [q2 q nq]; exact q1 q nq) hB) 9 0 m1 (by omega) (fun _ _ => rfl) ⟨hT.k40 q1 (by rw [e1, mu_j _ _ _ (by omega)]) (by rw [e1, mu_j _ _ _ (by omega)]), by rw [e1, mu_s]; rfl, Or.inl rfl⟩⟩
theorem Iv.sr {c : Nat} {mem m m2 : Mm} (h : Iv c mem) (f1 : Fr P40 mem m) (f2 : Fr (fun q => q = 82 ∨ q = 83 ∨ (85 ≤ q ∧ q ≤ 87) ∨ q = 95 ∨ q = 96) m m2) (e83 : m2 83 = mem 83) (h82 : ∀ j, j ≠ 4 → m2 82 j = mem 82 j) : Iv (c + 1) m2 := by
  have F : Fr PFr mem m2 := (f1.mono (fun q hq => by omega)).trans (f2.mono (fun q hq => by omega))
  have F2 : Fr (fun q => (40 ≤ q ∧ q ≤ 44) ∨ q = 82 ∨ q = 83 ∨ (85 ≤ q ∧ q ≤ 87) ∨ q = 95 ∨ q = 96) mem m2 := (f1.mono (fun q hq => by omega)).trans (f2.mono (fun q hq => by omega))
  refine h.al F (h82 3 (by omega)) (h82 9 (by omega)) (h82 35 (by omega)) ?_
  unfold Iv1
  rw [e83]
  exact ⟨h.1.1.fr F2 h.1.2.1.2.1 (by omega) (by omega) (fun q a1 a2 => by omega) (fun q a1 => by omega), h.1.2⟩
theorem m24 (n : Nat) : 24 * nI n = nI (24 * n) := pk_mul 24 n
set_option maxHeartbeats 4000000 in
theorem l_best9 {a : Rw} {f w1 p0 p1 : Int32} {m0 : Mm} {K : Int32 → Mm → Prop} (ha : Wm a) (hW : Wt a) (h85 : ∀ j, j < 1433 → m0 85 j = a j) (hn0 : ¬ bsM a f (stS a) (24 * nm a) = -1)
    (hK : ∀ m, Fr (fun q => q = 82 ∨ q = 83 ∨ (86 ≤ q ∧ q ≤ 87) ∨ q = 95 ∨ q = 96) m0 m → m 83 = a → (∀ j, j ≠ 4 → m 82 j = m0 82 j) → K (if w1 = 0 then bsM a f (stS a) (24 * nm a) else if w1 = 1 then nI (bsB a f (stS a) (24 * nm a) / 24) else if w1 = 2 then nI (bsB a f (stS a) (24 * nm a) / 3 % 8) else nI (bsB a f (stS a) (24 * nm a) % 3)) m) :
    ∀ (r k : Nat) (l4 : Int32) (m : Mm), k + r = 24 * nm a → ThR a m0 m → ((bsM a f (stS a) k = -1 ∧ l4 = -1) ∨ (l4 = nI (bsB a f (stS a) k) ∧ bsB a f (stS a) k < 216)) → L_X9_best_47 p0 p1 K (r + 1) f w1 (nI (stS a)) l4 (bsM a f (stS a) k) (nI k) m := by
  intro r
  have h9 := ha.2.1
  have hS := SbR.st ha
  induction r with
  | zero =>
    intro k l4 m hk hT hl
    have c0 : k = 24 * nm a := by omega
    subst c0
    have e1 : m 83 1 = nI (nm a) := by rw [hT.2.1 1 (by unfold Kq; omega)]; exact ha.1
    unfold L_X9_best_47
    rw [e1, m24]
    refine ct1 (nI_le (Nat.le_refl _) (by omega)) (s_putsBack (a := a) (fun j hj => by rw [hT.1.c 85 (by omega) (by omega)]; exact h85 j hj) (fun j hj => hT.2.1 j (by unfold Kq; omega)) (fun m2 f2 e2 => ?_))
    have kk := hK m2 (hT.1.trans (f2.mono (fun q hq => by omega))) e2 (fun j nj => by rw [f2.c 82 (by omega) (by omega)]; exact hT.2.2.2 j nj)
    rcases hl with ⟨z, _⟩ | ⟨el, hb⟩
    · exact absurd z hn0
    · rw [el]
      have e24 : nI (bsB a f (stS a) (24 * nm a)) / 24 = nI (bsB a f (stS a) (24 * nm a) / 24) := pk_div (d := 24) (by omega) (by omega) (by omega)
      have e3 : nI (bsB a f (stS a) (24 * nm a)) / 3 = nI (bsB a f (stS a) (24 * nm a) / 3) := pk_div (d := 3) (by omega) (by omega) (by omega)
      have e8 : nI (bsB a f (stS a) (24 * nm a) / 3) - nI (bsB a f (stS a) (24 * nm a) / 3) / 8 * 8 = nI (bsB a f (stS a) (24 * nm a) / 3 % 8) := pk_rem (d := 8) (by omega) (by omega) (by omega)
      have er : nI (bsB a f (stS a) (24 * nm a)) - nI (bsB a f (stS a) (24 * nm a) / 3) * 3 = nI (bsB a f (stS a) (24 * nm a) % 3) := by
        rw [← e3]
        exact pk_rem (d := 3) (by omega) (by omega) (by omega)
      rw [e24, e3, e8, er]
      refine ⟨fun y0 => ⟨fun y1 => ⟨fun y2 => ?_, fun y2 => ?_⟩, fun y1 => ?_⟩, fun y0 => ?_⟩
      · rw [if_neg y0, if_neg y1, if_neg y2] at kk; exact kk
      · rw [if_neg y0, if_neg y1, if_pos y2] at kk; exact kk
      · rw [if_neg y0, if_pos y1] at kk; exact kk
      · rw [if_pos y0] at kk; exact kk
  | succ r ih =>
    intro k l4 m hk hT hl
    have e1 : m 83 1 = nI (nm a) := by rw [hT.2.1 1 (by unfold Kq; omega)]; exact ha.1
    unfold L_X9_best_47
    rw [e1, m24]
    refine cf1 (nI_ge (by omega) (by omega)) (s_fellBy ha hW h85 hS.1 (by omega) hT (fun m2 T2 _ _ _ _ _ => ?_))
    have e24 : nI k / 24 = nI (k / 24) := pk_div (d := 24) (by omega) (by omega) (by omega)
    rw [e24, tb_shr _ (by omega) (stS a) (stS_lt ha)]
    have keep : ¬ (inB (stS a) (k / 24) ∧ ¬ nI (fkS a f (stS a) k) ≤ bsM a f (stS a) k) → B_X9_best_96 p0 p1 (fun zl1 zl2 zl3 zl4 zl5 zl6 zm => L_X9_best_47 p0 p1 K (r + 1) zl1 zl2 zl3 zl4 zl5 zl6 zm) K f w1 (nI (stS a)) l4 (bsM a f (stS a) k) (nI k) (nI (fkS a f (stS a) k)) 0 m2 := by
      intro hno
      have y1 : bsM a f (stS a) (k + 1) = bsM a f (stS a) k := by
        show (if _ then _ else _) = _
        rw [if_neg hno]
      have y2 : bsB a f (stS a) (k + 1) = bsB a f (stS a) k := by
        show (if _ then _ else _) = _
        rw [if_neg hno]
      unfold B_X9_best_96
      rw [nI_1]
      have z := ih (k + 1) l4 m2 (by omega) T2 (by rw [y1, y2]; exact hl)
      rw [y1] at z
      exact ct1 rfl (ct1 rfl z)
    by_cases c1 : inB (stS a) (k / 24)
    · rw [show nI (stS a / 2 ^ (k / 24) % 2) = nI 1 from congrArg nI c1]
      refine ct2 rfl ⟨fun hc => keep (fun z => z.2 hc), fun hc => ?_⟩
      have y1 : bsM a f (stS a) (k + 1) = nI (fkS a f (stS a) k) := by
        show (if _ then _ else _) = _
        rw [if_pos ⟨c1, hc⟩]
      have y2 : bsB a f (stS a) (k + 1) = k := by
        show (if _ then _ else _) = _
        rw [if_pos ⟨c1, hc⟩]
      unfold B_X9_best_96
      rw [nI_1]
      have z := ih (k + 1) (nI k) m2 (by omega) T2 (Or.inr ⟨by rw [y2], by rw [y2]; omega⟩)
      rw [y1] at z
      exact cf1 (by decide) (cf1 (by decide) z)
    · have c2 : stS a / 2 ^ (k / 24) % 2 = 0 := by unfold inB at c1; omega
      rw [c2]
      exact cf2 (by decide) (keep (fun z => c1 z.1))
theorem bsB_lt (a : Rw) (f : Int32) (s : Nat) : ∀ k, k ≤ 216 → bsB a f s k < 216 := by
  intro k
  induction k with
  | zero => intro _; exact (show 0 < 216 by omega)
  | succ k ih =>
    intro hk
    unfold bsB
    split
    · omega
    · exact ih (by omega)
set_option maxHeartbeats 4000000 in
theorem ak_best {c : Nat} (w0 w1 : Int32) (mem : Mm) (h : Iv c mem) : W_X8_best w0 w1 mem (fun v m => W_X9_best w0 w1 m (fun v2 m2 => v = v2 ∧ Iv (c + 1) m2)) := by
  obtain ⟨hA, hR⟩ := h.1
  have hw := hR.1
  have hW := hR.2.1
  have h9 := hw.2.1
  unfold W_X8_best
  by_cases c0 : 0 ≤ w0 ∧ w0 ≤ 99
  · refine s_iw_y c0 ?_
    first | refine zt1 ?_ | refine zt2 ?_
    by_cases c1 : 0 ≤ w1 ∧ w1 ≤ 3
    · have c1b := c1
      obtain ⟨wh, hwh, rfl⟩ := Rg.of (y := 3) (n := 3) rfl c1
      refine s_iw_y c1b ?_
      first | refine zt1 ?_ | refine zt2 ?_
      refine s_X0_standing hw hA.1 ?_
      obtain ⟨z1, z2⟩ := pc9_0 (stS (mem 83)) (stS_lt hw)
      by_cases cz : stS (mem 83) = 0
      · first | refine ct1 (z2.mpr cz) ?_ | refine ct2 (z2.mpr cz) ?_
        show W_X9_best _ _ _ _
        unfold W_X9_best
        refine s_in_y c0 ?_
        first | refine zt1 ?_ | refine zt2 ?_
        refine s_in_y c1b ?_
        first | refine zt1 ?_ | refine zt2 ?_
        refine s_X9_standing hw ?_
        first | refine ct1 (z1.mpr cz) ?_ | refine ct2 (z1.mpr cz) ?_
        exact ⟨rfl, h.up⟩
      · first | refine cf1 (fun z => cz (z2.mp z)) ?_ | refine cf2 (fun z => cz (z2.mp z)) ?_
        refine s_lookAt hw hW hA (fun m1 f1 T1 => ?_)
        refine s_findBest hw T1 (fun m2 q2 hB => ?_)
        have f2 : Fr P40 mem m2 := f1.trans ⟨fun q p1 _ => q2 q (by omega), fun q p1 => by unfold iSt at p1; rw [q2 q (by omega)]⟩
        have q83 : m2 83 = mem 83 := f2.c 83 (by omega) (by omega)
        have q82 : m2 82 = mem 82 := f2.c 82 (by omega) (by omega)
        obtain ⟨i0, hi0, hd0⟩ := st_ex (a := mem 83) (n := nm (mem 83)) cz
        have hb0 : inB (stS (mem 83)) i0 := (stN_bit h9 hi0).mpr hd0
        have n0 : ¬ bsM (mem 83) w0 (stS (mem 83)) (24 * nm (mem 83)) = -1 := bs_pos hb0 _ (by omega)
        obtain ⟨r1, r2⟩ := bs_rest (a := mem 83) (f := w0) h9 (stN_lt (mem 83) (nm (mem 83))) (9 - nm (mem 83)) (by omega)
        have e216 : 24 * (nm (mem 83) + (9 - nm (mem 83))) = 216 := by omega
        rw [e216] at r1 r2
        have r1b : bsM (mem 83) w0 (stS (mem 83)) 216 = bsM (mem 83) w0 (stS (mem 83)) (24 * nm (mem 83)) := r1
        have r2b : bsB (mem 83) w0 (stS (mem 83)) 216 = bsB (mem 83) w0 (stS (mem 83)) (24 * nm (mem 83)) := r2
        obtain ⟨b1, b2, b3⟩ := hB
        rw [r1b] at b2 b3
        rw [r2b] at b3
        have ref : ∀ v : Int32, (v = if nI wh = 0 then bsM (mem 83) w0 (stS (mem 83)) (24 * nm (mem 83)) else if nI wh = 1 then nI (bsB (mem 83) w0 (stS (mem 83)) (24 * nm (mem 83)) / 24) else if nI wh = 2 then nI (bsB (mem 83) w0 (stS (mem 83)) (24 * nm (mem 83)) / 3 % 8) else nI (bsB (mem 83) w0 (stS (mem 83)) (24 * nm (mem 83)) % 3)) → W_X9_best w0 (nI wh) m2 (fun v2 m2 => v = v2 ∧ Iv (c + 1) m2) := by
          intro v ev1
          unfold W_X9_best
          refine s_in_y c0 ?_
          first | refine zt1 ?_ | refine zt2 ?_
          refine s_in_y c1b ?_
          first | refine zt1 ?_ | refine zt2 ?_
          refine s_X9_standing (by rw [q83]; exact hw) ?_
          rw [q83]
          first | refine cf1 (fun z => cz (z1.mp z)) ?_ | refine cf2 (fun z => cz (z1.mp z)) ?_
          refine s_thinks (fun m3 f3 e3 => ?_)
          have g83 : m3 83 = mem 83 := by rw [f3.c 83 (by omega) (by omega)]; exact q83
          refine ⟨24 * nm (mem 83) + 1, l_best9 (a := mem 83) (f := w0) hw hW (fun j hj => by rw [e3 j hj, q83]) n0 (fun m4 f4 e4 u4 => ⟨ev1, ?_⟩) (24 * nm (mem 83)) 0 (-1) m3 (by omega) ⟨Fr.refl _ _, by rw [g83]; exact fun q _ => rfl, by rw [g83]; exact hw, fun _ _ => rfl⟩ (Or.inl ⟨rfl, rfl⟩)⟩
          refine h.sr f2 ((f3.mono (fun q hq => by omega)).trans (f4.mono (fun q hq => by omega))) e4 (fun j nj => ?_)
          rw [u4 j nj, f3.c 82 (by omega) (by omega), q82]
        rcases b3 with b3 | ⟨b3, b4, b5⟩
        · exact absurd b3 n0
        · refine ⟨fun y0 => ref _ ?_, fun y0 => ⟨fun y1 => ref _ ?_, fun y1 => ⟨fun y2 => ref _ ?_, fun y2 => ref _ ?_⟩⟩⟩
          · rw [if_pos y0]; exact b2
          · rw [if_neg y0, if_pos y1]; exact b3
          · rw [if_neg y0, if_neg y1, if_pos y2]; exact b4
          · rw [if_neg y0, if_neg y1, if_neg y2, b5, Int32.sub_add_cancel]
    · refine s_iw_n c1 ?_
      first | refine zf1 ?_ | refine zf2 ?_
      show W_X9_best _ _ _ _
      unfold W_X9_best
      refine s_in_y c0 ?_
      first | refine zt1 ?_ | refine zt2 ?_
      refine s_in_n c1 ?_
      first | refine zf1 ?_ | refine zf2 ?_
      exact ⟨rfl, h.up⟩
  · refine s_iw_n c0 ?_
    first | refine zf1 ?_ | refine zf2 ?_
    show W_X9_best _ _ _ _
    unfold W_X9_best
    refine s_in_n c0 ?_
    first | refine zf1 ?_ | refine zf2 ?_
    exact ⟨rfl, h.up⟩
