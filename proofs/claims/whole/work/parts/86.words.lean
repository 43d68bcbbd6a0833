section
/-! THE CLASS READS WORDS -/
def cb (b : Nat) : Int32 := (nI b).toInt8.toInt32
theorem cb_lo : ∀ b, b < 128 → cb b = nI b := by decide +kernel
theorem cb_hi : ∀ b, b < 256 → 128 ≤ b → cb b < 0 := by decide +kernel
theorem cb_in {b x y : Nat} (hb : b < 256) (hy : y < 128) : (nI x ≤ cb b ∧ cb b ≤ nI y) ↔ (x ≤ b ∧ b ≤ y) ∨ (nI x ≤ cb b ∧ cb b ≤ nI y ∧ 128 ≤ b) ∨ (2 ^ 31 ≤ x ∧ nI x ≤ cb b ∧ cb b ≤ nI y) := by
  constructor
  · intro h
    by_cases c1 : b < 128
    · rw [cb_lo b c1] at h ⊢
      by_cases c2 : x < 2 ^ 31
      · have q1 := (nI_leI c2 (show b < 2 ^ 31 by omega)).mp h.1
        have q2 := (nI_leI (show b < 2 ^ 31 by omega) (show y < 2 ^ 31 by omega)).mp h.2
        exact Or.inl ⟨q1, q2⟩
      · exact Or.inr (Or.inr ⟨by omega, h⟩)
    · exact Or.inr (Or.inl ⟨h.1, h.2, by omega⟩)
  · rintro (h | h | h)
    · rw [cb_lo b (by omega)]
      exact ⟨nI_le h.1 (by omega), nI_le h.2 (by omega)⟩
    · exact ⟨h.1, h.2.1⟩
    · exact h.2
theorem cb_wi {b x y : Nat} (hb : b < 256) (hx : x < 128) (hy : y < 128) : (nI x ≤ cb b ∧ cb b ≤ nI y) ↔ (x ≤ b ∧ b ≤ y) := by
  rw [cb_in hb hy]
  constructor
  · rintro (h | h | h)
    · exact h
    · exfalso
      have q1 := cb_hi b hb h.2.2
      have q2 := h.1
      have q3 : (0 : Int32) ≤ nI x := nI_pos' (by omega)
      rw [Int32.lt_iff_toInt_lt] at q1
      rw [Int32.le_iff_toInt_le] at q2 q3
      omega
    · exfalso; omega
  · exact Or.inl
theorem cb_eq {b x : Nat} (hb : b < 256) (hx : x < 128) : cb b = nI x ↔ b = x := by
  constructor
  · intro h
    have z := (cb_wi hb hx hx).mp ⟨by rw [h]; exact nI_le (Nat.le_refl _) (by omega), by rw [h]; exact nI_le (Nat.le_refl _) (by omega)⟩
    omega
  · intro h; rw [h]; exact cb_lo x hx
/-- the tape of the class -/
def TpC (T : Nat → Nat) (n : Nat) (m : Mm) : Prop := m 46 1 = nI n ∧ n ≤ 96 ∧ ∀ i, i < 96 → T i < 256 ∧ m 47 i = cb (T i)
theorem TpC.mv {T : Nat → Nat} {n : Nat} {m m2 : Mm} (h : TpC T n m) (h5 : m2 46 = m 46) (h6 : m2 47 = m 47) : TpC T n m2 := by
  unfold TpC
  rw [h5, h6]
  exact h
theorem s7_byteAt {T : Nat → Nat} {n p : Nat} {m : Mm} {K : Int32 → Mm → Prop} (hT : TpC T n m) (hp : p < 96) (h : K (cb (T p)) m) : W_X7_byteAt (nI p) m K := by
  unfold W_X7_byteAt
  refine s_iw_y ⟨nI_pos' (by omega), nI_le (b := 95) (by omega) (by omega)⟩ ?_
  first | refine zt1 ?_ | refine zt2 ?_
  refine ⟨p, rfl, hp, ?_⟩
  show K (m 47 p) m
  rw [(hT.2.2 p hp).2]
  exact h
theorem s7_sortAt {T : Nat → Nat} {n p : Nat} {m : Mm} {K : Int32 → Mm → Prop} (hT : TpC T n m) (hp : p ≤ 96) (h : K (nI (srt T n p)) m) : W_X7_sortAt (nI p) m K := by
  have hn := hT.2.1
  unfold W_X7_sortAt
  rw [hT.1]
  unfold srt at h
  by_cases c1 : n ≤ p
  · rw [if_pos c1] at h
    first | refine cf1 (Int32.not_lt.mpr (nI_le c1 (by omega))) ?_ | refine cf2 (Int32.not_lt.mpr (nI_le c1 (by omega))) ?_
    exact h
  · rw [if_neg c1] at h
    first | refine ct1 (nI_lt (by omega) (by omega)) ?_ | refine ct2 (nI_lt (by omega) (by omega)) ?_
    refine s7_byteAt hT (by omega) ?_
    have hb := (hT.2.2 p (by omega)).1
    by_cases c2 : 97 ≤ T p ∧ T p ≤ 122
    · rw [if_pos c2] at h
      refine s_iw_y ((cb_wi (x := 97) (y := 122) hb (by omega) (by omega)).mpr c2) ?_
      first | refine zt1 ?_ | refine zt2 ?_
      exact h
    · rw [if_neg c2] at h
      refine s_iw_n (fun z => c2 ((cb_wi (x := 97) (y := 122) hb (by omega) (by omega)).mp z)) ?_
      first | refine zf1 ?_ | refine zf2 ?_
      by_cases c3 : 48 ≤ T p ∧ T p ≤ 57
      · rw [if_pos c3] at h
        refine s_iw_y ((cb_wi (x := 48) (y := 57) hb (by omega) (by omega)).mpr c3) ?_
        first | refine zt1 ?_ | refine zt2 ?_
        exact h
      · rw [if_neg c3] at h
        refine s_iw_n (fun z => c3 ((cb_wi (x := 48) (y := 57) hb (by omega) (by omega)).mp z)) ?_
        first | refine zf1 ?_ | refine zf2 ?_
        exact h
def wrd (s : Nat) : Bool := s == 1 || s == 2
theorem s7_isWord {s : Nat} {m : Mm} {K : Bool → Mm → Prop} (h1 : m 45 1 = nI s) (hs : s ≤ 3) (h : K (wrd s) m) : W_X7_isWord m K := by
  unfold W_X7_isWord
  rw [h1]
  have e : s = 0 ∨ s = 1 ∨ s = 2 ∨ s = 3 := by omega
  rcases e with rfl | rfl | rfl | rfl
  · first | refine cf1 (by decide) ?_ | refine cf2 (by decide) ?_
    first | refine cf1 (by decide) ?_ | refine cf2 (by decide) ?_
    exact h
  · first | refine ct1 (by decide) ?_ | refine ct2 (by decide) ?_
    exact h
  · first | refine cf1 (by decide) ?_ | refine cf2 (by decide) ?_
    first | refine ct1 (by decide) ?_ | refine ct2 (by decide) ?_
    exact h
  · first | refine cf1 (by decide) ?_ | refine cf2 (by decide) ?_
    first | refine cf1 (by decide) ?_ | refine cf2 (by decide) ?_
    exact h
theorem l7_skip {T : Nat → Nat} {n : Nat} {m0 : Mm} {K : Mm → Prop} {l1 l2 : Int32} (hT : TpC T n m0) : ∀ (k p : Nat) (m : Mm), p + k = n → (∀ q, q ≠ 45 → m q = m0 q) → (∀ j, j ≠ 2 → m 45 j = m0 45 j) → m 45 2 = nI p → (∀ m2 : Mm, (∀ q, q ≠ 45 → m2 q = m0 q) → (∀ j, j ≠ 2 → m2 45 j = m0 45 j) → m2 45 2 = nI (skp T k p) → B_X7_nextWord_58 K l1 l2 m2) → L_X7_nextWord_18 K (k + 1) l1 l2 m := by
  intro k
  induction k with
  | zero =>
    intro p m hp h1 h2 h3 hK
    have hTm : TpC T n m := hT.mv (h1 46 (by omega)) (h1 47 (by omega))
    have hn := hT.2.1
    unfold L_X7_nextWord_18
    first | refine ct1 (by rw [hTm.1, h3]; exact nI_le (by omega) (by omega)) ?_ | refine ct2 (by rw [hTm.1, h3]; exact nI_le (by omega) (by omega)) ?_
    exact hK m h1 h2 h3
  | succ k ih =>
    intro p m hp h1 h2 h3 hK
    have hTm : TpC T n m := hT.mv (h1 46 (by omega)) (h1 47 (by omega))
    have hn := hT.2.1
    unfold L_X7_nextWord_18
    first | refine cf1 (by rw [hTm.1, h3]; exact nI_ge (by omega) (by omega)) ?_ | refine cf2 (by rw [hTm.1, h3]; exact nI_ge (by omega) (by omega)) ?_
    rw [h3]
    refine s7_byteAt hTm (by omega) ?_
    have hb := (hT.2.2 p (by omega)).1
    by_cases c1 : T p = 32
    · first | refine ct1 ((cb_eq (x := 32) hb (by omega)).mpr c1) ?_ | refine ct2 ((cb_eq (x := 32) hb (by omega)).mpr c1) ?_
      intro m2 e2
      rw [h3, nI_1] at e2
      refine ih (p + 1) m2 (by omega) (fun q nq => ?_) (fun j nj => ?_) ?_ (fun m3 a1 a2 a3 => hK m3 a1 a2 ?_)
      · rw [e2, mu_row_n _ _ _ nq]; exact h1 q nq
      · rw [e2, mu_j _ _ _ nj]; exact h2 j nj
      · rw [e2, mu_s]
      · rw [a3]
        show nI (skp T k (p + 1)) = nI (if T p = 32 then skp T k (p + 1) else p)
        rw [if_pos c1]
    · first | refine cf1 (fun z => c1 ((cb_eq (x := 32) hb (by omega)).mp z)) ?_ | refine cf2 (fun z => c1 ((cb_eq (x := 32) hb (by omega)).mp z)) ?_
      refine hK m h1 h2 ?_
      rw [h3]
      show nI p = nI (if T p = 32 then skp T k (p + 1) else p)
      rw [if_neg c1]
theorem l7_ext {T : Nat → Nat} {n s : Nat} {m0 : Mm} {K : Mm → Prop} {l1 l2 : Int32} (hT : TpC T n m0) (hs : s = 1 ∨ s = 2) (h01 : m0 45 1 = nI s) : ∀ (k p : Nat) (m : Mm), p + k = n → (∀ q, q ≠ 45 → m q = m0 q) → (∀ j, j ≠ 3 → m 45 j = m0 45 j) → m 45 3 = nI p → (∀ m2 : Mm, (∀ q, q ≠ 45 → m2 q = m0 q) → (∀ j, j ≠ 3 → m2 45 j = m0 45 j) → m2 45 3 = nI (exw T n s k p) → B_X7_nextWord_150 K l1 l2 m2) → L_X7_nextWord_101 K (k + 1) l1 l2 m := by
  have hw : wrd s = true := by rcases hs with rfl | rfl <;> rfl
  intro k
  induction k with
  | zero =>
    intro p m hp h1 h2 h3 hK
    have hTm : TpC T n m := hT.mv (h1 46 (by omega)) (h1 47 (by omega))
    have hn := hT.2.1
    unfold L_X7_nextWord_101
    refine s7_isWord (s := s) (by rw [h2 1 (by omega)]; exact h01) (by omega) ?_
    rw [hw]
    first | refine zt1 ?_ | refine zt2 ?_
    first | refine ct1 (by rw [hTm.1, h3]; exact nI_le (by omega) (by omega)) ?_ | refine ct2 (by rw [hTm.1, h3]; exact nI_le (by omega) (by omega)) ?_
    exact hK m h1 h2 h3
  | succ k ih =>
    intro p m hp h1 h2 h3 hK
    have hTm : TpC T n m := hT.mv (h1 46 (by omega)) (h1 47 (by omega))
    have hn := hT.2.1
    have hsl := srt_le T n p
    unfold L_X7_nextWord_101
    refine s7_isWord (s := s) (by rw [h2 1 (by omega)]; exact h01) (by omega) ?_
    rw [hw]
    first | refine zt1 ?_ | refine zt2 ?_
    first | refine cf1 (by rw [hTm.1, h3]; exact nI_ge (by omega) (by omega)) ?_ | refine cf2 (by rw [hTm.1, h3]; exact nI_ge (by omega) (by omega)) ?_
    rw [h3]
    refine s7_sortAt hTm (by omega) ?_
    rw [h2 1 (by omega), h01]
    by_cases c1 : srt T n p = s
    · first | refine ct1 (by rw [c1]) ?_ | refine ct2 (by rw [c1]) ?_
      intro m2 e2
      rw [h3, nI_1] at e2
      refine ih (p + 1) m2 (by omega) (fun q nq => ?_) (fun j nj => ?_) ?_ (fun m3 a1 a2 a3 => hK m3 a1 a2 ?_)
      · rw [e2, mu_row_n _ _ _ nq]; exact h1 q nq
      · rw [e2, mu_j _ _ _ nj]; exact h2 j nj
      · rw [e2, mu_s]
      · rw [a3]
        show nI (exw T n s k (p + 1)) = nI (if srt T n p = s then exw T n s k (p + 1) else p)
        rw [if_pos c1]
    · first | refine cf1 (fun z => c1 ((nI_eq (show srt T n p < 2 ^ 31 by omega) (show s < 2 ^ 31 by omega)).mp z)) ?_ | refine cf2 (fun z => c1 ((nI_eq (show srt T n p < 2 ^ 31 by omega) (show s < 2 ^ 31 by omega)).mp z)) ?_
      refine hK m h1 h2 ?_
      rw [h3]
      show nI p = nI (if srt T n p = s then exw T n s k (p + 1) else p)
      rw [if_neg c1]
/-- what the class knows of the word that it read -/
def glu (T : Nat → Nat) (n e ps : Nat) : Prop := wrd ps = true ∧ srt T n (wFm T n e) ≤ 2 ∧ wFm T n e = e
def CWd (T : Nat → Nat) (n e ps : Nat) (m : Mm) : Prop := m 45 1 = nI (srt T n (wFm T n e)) ∧ m 45 2 = nI (wFm T n e) ∧ m 45 3 = nI (wTo T n (wFm T n e)) ∧ (srt T n (wFm T n e) ≠ 0 → (glu T n e ps → m 45 4 = 1) ∧ (¬ glu T n e ps → m 45 4 = 0))
theorem b7_150 {T : Nat → Nat} {n e ps : Nat} {m : Mm} {K : Mm → Prop} (h1 : m 45 1 = nI (srt T n (wFm T n e))) (h2 : m 45 2 = nI (wFm T n e)) (h3 : m 45 3 = nI (wTo T n (wFm T n e))) (hn : n ≤ 96) (he : e ≤ n) (hK : ∀ m2 : Mm, (∀ q, q ≠ 45 → m2 q = m q) → (∀ j, 5 ≤ j → m2 45 j = m 45 j) → CWd T n e ps m2 → K m2) : B_X7_nextWord_150 K (bZ (wrd ps)) (nI e) m := by
  have hsl := srt_le T n (wFm T n e)
  have hfl := wFm_le (T := T) he
  have fin : ∀ v : Int32, (srt T n (wFm T n e) ≠ 0 → (glu T n e ps → v = 1) ∧ (¬ glu T n e ps → v = 0)) → ∀ m2 : Mm, m2 = mu m 45 4 v → K m2 := by
    intro v hv m2 e2
    refine hK m2 (fun q nq => by rw [e2, mu_row_n _ _ _ nq]) (fun j hj => by rw [e2, mu_j _ _ _ (by omega)]) ⟨by rw [e2, mu_j _ _ _ (by omega)]; exact h1, by rw [e2, mu_j _ _ _ (by omega)]; exact h2, by rw [e2, mu_j _ _ _ (by omega)]; exact h3, ?_⟩
    rw [e2, mu_s]
    exact hv
  unfold B_X7_nextWord_150
  cases hw : wrd ps with
  | false =>
    first | refine ct1 (by decide) ?_ | refine ct2 (by decide) ?_
    exact fin 0 (fun _ => ⟨fun g => absurd (hw.symm.trans g.1) (by decide), fun _ => rfl⟩)
  | true =>
    first | refine cf1 (by decide) ?_ | refine cf2 (by decide) ?_
    refine s7_isWord h1 hsl ?_
    cases hw2 : wrd (srt T n (wFm T n e)) with
    | false =>
      first | refine zf1 ?_ | refine zf2 ?_
      refine fin 0 (fun h0 => ⟨fun g => ?_, fun _ => rfl⟩)
      exfalso
      have g2 := g.2.1
      have : srt T n (wFm T n e) = 1 ∨ srt T n (wFm T n e) = 2 := by omega
      rcases this with q | q <;> (rw [q] at hw2; cases hw2)
    | true =>
      first | refine zt1 ?_ | refine zt2 ?_
      rw [h2]
      by_cases c1 : wFm T n e = e
      · first | refine ct1 (by rw [c1]) ?_ | refine ct2 (by rw [c1]) ?_
        refine fin 1 (fun h0 => ⟨fun _ => rfl, fun g => ?_⟩)
        exfalso
        refine g ⟨hw, ?_, c1⟩
        have e4 : srt T n (wFm T n e) = 3 ∨ srt T n (wFm T n e) ≤ 2 := by omega
        rcases e4 with q | q
        · rw [q] at hw2; cases hw2
        · exact q
      · first | refine cf1 (fun z => c1 ((nI_eq (by omega) (by omega)).mp z)) ?_ | refine cf2 (fun z => c1 ((nI_eq (by omega) (by omega)).mp z)) ?_
        exact fin 0 (fun h0 => ⟨fun g => absurd g.2.2 c1, fun _ => rfl⟩)
theorem s7_nextWord {T : Nat → Nat} {n e ps : Nat} {m : Mm} {K : Mm → Prop} (hT : TpC T n m) (he : e ≤ n) (h1 : m 45 1 = nI ps) (hps : ps ≤ 3) (h3 : m 45 3 = nI e) (hK : ∀ m2 : Mm, (∀ q, q ≠ 45 → m2 q = m q) → (∀ j, 5 ≤ j → m2 45 j = m 45 j) → CWd T n e ps m2 → K m2) : W_X7_nextWord m K := by
  have hn := hT.2.1
  have hfl := wFm_le (T := T) he
  have hsl := srt_le T n (wFm T n e)
  unfold W_X7_nextWord
  refine s7_isWord h1 hps ?_
  rw [h3]
  intro m1 e1
  refine ⟨n - e + 1, ?_⟩
  refine l7_skip hT (n - e) e m1 (by omega) (fun q nq => by rw [e1, mu_row_n _ _ _ nq]) (fun j nj => by rw [e1, mu_j _ _ _ nj]) (by rw [e1, mu_s]) (fun m2 a1 a2 a3 => ?_)
  have a3b : m2 45 2 = nI (wFm T n e) := a3
  have hT2 : TpC T n m2 := hT.mv (a1 46 (by omega)) (a1 47 (by omega))
  unfold B_X7_nextWord_58
  rw [a3b]
  refine s7_sortAt hT2 (by omega) ?_
  intro m4 e4
  have g1 : ∀ q, q ≠ 45 → m4 q = m q := fun q nq => by rw [e4, mu_row_n _ _ _ nq]; exact a1 q nq
  have g2 : ∀ j, j ≠ 1 → j ≠ 2 → m4 45 j = m 45 j := fun j n1 n2 => by rw [e4, mu_j _ _ _ n1]; exact a2 j n2
  have g3 : m4 45 1 = nI (srt T n (wFm T n e)) := by rw [e4, mu_s]
  have g4 : m4 45 2 = nI (wFm T n e) := by rw [e4, mu_j _ _ _ (by omega)]; exact a3b
  have hT4 : TpC T n m4 := hT.mv (g1 46 (by omega)) (g1 47 (by omega))
  clear e4 a1 a2 a3 a3b hT2 e1
  rw [hT4.1, g4]
  by_cases c0 : srt T n (wFm T n e) = 0
  · have c0b := srt_0.mp c0
    first | refine ct1 (nI_le c0b (by omega)) ?_ | refine ct2 (nI_le c0b (by omega)) ?_
    intro m5 e5
    have k1 : m5 45 1 = nI (srt T n (wFm T n e)) := by rw [e5, mu_j _ _ _ (by omega)]; exact g3
    refine ⟨0 + 1, ?_⟩
    unfold L_X7_nextWord_101
    refine s7_isWord k1 hsl ?_
    rw [c0]
    first | refine zf1 ?_ | refine zf2 ?_
    refine b7_150 k1 (by rw [e5, mu_j _ _ _ (by omega)]; exact g4) ?_ hn he (fun m6 b1 b2 b3 => hK m6 (fun q nq => ?_) (fun j hj => ?_) b3)
    · rw [e5, mu_s]
      unfold wTo
      rw [if_pos c0]
    · rw [b1 q nq, e5, mu_row_n _ _ _ nq]; exact g1 q nq
    · rw [b2 j hj, e5, mu_j _ _ _ (by omega)]; exact g2 j (by omega) (by omega)
  · have c0b : ¬ n ≤ wFm T n e := fun z => c0 (srt_0.mpr z)
    first | refine cf1 (nI_ge (by omega) (by omega)) ?_ | refine cf2 (nI_ge (by omega) (by omega)) ?_
    rw [nI_1]
    intro m5 e5
    have k1 : m5 45 1 = nI (srt T n (wFm T n e)) := by rw [e5, mu_j _ _ _ (by omega)]; exact g3
    have k2 : m5 45 2 = nI (wFm T n e) := by rw [e5, mu_j _ _ _ (by omega)]; exact g4
    have k3 : m5 45 3 = nI (wFm T n e + 1) := by rw [e5, mu_s]
    have k4 : ∀ q, q ≠ 45 → m5 q = m q := fun q nq => by rw [e5, mu_row_n _ _ _ nq]; exact g1 q nq
    have k5 : ∀ j, 5 ≤ j → m5 45 j = m 45 j := fun j hj => by rw [e5, mu_j _ _ _ (by omega)]; exact g2 j (by omega) (by omega)
    have hT5 : TpC T n m5 := hT.mv (k4 46 (by omega)) (k4 47 (by omega))
    clear e5
    by_cases c3 : srt T n (wFm T n e) = 3
    · refine ⟨0 + 1, ?_⟩
      unfold L_X7_nextWord_101
      refine s7_isWord k1 hsl ?_
      rw [c3]
      first | refine zf1 ?_ | refine zf2 ?_
      refine b7_150 k1 k2 ?_ hn he (fun m6 b1 b2 b3 => hK m6 (fun q nq => ?_) (fun j hj => ?_) b3)
      · rw [k3]
        unfold wTo
        rw [if_neg c0, if_pos c3]
      · rw [b1 q nq]; exact k4 q nq
      · rw [b2 j hj]; exact k5 j hj
    · refine ⟨n - (wFm T n e + 1) + 1, ?_⟩
      refine l7_ext hT5 (show srt T n (wFm T n e) = 1 ∨ srt T n (wFm T n e) = 2 by omega) k1 (n - (wFm T n e + 1)) (wFm T n e + 1) m5 (by omega) (fun _ _ => rfl) (fun _ _ => rfl) k3 (fun m6 b1 b2 b3 => ?_)
      refine b7_150 (by rw [b2 1 (by omega)]; exact k1) (by rw [b2 2 (by omega)]; exact k2) ?_ hn he (fun m7 d1 d2 d3 => hK m7 (fun q nq => ?_) (fun j hj => ?_) d3)
      · rw [b3]
        unfold wTo
        rw [if_neg c0, if_neg c3]
      · rw [d1 q nq, b1 q nq]; exact k4 q nq
      · rw [d2 j hj, b2 j (by omega)]; exact k5 j hj
end
