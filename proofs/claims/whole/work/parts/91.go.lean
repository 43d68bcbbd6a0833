section
/-! THE REFERENCE READS WORDS -/
def TpR (T : Nat → Nat) (n : Nat) (m : Mm) : Prop := m 82 9 = nI n ∧ n ≤ 96 ∧ ∀ i, i < 96 → T i < 256 ∧ m 89 i = nI (T i)
theorem TpR.mv {T : Nat → Nat} {n : Nat} {m m2 : Mm} (h : TpR T n m) (h5 : m2 82 9 = m 82 9) (h6 : m2 89 = m 89) : TpR T n m2 := by
  unfold TpR
  rw [h5, h6]
  exact h
def LaR (pw : Bool) (e : Nat) (la : Int32) : Prop := (pw = true → la = nI e) ∧ (pw = false → la = -1 ∨ ∃ l, l < e ∧ la = nI l)
theorem LaR.eq {pw : Bool} {e f : Nat} {la : Int32} (h : LaR pw e la) (he : e ≤ f) (hf : f ≤ 96) : la = nI f ↔ pw = true ∧ f = e := by
  constructor
  · intro z
    cases pw with
    | true =>
      rw [h.1 rfl] at z
      exact ⟨rfl, ((nI_eq (by omega) (by omega)).mp z).symm⟩
    | false =>
      exfalso
      rcases h.2 rfl with y | ⟨l, y1, y2⟩
      · rw [z] at y
        exact nI_nm1 (by omega) y
      · rw [z] at y2
        have := (nI_eq (by omega) (by omega)).mp y2
        omega
  · rintro ⟨z1, z2⟩
    rw [z2]
    exact h.1 z1
theorem s9_letter {T : Nat → Nat} {n p : Nat} {m : Mm} {K : Bool → Mm → Prop} (hT : TpR T n m) (hp : p ≤ n) (hy : srt T n p = 1 → K true m) (hn : srt T n p ≠ 1 → K false m) : W_X9_isLetter (nI p) m K := by
  have hn9 := hT.2.1
  unfold W_X9_isLetter
  rw [hT.1]
  by_cases c1 : n ≤ p
  · first | refine ct1 (nI_le c1 (by omega)) ?_ | refine ct2 (nI_le c1 (by omega)) ?_
    exact hn (fun z => by have := srt_1.mp z; omega)
  · first | refine cf1 (nI_ge (by omega) (by omega)) ?_ | refine cf2 (nI_ge (by omega) (by omega)) ?_
    refine ⟨p, rfl, by omega, ?_⟩
    obtain ⟨hb, eb⟩ := hT.2.2 p (by omega)
    rw [eb]
    by_cases c2 : T p < 97
    · first | refine ct1 (nI_lt (b := 97) c2 (by omega)) ?_ | refine ct2 (nI_lt (b := 97) c2 (by omega)) ?_
      exact hn (fun z => by have := srt_1.mp z; omega)
    · first | refine cf1 (Int32.not_lt.mpr (nI_le (a := 97) (by omega) (by omega))) ?_ | refine cf2 (Int32.not_lt.mpr (nI_le (a := 97) (by omega) (by omega))) ?_
      refine ⟨p, rfl, by omega, ?_⟩
      rw [eb]
      by_cases c3 : 122 < T p
      · first | refine ct1 (nI_lt (a := 122) c3 (by omega)) ?_ | refine ct2 (nI_lt (a := 122) c3 (by omega)) ?_
        exact hn (fun z => by have := srt_1.mp z; omega)
      · first | refine cf1 (Int32.not_lt.mpr (nI_le (b := 122) (by omega) (by omega))) ?_ | refine cf2 (Int32.not_lt.mpr (nI_le (b := 122) (by omega) (by omega))) ?_
        exact hy (srt_1.mpr (by omega))
theorem s9_figure {T : Nat → Nat} {n p : Nat} {m : Mm} {K : Bool → Mm → Prop} (hT : TpR T n m) (hp : p ≤ n) (hy : srt T n p = 2 → K true m) (hn : srt T n p ≠ 2 → K false m) : W_X9_isFigure (nI p) m K := by
  have hn9 := hT.2.1
  unfold W_X9_isFigure
  rw [hT.1]
  by_cases c1 : n ≤ p
  · first | refine ct1 (nI_le c1 (by omega)) ?_ | refine ct2 (nI_le c1 (by omega)) ?_
    exact hn (fun z => by have := srt_2.mp z; omega)
  · first | refine cf1 (nI_ge (by omega) (by omega)) ?_ | refine cf2 (nI_ge (by omega) (by omega)) ?_
    refine ⟨p, rfl, by omega, ?_⟩
    obtain ⟨hb, eb⟩ := hT.2.2 p (by omega)
    rw [eb]
    by_cases c2 : T p < 48
    · first | refine ct1 (nI_lt (b := 48) c2 (by omega)) ?_ | refine ct2 (nI_lt (b := 48) c2 (by omega)) ?_
      exact hn (fun z => by have := srt_2.mp z; omega)
    · first | refine cf1 (Int32.not_lt.mpr (nI_le (a := 48) (by omega) (by omega))) ?_ | refine cf2 (Int32.not_lt.mpr (nI_le (a := 48) (by omega) (by omega))) ?_
      refine ⟨p, rfl, by omega, ?_⟩
      rw [eb]
      by_cases c3 : 57 < T p
      · first | refine ct1 (nI_lt (a := 57) c3 (by omega)) ?_ | refine ct2 (nI_lt (a := 57) c3 (by omega)) ?_
        exact hn (fun z => by have := srt_2.mp z; omega)
      · first | refine cf1 (Int32.not_lt.mpr (nI_le (b := 57) (by omega) (by omega))) ?_ | refine cf2 (Int32.not_lt.mpr (nI_le (b := 57) (by omega) (by omega))) ?_
        exact hy (srt_2.mpr (by omega))
def RWd (T : Nat → Nat) (n e ps : Nat) (m : Mm) : Prop := m 82 10 = nI (wTo T n (wFm T n e)) ∧ m 82 11 = nI (wFm T n e) ∧ (srt T n (wFm T n e) = 0 → m 82 12 = 0) ∧ (srt T n (wFm T n e) = 1 → (glu T n e ps → m 82 12 = 4) ∧ (¬ glu T n e ps → m 82 12 = 1) ∧ m 82 13 = nI (T (wFm T n e))) ∧ (srt T n (wFm T n e) = 2 → (glu T n e ps → m 82 12 = 4) ∧ (¬ glu T n e ps → wTo T n (wFm T n e) ≤ wFm T n e + 4 → m 82 12 = 2 ∧ m 82 13 = nI (nvl T (wFm T n e) (wTo T n (wFm T n e) - wFm T n e))) ∧ (¬ wTo T n (wFm T n e) ≤ wFm T n e + 4 → m 82 12 = 4)) ∧ (srt T n (wFm T n e) = 3 → m 82 12 = 3 ∧ m 82 13 = nI (T (wFm T n e))) ∧ (srt T n (wFm T n e) ≠ 0 → LaR (wrd (srt T n (wFm T n e))) (wTo T n (wFm T n e)) (m 82 14))
theorem l9_skip {T : Nat → Nat} {n : Nat} {m0 : Mm} {K : Mm → Prop} (hT : TpR T n m0) : ∀ (k p : Nat) (m : Mm), p + k = n → (∀ q, q ≠ 82 → m q = m0 q) → (∀ j, j ≠ 10 → m 82 j = m0 82 j) → m 82 10 = nI p → (∀ m2 : Mm, (∀ q, q ≠ 82 → m2 q = m0 q) → (∀ j, j ≠ 10 → j ≠ 11 → m2 82 j = m0 82 j) → m2 82 10 = nI (skp T k p) → m2 82 11 = nI (skp T k p) → (¬ m0 82 14 = nI (skp T k p) → B_X9_go_62 K 0 m2) ∧ (m0 82 14 = nI (skp T k p) → B_X9_go_62 K 1 m2)) → L_X9_go_0 K (k + 1) m := by
  have hn := hT.2.1
  have fin : ∀ (p : Nat) (m : Mm), (∀ q, q ≠ 82 → m q = m0 q) → (∀ j, j ≠ 10 → m 82 j = m0 82 j) → m 82 10 = nI p → (∀ m2 : Mm, (∀ q, q ≠ 82 → m2 q = m0 q) → (∀ j, j ≠ 10 → j ≠ 11 → m2 82 j = m0 82 j) → m2 82 10 = nI p → m2 82 11 = nI p → (¬ m0 82 14 = nI p → B_X9_go_62 K 0 m2) ∧ (m0 82 14 = nI p → B_X9_go_62 K 1 m2)) → (∀ m_43 : Mm, m_43 = mu m 82 11 (m 82 10) → ((¬ (m_43 82 11) = (m_43 82 14) → (B_X9_go_62 K 0 m_43)) ∧ ((m_43 82 11) = (m_43 82 14) → (B_X9_go_62 K 1 m_43)))) := by
    intro p m h1 h2 h3 hK m2 e2
    rw [h3] at e2
    have g11 : m2 82 11 = nI p := by rw [e2, mu_s]
    have g : ∀ j, j ≠ 11 → m2 82 j = m 82 j := fun j nj => by rw [e2, mu_j _ _ _ nj]
    have z := hK m2 (fun q nq => by rw [e2, mu_row_n _ _ _ nq]; exact h1 q nq) (fun j n1 n2 => by rw [g j n2]; exact h2 j n1) (by rw [g 10 (by omega)]; exact h3) g11
    rw [g11, g 14 (by omega), h2 14 (by omega)]
    exact ⟨fun y => z.1 (fun x => y x.symm), fun y => z.2 y.symm⟩
  intro k
  induction k with
  | zero =>
    intro p m hp h1 h2 h3 hK
    have hTm : TpR T n m := hT.mv (h2 9 (by omega)) (h1 89 (by omega))
    unfold L_X9_go_0
    first | refine ct1 (by rw [hTm.1, h3]; exact nI_le (by omega) (by omega)) ?_ | refine ct2 (by rw [hTm.1, h3]; exact nI_le (by omega) (by omega)) ?_
    exact fin p m h1 h2 h3 hK
  | succ k ih =>
    intro p m hp h1 h2 h3 hK
    have hTm : TpR T n m := hT.mv (h2 9 (by omega)) (h1 89 (by omega))
    unfold L_X9_go_0
    first | refine cf1 (by rw [hTm.1, h3]; exact nI_ge (by omega) (by omega)) ?_ | refine cf2 (by rw [hTm.1, h3]; exact nI_ge (by omega) (by omega)) ?_
    refine ⟨p, h3, by omega, ?_⟩
    obtain ⟨hb, eb⟩ := hTm.2.2 p (by omega)
    rw [eb]
    have es : skp T (k + 1) p = if T p = 32 then skp T k (p + 1) else p := rfl
    by_cases c1 : T p = 32
    · rw [es, if_pos c1] at hK
      first | refine ct1 (by rw [c1]; rfl) ?_ | refine ct2 (by rw [c1]; rfl) ?_
      intro m2 e2
      rw [h3, nI_1] at e2
      exact ih (p + 1) m2 (by omega) (fun q nq => by rw [e2, mu_row_n _ _ _ nq]; exact h1 q nq) (fun j nj => by rw [e2, mu_j _ _ _ nj]; exact h2 j nj) (by rw [e2, mu_s]) hK
    · rw [es, if_neg c1] at hK
      first | refine cf1 (fun z => c1 ((nI_eq (b := 32) (show T p < 2 ^ 31 by omega) (by omega)).mp z)) ?_ | refine cf2 (fun z => c1 ((nI_eq (b := 32) (show T p < 2 ^ 31 by omega) (by omega)).mp z)) ?_
      exact fin p m h1 h2 h3 hK
theorem exw_f {T : Nat → Nat} {n f s : Nat} (hs : srt T n f = s) (hf : f < n) : exw T n s (n - f) f = exw T n s (n - (f + 1)) (f + 1) := by
  rw [show n - f = n - (f + 1) + 1 by omega]
  show (if srt T n f = s then _ else _) = _
  rw [if_pos hs]
theorem l9_let {T : Nat → Nat} {n : Nat} {l1 : Int32} {m0 : Mm} {K : Mm → Prop} (hT : TpR T n m0) : ∀ (k p : Nat) (m : Mm), p + k = n → (∀ q, q ≠ 82 → m q = m0 q) → (∀ j, j ≠ 10 → m 82 j = m0 82 j) → m 82 10 = nI p → (∀ m2 : Mm, (∀ q, q ≠ 82 → m2 q = m0 q) → (∀ j, j ≠ 10 → m2 82 j = m0 82 j) → m2 82 10 = nI (exw T n 1 k p) → ((l1 = 0 → (∀ m_127 : Mm, m_127 = mu m2 82 12 1 → (∃ i_139 : Nat, (m_127 82 11) = nI i_139 ∧ i_139 < 96 ∧ (∀ m_140 : Mm, m_140 = mu m_127 82 13 (m_127 89 i_139) → (∀ m_148 : Mm, m_148 = mu m_140 82 14 (m_140 82 10) → (K m_148)))))) ∧ (¬ l1 = 0 → (∀ m_127 : Mm, m_127 = mu m2 82 12 4 → (∃ i_139 : Nat, (m_127 82 11) = nI i_139 ∧ i_139 < 96 ∧ (∀ m_140 : Mm, m_140 = mu m_127 82 13 (m_127 89 i_139) → (∀ m_148 : Mm, m_148 = mu m_140 82 14 (m_140 82 10) → (K m_148)))))))) → L_X9_go_93 K (k + 1) l1 m := by
  have hn := hT.2.1
  intro k
  induction k with
  | zero =>
    intro p m hp h1 h2 h3 hK
    have hTm : TpR T n m := hT.mv (h2 9 (by omega)) (h1 89 (by omega))
    unfold L_X9_go_93
    rw [h3]
    refine s9_letter hTm (by omega) (fun z => by have := srt_1.mp z; omega) (fun z => ?_)
    first | refine zf1 ?_ | refine zf2 ?_
    exact hK m h1 h2 h3
  | succ k ih =>
    intro p m hp h1 h2 h3 hK
    have hTm : TpR T n m := hT.mv (h2 9 (by omega)) (h1 89 (by omega))
    have es : exw T n 1 (k + 1) p = if srt T n p = 1 then exw T n 1 k (p + 1) else p := rfl
    unfold L_X9_go_93
    rw [h3]
    refine s9_letter hTm (by omega) (fun z => ?_) (fun z => ?_)
    · rw [es, if_pos z] at hK
      first | refine zt1 ?_ | refine zt2 ?_
      intro m2 e2
      rw [h3, nI_1] at e2
      exact ih (p + 1) m2 (by omega) (fun q nq => by rw [e2, mu_row_n _ _ _ nq]; exact h1 q nq) (fun j nj => by rw [e2, mu_j _ _ _ nj]; exact h2 j nj) (by rw [e2, mu_s]) hK
    · rw [es, if_neg z] at hK
      first | refine zf1 ?_ | refine zf2 ?_
      exact hK m h1 h2 h3
theorem l9_fig {T : Nat → Nat} {n f : Nat} {l1 : Int32} {m0 : Mm} {K : Mm → Prop} (hT : TpR T n m0) (h11 : m0 82 11 = nI f) (hK : ∀ (m2 : Mm) (t : Nat), t = exw T n 2 (n - f) f → (∀ q, q ≠ 82 → m2 q = m0 q) → (∀ j, j ≠ 10 → j ≠ 13 → m2 82 j = m0 82 j) → m2 82 10 = nI t → m2 82 13 = nI (nvl T f (min (t - f) 4)) → ((¬ l1 = 0 → (∀ m_261 : Mm, m_261 = mu m2 82 12 4 → (∀ m_269 : Mm, m_269 = mu m_261 82 14 (m_261 82 10) → (K m_269)))) ∧ (l1 = 0 → ((((m2 82 10) - (m2 82 11)) ≤ 4 → (∀ m_261 : Mm, m_261 = mu m2 82 12 2 → (∀ m_269 : Mm, m_269 = mu m_261 82 14 (m_261 82 10) → (K m_269)))) ∧ (¬ ((m2 82 10) - (m2 82 11)) ≤ 4 → (∀ m_261 : Mm, m_261 = mu m2 82 12 4 → (∀ m_269 : Mm, m_269 = mu m_261 82 14 (m_261 82 10) → (K m_269)))))))) : ∀ (k p : Nat) (m : Mm), p + k = n → f ≤ p → (∀ q, q ≠ 82 → m q = m0 q) → (∀ j, j ≠ 10 → j ≠ 13 → m 82 j = m0 82 j) → m 82 10 = nI p → m 82 13 = nI (nvl T f (min (p - f) 4)) → exw T n 2 k p = exw T n 2 (n - f) f → L_X9_go_170 K (k + 1) l1 m := by
  have hn := hT.2.1
  intro k
  induction k with
  | zero =>
    intro p m hp hf h1 h2 h3 h4 h5
    have hTm : TpR T n m := hT.mv (h2 9 (by omega) (by omega)) (h1 89 (by omega))
    unfold L_X9_go_170
    rw [h3]
    refine s9_figure hTm (by omega) (fun z => by have := srt_2.mp z; omega) (fun z => ?_)
    first | refine zf1 ?_ | refine zf2 ?_
    exact hK m p h5 h1 h2 h3 h4
  | succ k ih =>
    intro p m hp hf h1 h2 h3 h4 h5
    have hTm : TpR T n m := hT.mv (h2 9 (by omega) (by omega)) (h1 89 (by omega))
    have es : exw T n 2 (k + 1) p = if srt T n p = 2 then exw T n 2 k (p + 1) else p := rfl
    unfold L_X9_go_170
    rw [h3]
    refine s9_figure hTm (by omega) (fun z => ?_) (fun z => ?_)
    · rw [es, if_pos z] at h5
      have hd := srt_2.mp z
      first | refine zt1 ?_ | refine zt2 ?_
      rw [h3, h2 11 (by omega) (by omega), h11, pk_sub hf]
      by_cases c4 : 4 ≤ p - f
      · first | refine ct1 (nI_le (a := 4) c4 (by omega)) ?_ | refine ct2 (nI_le (a := 4) c4 (by omega)) ?_
        intro m2 e2 m3 e3
        rw [h4] at e2
        have g10 : m2 82 10 = nI p := by rw [e2, mu_j _ _ _ (by omega)]; exact h3
        rw [g10, nI_1] at e3
        refine ih (p + 1) m3 (by omega) (by omega) (fun q nq => ?_) (fun j n1 n2 => ?_) (by rw [e3, mu_s]) ?_ h5
        · rw [e3, mu_row_n _ _ _ nq, e2, mu_row_n _ _ _ nq]; exact h1 q nq
        · rw [e3, mu_j _ _ _ n1, e2, mu_j _ _ _ n2]; exact h2 j n1 n2
        · rw [e3, mu_j _ _ _ (by omega), e2, mu_s, show min (p + 1 - f) 4 = min (p - f) 4 by omega]
      · first | refine cf1 (nI_ge (b := 4) (by omega) (by omega)) ?_ | refine cf2 (nI_ge (b := 4) (by omega) (by omega)) ?_
        refine ⟨p, rfl, by omega, fun m2 e2 m3 e3 => ?_⟩
        obtain ⟨hb, eb⟩ := hTm.2.2 p (by omega)
        rw [h4, eb, show (10 : Int32) = nI 10 from rfl, pk_mul, nI_add, show (48 : Int32) = nI 48 from rfl, pk_sub (by omega)] at e2
        have g10 : m2 82 10 = nI p := by rw [e2, mu_j _ _ _ (by omega)]; exact h3
        rw [g10, nI_1] at e3
        refine ih (p + 1) m3 (by omega) (by omega) (fun q nq => ?_) (fun j n1 n2 => ?_) (by rw [e3, mu_s]) ?_ h5
        · rw [e3, mu_row_n _ _ _ nq, e2, mu_row_n _ _ _ nq]; exact h1 q nq
        · rw [e3, mu_j _ _ _ n1, e2, mu_j _ _ _ n2]; exact h2 j n1 n2
        · rw [e3, mu_j _ _ _ (by omega), e2, mu_s, show min (p + 1 - f) 4 = (p - f) + 1 by omega, show min (p - f) 4 = p - f by omega]
          show _ = nI (10 * nvl T f (p - f) + (T (f + (p - f)) - 48))
          rw [show f + (p - f) = p by omega]
          congr 1
          omega
    · rw [es, if_neg z] at h5
      first | refine zf1 ?_ | refine zf2 ?_
      exact hK m p h5 h1 h2 h3 h4
theorem s9_go {T : Nat → Nat} {n e ps : Nat} {m : Mm} {K : Mm → Prop} (hT : TpR T n m) (he : e ≤ n) (h10 : m 82 10 = nI e) (hL : LaR (wrd ps) e (m 82 14)) (hK : ∀ m2 : Mm, (∀ q, q ≠ 82 → m2 q = m q) → (∀ j, j < 10 ∨ 14 < j → m2 82 j = m 82 j) → RWd T n e ps m2 → K m2) : W_X9_go m K := by
  have hn := hT.2.1
  have hfl := wFm_le (T := T) he
  have hsl := srt_le T n (wFm T n e)
  have hLq := hL.eq hfl.1 (show wFm T n e ≤ 96 by omega)
  unfold W_X9_go
  refine ⟨n - e + 1, ?_⟩
  refine l9_skip hT (n - e) e m (by omega) (fun _ _ => rfl) (fun _ _ => rfl) h10 (fun m2 a1 a2 a3 a4 => ?_)
  have ew : skp T (n - e) e = wFm T n e := rfl
  rw [ew] at a3 a4 ⊢
  have hT2 : TpR T n m2 := hT.mv (a2 9 (by omega) (by omega)) (a1 89 (by omega))
  -- both signs of a word that touches the one before
  have main : ∀ l1 : Int32, (srt T n (wFm T n e) = 1 ∨ srt T n (wFm T n e) = 2 → (glu T n e ps → ¬ l1 = 0) ∧ (¬ glu T n e ps → l1 = 0)) → B_X9_go_62 K l1 m2 := by
    intro l1 hl
    unfold B_X9_go_62
    rw [a4, hT2.1]
    by_cases c0 : srt T n (wFm T n e) = 0
    · have c0b := srt_0.mp c0
      first | refine ct1 (by congr 1; omega) ?_ | refine ct2 (by congr 1; omega) ?_
      intro m3 e3
      refine hK m3 (fun q nq => by rw [e3, mu_row_n _ _ _ nq]; exact a1 q nq) (fun j hj => by rw [e3, mu_j _ _ _ (by omega)]; exact a2 j (by omega) (by omega)) ⟨?_, ?_, ?_, fun z => by omega, fun z => by omega, fun z => by omega, fun z => absurd c0 z⟩
      · rw [e3, mu_j _ _ _ (by omega), a3]; unfold wTo; rw [if_pos c0]
      · rw [e3, mu_j _ _ _ (by omega)]; exact a4
      · intro _; rw [e3, mu_s]
    · have hfn : wFm T n e < n := by
        have : ¬ n ≤ wFm T n e := fun z => c0 (srt_0.mpr z)
        omega
      have htl := wTo_le (T := T) hfn
      first | refine cf1 (fun z => by have := (nI_eq (by omega) (by omega)).mp z; omega) ?_ | refine cf2 (fun z => by have := (nI_eq (by omega) (by omega)).mp z; omega) ?_
      refine s9_letter hT2 (by omega) (fun s1 => ?_) (fun s1 => ?_)
      · first | refine zt1 ?_ | refine zt2 ?_
        refine ⟨n - wFm T n e + 1, ?_⟩
        refine l9_let hT2 (n - wFm T n e) (wFm T n e) m2 (by omega) (fun _ _ => rfl) (fun _ _ => rfl) a3 (fun m3 b1 b2 b3 => ?_)
        rw [exw_f s1 hfn] at b3
        have et : wTo T n (wFm T n e) = exw T n 1 (n - (wFm T n e + 1)) (wFm T n e + 1) := by unfold wTo; rw [if_neg (by omega), if_neg (by omega), s1]
        rw [← et] at b3
        have hT3 : TpR T n m3 := hT2.mv (b2 9 (by omega)) (b1 89 (by omega))
        have fin : ∀ kd : Int32, ((glu T n e ps → kd = 4) ∧ (¬ glu T n e ps → kd = 1)) → (∀ m_127 : Mm, m_127 = mu m3 82 12 kd → (∃ i_139 : Nat, (m_127 82 11) = nI i_139 ∧ i_139 < 96 ∧ (∀ m_140 : Mm, m_140 = mu m_127 82 13 (m_127 89 i_139) → (∀ m_148 : Mm, m_148 = mu m_140 82 14 (m_140 82 10) → (K m_148))))) := by
          intro kd hkd m4 e4
          have q11 : m4 82 11 = nI (wFm T n e) := by rw [e4, mu_j _ _ _ (by omega), b2 11 (by omega)]; exact a4
          refine ⟨wFm T n e, q11, by omega, fun m5 e5 m6 e6 => ?_⟩
          have q89 : m4 89 (wFm T n e) = nI (T (wFm T n e)) := by rw [e4, mu_k _ _ _ (by omega)]; exact (hT3.2.2 _ (by omega)).2
          rw [q89] at e5
          have q10 : m5 82 10 = nI (wTo T n (wFm T n e)) := by rw [e5, mu_j _ _ _ (by omega), e4, mu_j _ _ _ (by omega)]; exact b3
          rw [q10] at e6
          refine hK m6 (fun q nq => ?_) (fun j hj => ?_) ⟨?_, ?_, fun z => absurd z c0, fun _ => ⟨?_, ?_, ?_⟩, fun z => by omega, fun z => by omega, fun _ => ?_⟩
          · rw [e6, mu_row_n _ _ _ nq, e5, mu_row_n _ _ _ nq, e4, mu_row_n _ _ _ nq, b1 q nq]; exact a1 q nq
          · rw [e6, mu_j _ _ _ (by omega), e5, mu_j _ _ _ (by omega), e4, mu_j _ _ _ (by omega), b2 j (by omega)]; exact a2 j (by omega) (by omega)
          · rw [e6, mu_j _ _ _ (by omega)]; exact q10
          · rw [e6, mu_j _ _ _ (by omega), e5, mu_j _ _ _ (by omega)]; exact q11
          · intro g; rw [e6, mu_j _ _ _ (by omega), e5, mu_j _ _ _ (by omega), e4, mu_s]; exact hkd.1 g
          · intro g; rw [e6, mu_j _ _ _ (by omega), e5, mu_j _ _ _ (by omega), e4, mu_s]; exact hkd.2 g
          · rw [e6, mu_j _ _ _ (by omega), e5, mu_s]
          · rw [e6, mu_s, s1]; exact ⟨fun _ => rfl, fun z => by cases z⟩
        obtain ⟨y1, y2⟩ := hl (Or.inl s1)
        exact ⟨fun z => fin 1 ⟨fun g => absurd z (y1 g), fun _ => rfl⟩, fun z => fin 4 ⟨fun _ => rfl, fun g => absurd (y2 g) z⟩⟩
      · first | refine zf1 ?_ | refine zf2 ?_
        rw [a4]
        refine s9_figure hT2 (by omega) (fun s2 => ?_) (fun s2 => ?_)
        · first | refine zt1 ?_ | refine zt2 ?_
          intro m3 e3
          refine ⟨n - wFm T n e + 1, ?_⟩
          have q11 : m3 82 11 = nI (wFm T n e) := by rw [e3, mu_j _ _ _ (by omega)]; exact a4
          have hT3 : TpR T n m3 := hT2.mv (by rw [e3, mu_j _ _ _ (by omega)]) (by rw [e3, mu_row_n _ _ _ (by omega)])
          have et : wTo T n (wFm T n e) = exw T n 2 (n - wFm T n e) (wFm T n e) := by unfold wTo; rw [if_neg (by omega), if_neg (by omega), s2, exw_f s2 hfn]
          refine l9_fig (f := wFm T n e) hT3 q11 (fun m4 t et2 b1 b2 b3 b4 => ?_) (n - wFm T n e) (wFm T n e) m3 (by omega) (by omega) (fun _ _ => rfl) (fun _ _ _ => rfl) (by rw [e3, mu_j _ _ _ (by omega)]; exact a3) (by rw [e3, mu_s, Nat.sub_self]; rfl) rfl
          rw [← et] at et2
          subst et2
          have fin : ∀ kd : Int32, ((glu T n e ps → kd = 4) ∧ (¬ glu T n e ps → wTo T n (wFm T n e) ≤ wFm T n e + 4 → kd = 2) ∧ (¬ wTo T n (wFm T n e) ≤ wFm T n e + 4 → kd = 4)) → (∀ m_261 : Mm, m_261 = mu m4 82 12 kd → (∀ m_269 : Mm, m_269 = mu m_261 82 14 (m_261 82 10) → (K m_269))) := by
            intro kd hkd m5 e5 m6 e6
            have q10 : m5 82 10 = nI (wTo T n (wFm T n e)) := by rw [e5, mu_j _ _ _ (by omega)]; exact b3
            rw [q10] at e6
            have e12 : m6 82 12 = kd := by rw [e6, mu_j _ _ _ (by omega), e5, mu_s]
            refine hK m6 (fun q nq => ?_) (fun j hj => ?_) ⟨?_, ?_, fun z => absurd z c0, fun z => absurd z s1, fun _ => ⟨?_, ?_, ?_⟩, fun z => by omega, fun _ => ?_⟩
            · rw [e6, mu_row_n _ _ _ nq, e5, mu_row_n _ _ _ nq, b1 q nq, e3, mu_row_n _ _ _ nq]; exact a1 q nq
            · rw [e6, mu_j _ _ _ (by omega), e5, mu_j _ _ _ (by omega), b2 j (by omega) (by omega), e3, mu_j _ _ _ (by omega)]; exact a2 j (by omega) (by omega)
            · rw [e6, mu_j _ _ _ (by omega)]; exact q10
            · rw [e6, mu_j _ _ _ (by omega), e5, mu_j _ _ _ (by omega), b2 11 (by omega) (by omega)]; exact q11
            · intro g; rw [e12]; exact hkd.1 g
            · intro g g2
              refine ⟨by rw [e12]; exact hkd.2.1 g g2, ?_⟩
              rw [e6, mu_j _ _ _ (by omega), e5, mu_j _ _ _ (by omega), b4, show min (wTo T n (wFm T n e) - wFm T n e) 4 = wTo T n (wFm T n e) - wFm T n e by omega]
            · intro g; rw [e12]; exact hkd.2.2 g
            · rw [e6, mu_s, s2]; exact ⟨fun _ => rfl, fun z => by cases z⟩
          obtain ⟨y1, y2⟩ := hl (Or.inr s2)
          rw [b3, b2 11 (by omega) (by omega), q11, pk_sub (by omega)]
          refine ⟨fun z => fin 4 ⟨fun _ => rfl, fun g _ => absurd (y2 g) z, fun _ => rfl⟩, fun z => ⟨fun z2 => fin 2 ⟨fun g => absurd z (y1 g), fun _ _ => rfl, fun g => ?_⟩, fun z2 => fin 4 ⟨fun _ => rfl, fun _ g => ?_, fun _ => rfl⟩⟩⟩
          · have := (nI_leI (b := 4) (show wTo T n (wFm T n e) - wFm T n e < 2 ^ 31 by omega) (by omega)).mp z2
            omega
          · exact absurd (nI_le (b := 4) (by omega) (by omega)) z2
        · have s3 : srt T n (wFm T n e) = 3 := by omega
          first | refine zf1 ?_ | refine zf2 ?_
          intro m3 e3
          have q11 : m3 82 11 = nI (wFm T n e) := by rw [e3, mu_j _ _ _ (by omega)]; exact a4
          refine ⟨wFm T n e, q11, by omega, fun m4 e4 m5 e5 => ?_⟩
          have q89 : m3 89 (wFm T n e) = nI (T (wFm T n e)) := by rw [e3, mu_k _ _ _ (by omega)]; exact (hT2.2.2 _ (by omega)).2
          rw [q89] at e4
          have q10 : m4 82 10 = nI (wFm T n e) := by rw [e4, mu_j _ _ _ (by omega), e3, mu_j _ _ _ (by omega)]; exact a3
          rw [q10, nI_1] at e5
          refine hK m5 (fun q nq => ?_) (fun j hj => ?_) ⟨?_, ?_, fun z => absurd z c0, fun z => absurd z s1, fun z => absurd z s2, fun _ => ⟨?_, ?_⟩, fun _ => ?_⟩
          · rw [e5, mu_row_n _ _ _ nq, e4, mu_row_n _ _ _ nq, e3, mu_row_n _ _ _ nq]; exact a1 q nq
          · rw [e5, mu_j _ _ _ (by omega), e4, mu_j _ _ _ (by omega), e3, mu_j _ _ _ (by omega)]; exact a2 j (by omega) (by omega)
          · rw [e5, mu_s]; unfold wTo; rw [if_neg c0, if_pos s3]
          · rw [e5, mu_j _ _ _ (by omega), e4, mu_j _ _ _ (by omega)]; exact q11
          · rw [e5, mu_j _ _ _ (by omega), e4, mu_j _ _ _ (by omega), e3, mu_s]
          · rw [e5, mu_j _ _ _ (by omega), e4, mu_s]
          · rw [e5, mu_j _ _ _ (by omega), e4, mu_j _ _ _ (by omega), e3, mu_j _ _ _ (by omega), a2 14 (by omega) (by omega), s3]
            refine ⟨fun z => absurd z (by decide), fun _ => ?_⟩
            cases hp : wrd ps with
            | true =>
              refine Or.inr ⟨e, by omega, ?_⟩
              exact hL.1 hp
            | false =>
              rcases hL.2 hp with y | ⟨l, y1, y2⟩
              · exact Or.inl y
              · exact Or.inr ⟨l, by omega, y2⟩
  refine ⟨fun z => main 0 (fun hs => ⟨fun g => ?_, fun _ => rfl⟩), fun z => main 1 (fun hs => ⟨fun _ => by decide, fun g => ?_⟩)⟩
  · exact absurd (hLq.mpr ⟨g.1, g.2.2⟩) z
  · exfalso
    have y := hLq.mp z
    exact g ⟨y.1, by omega, y.2⟩
end
