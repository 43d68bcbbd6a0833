/-! rows copied; alleys copied -/
theorem muC_s (mem : Mm) (k1 k2 a b c : Nat) : muC mem k1 k2 a b c k2 = va_cpy (mem k1) (mem k2) a b c := if_pos rfl
theorem muC_n (mem : Mm) {k1 k2 a b c q : Nat} (h : q ≠ k2) : muC mem k1 k2 a b c q = mem q := if_neg h
theorem l_copyAll {k1 k2 : Nat} {m0 : Mm} {K : Mm → Prop} (hne : k1 ≠ k2) (h6 : k2 < 106) (hK : ∀ m, Fr (fun q => q = k2) m0 m → (m k2 = fun j => if j < 1433 then m0 k1 j else m0 k2 j) → K m) :
    ∀ (d i : Nat) (m : Mm), i + d = 1433 → Fr (fun q => q = k2) m0 m → (m k2 = fun j => if j < i then m0 k1 j else m0 k2 j) → m k1 = m0 k1 → L_X9_copyAll_2 k1 1433 k2 1433 K (d + 1) (nI i) m := by
  intro d
  induction d with
  | zero =>
    intro i m hi hF hm hm1
    have c0 : i = 1433 := by omega
    subst c0
    unfold L_X9_copyAll_2
    exact ct1 (by decide) (hK m hF hm)
  | succ d ih =>
    intro i m hi hF hm hm1
    unfold L_X9_copyAll_2
    refine cf1 (nI_ge (a := i) (b := 1433) (by omega) (by omega)) ⟨i, rfl, by omega, i, rfl, by omega, fun m2 e2 => ?_⟩
    rw [nI_1]
    refine ih (i + 1) m2 (by omega) ?_ ?_ ?_
    · rw [e2]; exact hF.trans (Fr.m1 _ _ _ rfl h6)
    · rw [e2, mu_row_s, hm, hm1]
      funext j
      unfold upd
      by_cases c1 : j = i
      · rw [if_pos c1, if_pos (by omega), c1]
      · rw [if_neg c1]
        show (if j < i then m0 k1 j else m0 k2 j) = _
        by_cases c2 : j < i
        · rw [if_pos c2, if_pos (by omega)]
        · rw [if_neg c2, if_neg (by omega)]
    · rw [e2, mu_row_n _ _ _ hne]; exact hm1
theorem s_copyAll {k1 k2 : Nat} {mem : Mm} {K : Mm → Prop} (hne : k1 ≠ k2) (h6 : k2 < 106) (hK : ∀ m, Fr (fun q => q = k2) mem m → (m k2 = fun j => if j < 1433 then mem k1 j else mem k2 j) → K m) : W_X9_copyAll k1 1433 k2 1433 mem K := by
  unfold W_X9_copyAll
  refine ⟨1433 + 1, l_copyAll hne h6 hK 1433 0 mem (by omega) (Fr.refl _ _) ?_ rfl⟩
  funext j
  rw [if_neg (by omega)]
def Hi0 (a : Rw) : Prop := ∀ q, 1433 ≤ q → a q = 0
theorem cp_hi {a b : Rw} (ha : Hi0 a) (hb : Hi0 b) : (fun j => if j < 1433 then a j else b j) = a := by
  funext j
  by_cases c1 : j < 1433
  · rw [if_pos c1]
  · rw [if_neg c1, ha j (by omega), hb j (by omega)]
/-- thought: what was put aside comes back -/
theorem s_thinks {mem : Mm} {K : Mm → Prop} (hK : ∀ m, Fr (fun q => q = 85) mem m → (∀ j, j < 1433 → m 85 j = mem 83 j) → K m) : W_X9_thinks mem K := by
  unfold W_X9_thinks
  refine s_copyAll (by omega) (by omega) (fun m hm em => hK m hm (fun j hj => ?_))
  rw [em]
  exact if_pos hj
theorem s_putsBack {mem : Mm} {a : Rw} {K : Mm → Prop} (ha : ∀ j, j < 1433 → mem 85 j = a j) (hb : ∀ j, 1433 ≤ j → mem 83 j = a j) (hK : ∀ m, Fr (fun q => q = 83) mem m → m 83 = a → K m) : W_X9_putsBack mem K := by
  unfold W_X9_putsBack
  refine s_copyAll (by omega) (by omega) (fun m hm em => hK m hm ?_)
  rw [em]
  funext j
  by_cases c1 : j < 1433
  · rw [if_pos c1]; exact ha j c1
  · rw [if_neg c1]; exact hb j (by omega)
theorem s_X1_becomeAs {c0 c1 : Nat} {mem : Mm} {K : Mm → Prop} (hne : c1 ≠ c0) (h5 : mem c1 5 = 0 ∨ mem c1 5 = 1) (hK : ∀ m, (∀ q, q ≠ c0 → m q = mem q) → (∀ j, j < 6 → m c0 j = mem c1 j) → K m) : W_X1_becomeAs c0 c1 mem K := by
  unfold W_X1_becomeAs
  intro m0 e0 m1 e1 m2 e2 m3 e3 m4 e4
  have g0 : m0 c1 = mem c1 := by rw [e0]; exact mu_row_n _ _ _ hne
  have g1 : m1 c1 = mem c1 := by rw [e1, mu_row_n _ _ _ hne]; exact g0
  have g2 : m2 c1 = mem c1 := by rw [e2, mu_row_n _ _ _ hne]; exact g1
  have g3 : m3 c1 = mem c1 := by rw [e3, mu_row_n _ _ _ hne]; exact g2
  have g4 : m4 c1 = mem c1 := by rw [e4, mu_row_n _ _ _ hne]; exact g3
  refine ⟨by rw [g4]; exact h5, fun m5 e5 => hK m5 (fun q hq => ?_) (fun j hj => ?_)⟩
  · rw [e5, mu_row_n _ _ _ hq, e4, mu_row_n _ _ _ hq, e3, mu_row_n _ _ _ hq, e2, mu_row_n _ _ _ hq, e1, mu_row_n _ _ _ hq, e0, mu_row_n _ _ _ hq]
  · rw [e5, g4, mu_row_s, e4, g3, mu_row_s, e3, g2, mu_row_s, e2, g1, mu_row_s, e1, g0, mu_row_s, e0, mu_row_s]
    have c6 : j = 0 ∨ j = 1 ∨ j = 2 ∨ j = 3 ∨ j = 4 ∨ j = 5 := by omega
    rcases c6 with rfl | rfl | rfl | rfl | rfl | rfl <;> simp [upd]
theorem rg1 {x : Int32} (h : Rg x 1) : x = 0 ∨ x = 1 := by
  obtain ⟨z, hz, ez⟩ := h
  have c2 : z = 0 ∨ z = 1 := by omega
  rcases c2 with rfl | rfl
  · exact Or.inl ez
  · exact Or.inr ez
theorem l_becomeT {k0 k1 n : Nat} {a : Rw} {m0 : Mm} {K : Mm → Prop} (hk : 1 ≤ k0) (hk2 : k0 + 13 ≤ 106) (hd : ∀ q, k1 ≤ q → q < k1 + 13 → q < k0 ∨ k0 + 13 ≤ q) (hk3 : k1 + 13 ≤ 106) (hn : n ≤ 14) (h8 : m0 k1 8 = nI n) (hx : ∀ i, i < n → ¬ m0 (k1 + 2) i < 0 ∧ (m0 (k1 + 2) i).toNatClampNeg < nTx m0)
    (hK : ∀ m, Fr (PAl k0) m0 m → (∀ i, i < n → m (k0 + 2) i = m0 (k1 + 2) i) → (∀ q, q ≠ k0 + 2 → q ≠ k0 → q ≠ k0 + 3 → m q = m0 q) → m k0 = upd (m0 k0) 8 (nI n) → (∀ i, i < 3 → m (k0 + 3) i = m0 (k1 + 3) i) → K m) :
    ∀ (d i : Nat) (m : Mm), i + d = n → Fr (PAl k0) m0 m → (∀ q, q ≠ k0 + 2 → m q = m0 q) → (∀ i2, i2 < i → m (k0 + 2) i2 = m0 (k1 + 2) i2) → L_X0_becomeAs_81 k0 k1 K (d + 1) (nI i) m := by
  intro d
  have dj := hd (k1 + 2) (by omega) (by omega)
  have dj0 := hd k1 (by omega) (by omega)
  have dj3 := hd (k1 + 3) (by omega) (by omega)
  induction d with
  | zero =>
    intro i m hi hF hq hm
    have c0 : i = n := by omega
    subst c0
    unfold L_X0_becomeAs_81
    have c1 : m k1 8 = nI i := by rw [hq k1 (by omega)]; exact h8
    rw [c1]
    refine ct1 (nI_le (Nat.le_refl _) (by omega)) (fun m2 e2 => ⟨0, 0, 3, rfl, rfl, rfl, by omega, by omega, fun m3 e3 => hK m3 ?_ ?_ ?_ ?_ ?_⟩)
    · refine ⟨fun q p1 p2 => ?_, fun q p1 => ?_⟩
      · have n0 : q ≠ k0 + 3 := fun z => p1 ⟨by omega, by omega⟩
        have n1 : q ≠ k0 := fun z => p1 ⟨by omega, by omega⟩
        rw [e3]
        rw [muC_n _ n0, e2, mu_row_n _ _ _ n1]
        exact hF.1 q p1 p2
      · have n0 : q ≠ k0 + 3 := by unfold iSt at p1; omega
        have n1 : q ≠ k0 := by unfold iSt at p1; omega
        rw [e3]
        rw [muC_n _ n0, e2, mu_row_n _ _ _ n1]
        exact hF.2 q p1
    · intro i2 hi2
      rw [e3]
      rw [muC_n _ (by omega), e2, mu_row_n _ _ _ (by omega)]
      exact hm i2 hi2
    · intro q n2 n0 n3
      rw [e3]
      rw [muC_n _ n3, e2, mu_row_n _ _ _ n0]
      exact hq q n2
    · rw [e3]
      rw [muC_n _ (by omega), e2, mu_row_s, hq k0 (by omega)]
    · intro i2 hi2
      rw [e3]
      rw [muC_s, pk_cpy_in (by omega) (by omega), e2, mu_row_n _ _ _ (by omega), hq (k1 + 3) (by omega)]
      exact congrArg _ (by omega)
  | succ d ih =>
    intro i m hi hF hq hm
    unfold L_X0_becomeAs_81
    have c1 : m k1 8 = nI n := by rw [hq k1 (by omega)]; exact h8
    have c2 : m (k1 + 2) = m0 (k1 + 2) := hq _ (by omega)
    have c3 : nTx m = nTx m0 := nTx_c (hq 0 (by omega))
    obtain ⟨x1, x2⟩ := hx i (by omega)
    rw [c1, c2]
    refine cf1 (nI_ge (by omega) (by omega)) ⟨i, rfl, by omega, cf1 x1 ⟨by rw [c3]; exact x2, i, rfl, by omega, fun m2 e2 => ?_⟩⟩
    rw [nI_1]
    refine ih (i + 1) m2 (by omega) ?_ ?_ ?_
    · rw [e2]; exact hF.trans (Fr.m1 _ _ _ ⟨by omega, by omega⟩ (by omega))
    · intro q nq
      rw [e2, mu_row_n _ _ _ nq]
      exact hq q nq
    · intro i2 hi2
      rw [e2, mu_row_s]
      by_cases c4 : i2 = i
      · rw [c4, pk_us]
      · rw [pk_un c4]
        exact hm i2 (by omega)
theorem l_becomeM {k0 k1 n : Nat} {a : Rw} {m0 : Mm} {K : Mm → Prop} (hk : 1 ≤ k0) (hk2 : k0 + 13 ≤ 106) (hd : ∀ q, k1 ≤ q → q < k1 + 13 → q < k0 ∨ k0 + 13 ≤ q) (hk3 : k1 + 13 ≤ 106) (hw : Wm a) (hW : Wt a) (hn : nm a = n) (hA : AlA m0 k1 a) (hK : ∀ m, Fr (PAl k0) m0 m → AlA m k0 a → K m) :
    ∀ (d i : Nat) (m : Mm), i + d = n → Fr (PAl k0) m0 m → (∀ i2 j, i2 < i → j < 6 → m (k0 + 4 + i2) j = a (7 + 6 * i2 + j)) → L_X0_becomeAs_2 k0 k1 K (d + 1) (nI i) m := by
  intro d
  have h9 := hw.2.1
  have h14 := hW.2.1
  induction d with
  | zero =>
    intro i m hi hF hm
    have c0 : i = n := by omega
    subst c0
    have hA1 : AlA m k1 a := hA.fr hF h9 hk3 (by omega) (fun q g1 g2 => by have := hd q g1 g2; omega) (fun q g1 => by omega)
    have c1 : m k1 1 = nI i := by rw [hA1.1.1, ← hn]; exact hw.1
    have dk := hd k1 (by omega) (by omega)
    unfold L_X0_becomeAs_2
    rw [c1]
    refine ct1 (nI_le (Nat.le_refl _) (by omega)) (fun m1 e1 m2 e2 m3 e3 m4 e4 m5 e5 m6 e6 => ?_)
    have nk : k1 ≠ k0 := by omega
    have q1 : m1 k1 = m k1 := by rw [e1]; exact mu_row_n _ _ _ nk
    have q2 : m2 k1 = m k1 := by rw [e2, mu_row_n _ _ _ nk]; exact q1
    have q3 : m3 k1 = m k1 := by rw [e3, mu_row_n _ _ _ nk]; exact q2
    have q4 : m4 k1 = m k1 := by rw [e4, mu_row_n _ _ _ nk]; exact q3
    have q5 : m5 k1 = m k1 := by rw [e5, mu_row_n _ _ _ nk]; exact q4
    have q6 : m6 k1 = m k1 := by rw [e6, mu_row_n _ _ _ nk]; exact q5
    have f6 : Fr (PAl k0) m0 m6 := by
      rw [e6, e5, e4, e3, e2, e1]
      exact (((((hF.trans (Fr.m1 _ _ _ ⟨by omega, by omega⟩ (by omega))).trans (Fr.m1 _ _ _ ⟨by omega, by omega⟩ (by omega))).trans (Fr.m1 _ _ _ ⟨by omega, by omega⟩ (by omega))).trans (Fr.m1 _ _ _ ⟨by omega, by omega⟩ (by omega))).trans (Fr.m1 _ _ _ ⟨by omega, by omega⟩ (by omega))).trans (Fr.m1 _ _ _ ⟨by omega, by omega⟩ (by omega))
    have o6 : ∀ q, q ≠ k0 → m6 q = m q := by
      intro q nq
      rw [e6, mu_row_n _ _ _ nq, e5, mu_row_n _ _ _ nq, e4, mu_row_n _ _ _ nq, e3, mu_row_n _ _ _ nq, e2, mu_row_n _ _ _ nq, e1, mu_row_n _ _ _ nq]
    have r6 : m6 k0 = upd (upd (upd (upd (upd (upd (m k0) 1 (nI i)) 2 (m k1 2)) 3 (m k1 3)) 4 (m k1 4)) 5 (m k1 5)) 6 (m k1 6) := by
      rw [e6, q5, mu_row_s, e5, q4, mu_row_s, e4, q3, mu_row_s, e3, q2, mu_row_s, e2, q1, mu_row_s, e1, mu_row_s]
    have hA6 : AlA m6 k1 a := hA.fr f6 h9 hk3 (by omega) (fun q g1 g2 => by have := hd q g1 g2; omega) (fun q g1 => by omega)
    refine ⟨nt a + 1, l_becomeT (a := a) (n := nt a) hk hk2 hd hk3 h14 (by rw [hA6.2.2.1]; exact hW.1) (fun z hz => ?_) (fun m7 f7 g2 g3 g4 g5 => hK m7 (f6.trans f7) ?_) (nt a) 0 m6 (by omega) (Fr.refl _ _) (fun q _ => rfl) (fun z hz => by omega)⟩
    · obtain ⟨jj, t1, t2, t3, t4⟩ := hA6.2.2.2.1 z hz
      rw [t1, nI_clamp (by omega)]
      exact ⟨nI_pos (by omega), t2⟩
    · obtain ⟨b1, b2, b3, b4, b5⟩ := hA1.2.1
      refine ⟨⟨?_, fun i2 j hi2 hj => ?_⟩, ?_, ?_⟩
      · rw [g4, r6]
        simp only [upd]
        rw [hw.1, hn]
        simp
      · rw [g3 _ (by omega) (by omega) (by omega), o6 _ (by omega)]
        exact hm i2 j (by omega) hj
      · unfold AlN
        rw [g4, r6]
        simp only [upd]
        simp [b1, b2, b3, b4, b5]
      · refine ⟨?_, fun t ht => ?_, fun key hkey => ?_⟩
        · rw [g4]
          simp only [upd]
          rw [hW.1]
          simp
        · rw [g2 t ht]
          exact (hA6.2.2.2.1 t ht).fr f7 (by omega) (fun q hq => by omega)
        · rw [g5 key hkey]
          exact hA6.2.2.2.2 key hkey
  | succ d ih =>
    intro i m hi hF hm
    have hA1 : AlA m k1 a := hA.fr hF h9 hk3 (by omega) (fun q g1 g2 => by have := hd q g1 g2; omega) (fun q g1 => by omega)
    have c1 : m k1 1 = nI n := by rw [hA1.1.1, ← hn]; exact hw.1
    have dk := hd (k1 + 4 + i) (by omega) (by omega)
    unfold L_X0_becomeAs_2
    rw [c1]
    refine cf1 (nI_ge (by omega) (by omega)) ⟨i, rfl, by omega, i, rfl, by omega, ?_⟩
    refine s_X1_becomeAs (by omega) (by rw [hA1.1.2 i 5 (by omega) (by omega)]; exact rg1 (hw.2.2 i 5 (by omega) (by omega))) (fun m2 g1 g2 => ?_)
    rw [nI_1]
    refine ih (i + 1) m2 (by omega) (hF.trans ⟨fun q p1 p2 => g1 q (fun z => p1 ⟨by omega, by omega⟩), fun q p1 => by rw [g1 q (by unfold iSt at p1; omega)]⟩) (fun i2 j hi2 hj => ?_)
    by_cases c4 : i2 = i
    · rw [c4, g2 j hj]
      exact hA1.1.2 i j (by omega) hj
    · rw [g1 _ (by omega)]
      exact hm i2 j (by omega) hj
theorem s_becomeAs {k0 k1 : Nat} {a : Rw} {mem : Mm} {K : Mm → Prop} (hk : 1 ≤ k0) (hk2 : k0 + 13 ≤ 40) (hd : ∀ q, k1 ≤ q → q < k1 + 13 → q < k0 ∨ k0 + 13 ≤ q) (hk3 : k1 + 13 ≤ 40) (hw : Wm a) (hW : Wt a) (hA : AlA mem k1 a) (hK : ∀ m, Fr (PAl k0) mem m → AlA m k0 a → K m) : W_X0_becomeAs k0 k1 mem K := by
  unfold W_X0_becomeAs
  exact ⟨nm a + 1, l_becomeM hk (by omega) hd (by omega) hw hW rfl hA hK (nm a) 0 mem (by omega) (Fr.refl _ _) (fun i2 j hi2 => by omega)⟩
