section
/-! TEXT -/
theorem Sk_map {f : Int32 → Int32} {r1 r2 : Nat → Int32} : ∀ {l : List Int32}, Sk r1 (l.map f) → Sk r2 l → ∀ i, i < l.length → r1 i = f (r2 i) := by
  intro l
  induction l with
  | nil => intro _ _ i hi; exact absurd hi (Nat.not_lt_zero i)
  | cons x r ih =>
    intro h1 h2 i hi
    have hi2 : i < r.length + 1 := hi
    by_cases c1 : i = r.length
    · have a1 := h1.1
      rw [List.length_map] at a1
      rw [c1, a1, h2.1]
    · exact ih h1.2 h2.2 i (by omega)
theorem IsKey.un {T : Nat → Nat} {n k1 k2 : Nat} (h1 : IsKey T n k1) (h2 : IsKey T n k2) : k1 = k2 := by
  have e := h1.2.2.1.symm.trans h2.2.2.1
  have q : ∀ a, a < 3 → ∀ b, b < 3 → kwL a = kwL b → a = b := by decide +kernel
  exact q k1 h1.1 k2 h2.1 (by omega)
theorem muT_o {m : Mm} {key : Int32} {p c q : Nat} (h0 : q ≠ 0) (h : q < 106 + 3 * nTx m) : muT m key p c q = m q := by
  unfold muT
  rw [if_neg (by omega), if_neg (by omega), if_neg (by omega), if_neg h0]
theorem muT_0 {m : Mm} {key : Int32} {p c j : Nat} (h : j ≠ 1000) : muT m key p c 0 j = m 0 j := by
  unfold muT
  rw [if_neg (by omega), if_neg (by omega), if_neg (by omega), if_pos rfl]
  exact pk_un h
theorem muT_a {m : Mm} {key : Int32} {p c : Nat} : muT m key p c (106 + 3 * nTx m) 0 = key ∧ muT m key p c (106 + 3 * nTx m) 1 = nI p := by
  unfold muT
  rw [if_pos rfl]
  exact ⟨rfl, rfl⟩
theorem muT_b {m : Mm} {key : Int32} {p c : Nat} : muT m key p c (106 + 3 * nTx m + 1) 1000 = nI c ∧ ∀ j, j < c → j < 1000 → muT m key p c (106 + 3 * nTx m + 1) j = m 49 j := by
  unfold muT
  rw [if_neg (by omega), if_pos rfl]
  refine ⟨rfl, fun j h1 h2 => ?_⟩
  show (if j = 1000 then _ else if j < c then m 49 j else 0) = _
  rw [if_neg (by omega), if_pos h1]
theorem muT_c {m : Mm} {key : Int32} {p c : Nat} : muT m key p c (106 + 3 * nTx m + 2) 1000 = nI (max 1 p) := by
  unfold muT
  rw [if_neg (by omega), if_neg (by omega), if_pos rfl]
  rfl
theorem ix_96 (t i : Nat) : (89 + 96 * nI t) + nI i = nI (89 + 96 * t + i) := by
  rw [show (89 : Int32) = nI 89 from rfl, show (96 : Int32) = nI 96 from rfl, pk_mul, nI_add, nI_add]
theorem l9_code {t L : Nat} {m0 : Mm} {K : Int32 → Mm → Prop} (ht : t < 14) (hL : L < 96) (h19 : m0 82 19 = nI L) (hK : ∀ m : Mm, (∀ q, q ≠ 83 → m q = m0 q) → (∀ j, ¬ (89 + 96 * t ≤ j ∧ j < 89 + 96 * t + L) → m 83 j = m0 83 j) → (∀ i, i < L → m 83 (89 + 96 * t + i) = m0 92 i) → ∀ m2 : Mm, m2 = mu m 83 6 ((m 83 6) + 1) → K (nI t) m2) : ∀ (d i : Nat) (m : Mm), i + d = L → (∀ q, q ≠ 83 → m q = m0 q) → (∀ j, ¬ (89 + 96 * t ≤ j ∧ j < 89 + 96 * t + i) → m 83 j = m0 83 j) → (∀ k, k < i → m 83 (89 + 96 * t + k) = m0 92 k) → L_X9_text_117 K (d + 1) (nI t) (nI i) m := by
  intro d
  induction d with
  | zero =>
    intro i m hi h1 h2 h3
    have e : i = L := by omega
    subst e
    unfold L_X9_text_117
    first | refine ct1 (by rw [h1 82 (by omega), h19]; exact nI_le (Nat.le_refl _) (by omega)) ?_ | refine ct2 (by rw [h1 82 (by omega), h19]; exact nI_le (Nat.le_refl _) (by omega)) ?_
    exact hK m h1 h2 h3
  | succ d ih =>
    intro i m hi h1 h2 h3
    unfold L_X9_text_117
    first | refine cf1 (by rw [h1 82 (by omega), h19]; exact nI_ge (by omega) (by omega)) ?_ | refine cf2 (by rw [h1 82 (by omega), h19]; exact nI_ge (by omega) (by omega)) ?_
    refine ⟨i, rfl, by omega, 89 + 96 * t + i, ix_96 t i, by omega, fun m2 e2 => ?_⟩
    rw [h1 92 (by omega)] at e2
    rw [nI_1]
    refine ih (i + 1) m2 (by omega) (fun q nq => ?_) (fun j nj => ?_) (fun k hk => ?_)
    · rw [e2, mu_row_n _ _ _ nq]; exact h1 q nq
    · rw [e2, mu_j _ _ _ (by omega)]; exact h2 j (by omega)
    · by_cases c1 : k = i
      · rw [c1, e2, mu_s]
      · rw [e2, mu_j _ _ _ (by omega)]; exact h3 k (by omega)
set_option maxHeartbeats 4000000 in
theorem ak_text {c : Nat} (hc : c ≤ 512) (mem : Mm) (h : Iv c mem) : W_X8_text mem (fun v m => W_X9_text m (fun v2 m2 => v = v2 ∧ Iv (c + 1) m2)) := by
  obtain ⟨hT1, ⟨n, hn, en⟩, hby⟩ := h.2.2.1
  have h8 := h.2.2.2.2.2.2.2
  have hNc := h.2.2.2.2.2.2.1
  obtain ⟨T, eT⟩ : ∃ T : Nat → Nat, T = fun i => (mem 89 i).toNatClampNeg := ⟨_, rfl⟩
  have hTb : ∀ i, i < 96 → T i < 256 ∧ mem 89 i = nI (T i) ∧ mem 47 i = cb (T i) := fun i hi => by
    obtain ⟨b, b1, b2, b3⟩ := hby i hi
    have : T i = b := by rw [eT]; show (mem 89 i).toNatClampNeg = b; rw [b2]; exact nI_clamp (by omega)
    rw [this]
    exact ⟨b1, b2, b3⟩
  have tc : TpC T n mem := ⟨by rw [hT1, en], hn, fun i hi => ⟨(hTb i hi).1, (hTb i hi).2.2⟩⟩
  have tr : TpR T n mem := ⟨en, hn, fun i hi => ⟨(hTb i hi).1, (hTb i hi).2.1⟩⟩
  clear hTb eT hby hT1 en
  -- what is left where no text came of it
  have fin0 : ∀ m m1 m2 mF : Mm, Fq mem m → m1 = mu m 46 1 0 → FrR m1 m2 → mF = mu m2 82 9 0 → Iv (c + 1) mF := by
    intro m m1 m2 mF q1 e1 q2 e2
    have a1 : ∀ q, q ≠ 46 → ¬ (q = 45 ∨ q = 48 ∨ q = 49) → m1 q = mem q := fun q n1 n2 => by rw [e1, mu_row_n _ _ _ n1]; exact q1 q (by omega)
    have a2 : ∀ q, q ≠ 46 → ¬ (q = 45 ∨ q = 48 ∨ q = 49) → q ≠ 82 → ¬ (92 ≤ q ∧ q ≤ 94) → mF q = mem q := fun q n1 n2 n3 n4 => by rw [e2, mu_row_n _ _ _ n3, q2.1 q n3 (by omega) (by omega) (by omega)]; exact a1 q n1 n2
    refine h.t0 ⟨fun q n1 _ => a2 q (by omega) (by omega) (by omega) (by omega), fun q hi => by unfold iSt at hi; rw [a2 q (by omega) (by omega) (by omega) (by omega)]⟩ ?_ (by rw [e2, mu_s]) ?_ ?_
    · rw [e2, mu_k _ _ _ (by omega), q2.1 46 (by omega) (by omega) (by omega) (by omega), e1, mu_s]
    · rw [e2, mu_j _ _ _ (by omega), q2.2 3 (by omega), a1 82 (by omega) (by omega)]
    · rw [e2, mu_j _ _ _ (by omega), q2.2 35 (by omega), a1 82 (by omega) (by omega)]
  have tr1 : ∀ m m1 : Mm, Fq mem m → m1 = mu m 46 1 0 → TpR T n m1 ∧ Iv8 m1 := fun m m1 q1 e1 => by
    have a1 : ∀ q, 49 < q → m1 q = mem q := fun q n1 => by rw [e1, mu_row_n _ _ _ (by omega)]; exact q1 q (by omega)
    refine ⟨tr.mv (by rw [a1 82 (by omega)]) (a1 89 (by omega)), ?_⟩
    unfold Iv8
    rw [a1 90 (by omega), a1 91 (by omega)]
    exact h8
  have b0 : ∀ (f : Nat) (m m1 m2 : Mm), Fq mem m → m1 = mu m 46 1 0 → FrR m1 m2 → m2 82 11 = nI f → B_X9_text_33 (fun v2 m2 => -100 - nI f = v2 ∧ Iv (c + 1) m2) 0 m2 := by
    intro f m m1 m2 q1 e1 q2 q3
    unfold B_X9_text_33
    intro mF eF
    first | refine ct1 rfl ?_ | refine ct2 rfl ?_
    refine ⟨?_, fin0 m m1 m2 mF q1 e1 q2 eF⟩
    rw [eF, mu_j _ _ _ (by omega), q3]
  unfold W_X8_text
  refine s7_fault tc (fun nk m q1 m1 e1 => ?_) (fun key IK f m z1 z2 q1 m1 e1 => ?_) (fun key IK m e w rc a z1 z2 z3 z4 z5 q1 m1 e1 => ?_)
  · first | refine cf1 (nI_nm1 (by have := wFm_le (T := T) (n := n) (e := 0) (by omega); omega)) ?_ | refine cf2 (nI_nm1 (by have := wFm_le (T := T) (n := n) (e := 0) (by omega); omega)) ?_
    obtain ⟨t1, t2⟩ := tr1 m m1 q1 e1
    exact s9_finds t1 t2 (fun _ m2 y1 y2 => b0 _ m m1 m2 q1 e1 y1 y2) (fun key IK => absurd IK.2 (nk key IK.1)) (fun key IK => absurd IK.2 (nk key IK.1))
  · first | refine cf1 (nI_nm1 (by omega)) ?_ | refine cf2 (nI_nm1 (by omega)) ?_
    obtain ⟨t1, t2⟩ := tr1 m m1 q1 e1
    refine s9_finds t1 t2 (fun nk => absurd IK.2 (nk key IK.1)) (fun k2 IK2 f2 m2 y1 y2 y3 => ?_) (fun k2 IK2 m2 w rc a y1 => ?_)
    · have ek := IK2.un IK
      subst ek
      rw [z1] at y1
      cases y1
      exact b0 _ m m1 m2 q1 e1 y3 y2
    · have ek := IK2.un IK
      subst ek
      rw [z1] at y1
      cases y1
  · first | refine ct1 rfl ?_ | refine ct2 rfl ?_
    obtain ⟨t1, t2⟩ := tr1 m m1 q1 e1
    have hA8 := h.1.1.2.2.1
    have hw6 := h.1.2.2.1.1
    have hw14 := h.1.2.2.1.2.1
    obtain ⟨t, et⟩ : ∃ t, nt (mem 83) = t := ⟨_, rfl⟩
    rw [et] at hw6 hw14
    have hk := IK.1
    have a1 : ∀ q, q ≠ 46 → ¬ (q = 45 ∨ q = 48 ∨ q = 49) → m1 q = mem q := fun q n1 n2 => by rw [e1, mu_row_n _ _ _ n1]; exact q1 q (by omega)
    have e18 : m1 1 8 = nI t := by rw [a1 1 (by omega) (by omega), hA8, hw6]
    rw [e18]
    by_cases c14 : t = 14
    · first | refine ct1 (by rw [c14]; decide) ?_ | refine ct2 (by rw [c14]; decide) ?_
      refine s9_finds t1 t2 (fun nk => absurd IK.2 (nk key IK.1)) (fun k2 IK2 f2 m2 y1 y2 y3 => ?_) (fun k2 IK2 m2 w2 rc2 a2 y1 y2 y3 y4 y5 => ?_)
      · have ek := IK2.un IK
        subst ek
        rw [z1] at y1
        cases y1
      · unfold B_X9_text_33
        intro mF eF
        first | refine cf1 (by decide) ?_ | refine cf2 (by decide) ?_
        have e6 : mF 83 6 = 14 := by rw [eF, mu_k _ _ _ (by omega), y5.1 83 (by omega) (by omega) (by omega) (by omega), a1 83 (by omega) (by omega), hw6, c14]; rfl
        first | refine ct1 e6 ?_ | refine ct2 e6 ?_
        exact ⟨rfl, fin0 m m1 m2 mF q1 e1 y5 eF⟩
    · first | refine cf1 (nI_ge (b := 14) (by omega) (by omega)) ?_ | refine cf2 (nI_ge (b := 14) (by omega) (by omega)) ?_
      obtain ⟨po, pl, pa, p11, p10, pC, pD⟩ := z3
      have pa2 : 2 * a + 2 ≤ e := pa
      have y := pb_all 1 (Nat.le_refl _) w rc 6 a (nfK key) po (Nat.le_refl _) pC
      have enil := pb_nil w 6 po (Nat.le_refl _) z4
      rw [enil] at y
      obtain ⟨RC, eRC⟩ : ∃ RC, pbC 1 w rc = RC := ⟨_, rfl⟩
      rw [eRC] at y
      have yl := y.2.1
      have yl2 : RC.length + 0 = rc.length + w.length := yl
      have yC : CdR (nfK key) RC a 1 := y.2.2.2.2.1
      obtain ⟨N, eN⟩ : ∃ N, nTx mem = N := ⟨_, rfl⟩
      have k1 : CSk w rc m1 := by
        obtain ⟨_, _, _, _, _, x1, x2, x3, x4⟩ := z5
        have g : ∀ q, q ≠ 46 → m1 q = m q := fun q n1 => by rw [e1, mu_row_n _ _ _ n1]
        exact ⟨by rw [g 45 (by omega)]; exact x1, by rw [g 45 (by omega)]; exact x2, by rw [g 48 (by omega)]; exact x3, by rw [g 49 (by omega)]; exact x4⟩
      unfold W_X7_made
      refine s7_pops (p := 1) (by omega) (by omega) po (Nat.le_refl _) k1 (by omega) (fun m3 b1 b2 b3 => ?_)
      rw [enil, eRC] at b1
      have f3 : ∀ q, q ≠ 46 → ¬ (q = 45 ∨ q = 48 ∨ q = 49) → m3 q = mem q := fun q n1 n2 => by rw [b2.1 q (by omega) (by omega)]; exact a1 q n1 n2
      have m36 : m3 45 6 = nI key := by rw [b2.2 6 (by omega) (by omega) (by omega), e1, mu_k _ _ _ (by omega)]; exact z5.2.1
      have m37 : m3 45 7 = nI a := by rw [b2.2 7 (by omega) (by omega) (by omega), e1, mu_k _ _ _ (by omega)]; exact z5.2.2.1
      have eN3 : nTx m3 = N := by rw [nTx_c (f3 0 (by omega) (by omega))]; exact eN
      refine ⟨a, RC.length, m37, by omega, b1.2.1, by omega, by omega, fun m4 e4 => ?_⟩
      rw [m36] at e4
      rw [eN3]
      have N4 : nTx m4 = N + 1 := by rw [e4, nTx_muT (by omega), eN3]
      have f4 : ∀ q, q ≠ 0 → q < 106 + 3 * N → m4 q = m3 q := fun q n0 n1 => by rw [e4]; exact muT_o n0 (by omega)
      have f40 : ∀ j, j ≠ 1000 → m4 0 j = mem 0 j := fun j nj => by rw [e4, muT_0 nj, f3 0 (by omega) (by omega)]
      have ta : m4 (106 + 3 * N) 0 = nI key ∧ m4 (106 + 3 * N) 1 = nI a := by rw [e4, ← eN3]; exact muT_a
      have tb : m4 (106 + 3 * N + 1) 1000 = nI RC.length ∧ ∀ j, j < RC.length → j < 1000 → m4 (106 + 3 * N + 1) j = m3 49 j := by rw [e4, ← eN3]; exact muT_b
      have td : m4 (106 + 3 * N + 2) 1000 = nI (max 1 a) := by rw [e4, ← eN3]; exact muT_c
      have e418 : m4 1 8 = nI t := by rw [f4 1 (by omega) (by omega), f3 1 (by omega) (by omega), hA8, hw6]
      clear e4
      unfold W_X0_takeText
      rw [e418]
      first | refine cf1 (nI_ge (b := 14) (by omega) (by omega)) ?_ | refine cf2 (nI_ge (b := 14) (by omega) (by omega)) ?_
      refine ⟨by omega, ?_⟩
      rw [ta.1]
      refine s_iw_y ⟨nI_pos' (by omega), nI_le (b := 2) (by omega) (by omega)⟩ ?_
      first | refine zt1 ?_ | refine zt2 ?_
      refine ⟨by omega, t, e418, by omega, fun m5 e5 => ?_⟩
      have nx : ∀ (q j : Nat) (v : Int32) (ma mb : Mm), q ≠ 0 → mb = mu ma q j v → nTx mb = nTx ma := fun q j v ma mb h1 h2 => nTx_c (by rw [h2, mu_row_n _ _ _ (Ne.symm h1)])
      have N5 : nTx m5 = N + 1 := by rw [nx _ _ _ _ _ (by omega) e5]; exact N4
      refine ⟨by omega, key, ?_, hk, fun m6 e6 m7 e7 => ?_⟩
      · rw [e5, mu_row_n _ _ _ (by omega)]; exact ta.1
      have e518 : m5 1 8 = nI t := by rw [e5, mu_row_n _ _ _ (by omega)]; exact e418
      rw [e518] at e6
      have e618 : m6 1 8 = nI t := by rw [e6, mu_row_n _ _ _ (by omega)]; exact e518
      rw [e618, nI_1] at e7
      have e718 : m7 1 8 = nI (t + 1) := by rw [e7, mu_s]
      rw [e718, nI_pred]
      have f7 : ∀ q, q ≠ 1 → q ≠ 3 → q ≠ 4 → m7 q = m4 q := fun q n1 n3 n4 => by rw [e7, mu_row_n _ _ _ n1, e6, mu_row_n _ _ _ n4, e5, mu_row_n _ _ _ n3]
      have g7 : ∀ q, 1 < q → q < 106 → q ≠ 3 → q ≠ 4 → q ≠ 46 → ¬ (q = 45 ∨ q = 48 ∨ q = 49) → m7 q = mem q := fun q n0 n1 n3 n4 n5 n6 => by rw [f7 q (by omega) n3 n4, f4 q (by omega) (by omega), f3 q n5 n6]
      have r73 : m7 3 = upd (mem 3) t (nI N) := by
        rw [e7, mu_row_n _ _ _ (by omega), e6, mu_row_n _ _ _ (by omega), e5]
        show mu m4 3 t (nI N) 3 = _
        rw [mu_row_s, f4 3 (by omega) (by omega), f3 3 (by omega) (by omega)]
      have r74 : m7 4 = upd (mem 4) key (nI t) := by
        rw [e7, mu_row_n _ _ _ (by omega), e6]
        show mu m5 4 key (nI t) 4 = _
        rw [mu_row_s, e5, mu_row_n _ _ _ (by omega), f4 4 (by omega) (by omega), f3 4 (by omega) (by omega)]
      have r71 : ∀ j, j ≠ 8 → m7 1 j = mem 1 j := fun j nj => by
        rw [e7, mu_j _ _ _ nj, e6, mu_row_n _ _ _ (by omega), e5, mu_row_n _ _ _ (by omega), f4 1 (by omega) (by omega), f3 1 (by omega) (by omega)]
      have N7 : nTx m7 = N + 1 := by rw [nx _ _ _ _ _ (by omega) e7, nx _ _ _ _ _ (by omega) e6]; exact N5
      clear e5 e6 e7
      have tr7 : TpR T n m7 := tr.mv (by rw [g7 82 (by omega) (by omega) (by omega) (by omega) (by omega) (by omega)]) (g7 89 (by omega) (by omega) (by omega) (by omega) (by omega) (by omega))
      have i87 : Iv8 m7 := by
        unfold Iv8
        rw [g7 90 (by omega) (by omega) (by omega) (by omega) (by omega) (by omega), g7 91 (by omega) (by omega) (by omega) (by omega) (by omega) (by omega)]
        exact h8
      refine s9_finds tr7 i87 (fun nk => absurd IK.2 (nk key IK.1)) (fun k2 IK2 f2 m2 y1 y2 y3 => ?_) (fun k2 IK2 m8 w2 rc2 a2 y1 y2 y3 y4 y5 => ?_)
      · have ek := IK2.un IK
        subst ek
        rw [z1] at y1
        cases y1
      · have ek := IK2.un IK
        subst ek
        rw [z1] at y1
        cases y1
        rw [eRC] at y4
        have y6 := y5.1
        unfold B_X9_text_33
        intro m9 e9
        first | refine cf1 (by decide) ?_ | refine cf2 (by decide) ?_
        have r9 : ∀ q, q ≠ 82 → m9 q = m8 q := fun q nq => by rw [e9, mu_row_n _ _ _ nq]
        have j9 : ∀ j, j ≠ 9 → m9 82 j = m8 82 j := fun j nj => by rw [e9, mu_j _ _ _ nj]
        have r983 : m9 83 = mem 83 := by rw [r9 83 (by omega), y6 83 (by omega) (by omega) (by omega) (by omega), g7 83 (by omega) (by omega) (by omega) (by omega) (by omega) (by omega)]
        have e96 : m9 83 6 = nI t := by rw [r983, hw6]
        rw [e96]
        first | refine cf1 (fun z => c14 ((nI_eq (b := 14) (by omega) (by omega)).mp z)) ?_ | refine cf2 (fun z => c14 ((nI_eq (b := 14) (by omega) (by omega)).mp z)) ?_
        refine ⟨61 + 2 * t, ix_2 t, by omega, fun m10 e10 => ?_⟩
        have q15 : m9 82 15 = nI k2 := by rw [j9 15 (by omega)]; exact y2
        have q19 : m9 82 19 = nI RC.length := by rw [j9 19 (by omega)]; exact y4.2.1
        rw [q15, q19] at e10
        refine ⟨62 + 2 * t, by rw [ix_2, nI_1]; congr 1; omega, by omega, fun m11 e11 => ?_⟩
        have q20 : m10 82 20 = nI a := by rw [e10, mu_k _ _ _ (by omega), j9 20 (by omega)]; exact y3
        rw [q20] at e11
        have r11 : ∀ q, q ≠ 83 → m11 q = m9 q := fun q nq => by rw [e11, mu_row_n _ _ _ nq, e10, mu_row_n _ _ _ nq]
        have r92 : m11 92 = m8 92 := by rw [r11 92 (by omega), r9 92 (by omega)]
        refine ⟨RC.length + 1, l9_code (t := t) (L := RC.length) (m0 := m11) (by omega) (by omega) (by rw [r11 82 (by omega)]; exact q19) (fun mx x1 x2 x3 mF eF => ⟨rfl, ?_⟩) RC.length 0 m11 (by omega) (fun _ _ => rfl) (fun _ _ => rfl) (fun k hk9 => by omega)⟩
        have x6 : mx 83 6 = nI t := by rw [x2 6 (by omega), e11, mu_j _ _ _ (by omega), e10, mu_j _ _ _ (by omega)]; exact e96
        rw [x6, nI_1] at eF
        have rF : ∀ q, q ≠ 83 → mF q = m9 q := fun q nq => by rw [eF, mu_row_n _ _ _ nq, x1 q nq, r11 q nq]
        have rF7 : ∀ q, q ≠ 82 → q ≠ 83 → ¬ (92 ≤ q ∧ q ≤ 94) → mF q = m7 q := fun q n1 n2 n3 => by rw [rF q n2, r9 q n1, y6 q n1 (by omega) (by omega) (by omega)]
        have cF : ∀ i, i < RC.length → mF 83 (89 + 96 * t + i) = m8 92 i := fun i hi => by rw [eF, mu_j _ _ _ (by omega), x3 i hi, r92]
        have hRL : RC.length < 96 := by omega
        refine h.nw9 (t := t) (key := k2) (a9 := a) (L := RC.length) (N := N) hc et (by omega) hk (by omega) hRL eN (fun q n1 n2 n3 n4 n5 n6 n7 n8 n9 => ?_) (fun q n1 n2 => ?_) (fun j nj => ?_) ?_ (fun j nj => ?_) ?_ ?_ ?_ ?_ ?_ ?_ (fun i hi => ?_) ?_ (fun q n1 n2 n3 n4 => ?_) ?_ ?_ ?_ ?_ ?_ ?_ ?_ ?_
        · rw [rF7 q n7 n8 n9]; exact g7 q n1 n2 n3 n4 n5 n6
        · rw [rF7 q (by omega) (by omega) (by omega), f7 q (by omega) (by omega) (by omega), f4 q (by omega) n2, f3 q (by omega) (by omega)]
        · rw [rF7 0 (by omega) (by omega) (by omega), f7 0 (by omega) (by omega) (by omega)]; exact f40 j nj
        · rw [nTx_c (rF7 0 (by omega) (by omega) (by omega))]; exact N7
        · rw [rF7 1 (by omega) (by omega) (by omega)]; exact r71 j nj
        · rw [rF7 1 (by omega) (by omega) (by omega)]; exact e718
        · rw [rF7 3 (by omega) (by omega) (by omega)]; exact r73
        · rw [rF7 4 (by omega) (by omega) (by omega)]; exact r74
        · rw [rF7 _ (by omega) (by omega) (by omega), f7 _ (by omega) (by omega) (by omega)]; exact ta.1
        · rw [rF7 _ (by omega) (by omega) (by omega), f7 _ (by omega) (by omega) (by omega)]; exact ta.2
        · rw [rF7 _ (by omega) (by omega) (by omega), f7 _ (by omega) (by omega) (by omega)]; exact tb.1
        · rw [rF7 _ (by omega) (by omega) (by omega), f7 _ (by omega) (by omega) (by omega), tb.2 i hi (by omega), cF i hi]
          exact Sk_map b1.2.2.2 y4.2.2.2 i hi
        · rw [rF7 _ (by omega) (by omega) (by omega), f7 _ (by omega) (by omega) (by omega)]; exact td
        · rw [eF, mu_j _ _ _ n1, x2 q n4, e11, mu_j _ _ _ n3, e10, mu_j _ _ _ n2, r983]
        · rw [eF, mu_s]
        · rw [eF, mu_j _ _ _ (by omega), x2 _ (by omega), e11, mu_j _ _ _ (by omega), e10, mu_s]
        · rw [eF, mu_j _ _ _ (by omega), x2 _ (by omega), e11, mu_s]
        · obtain ⟨d, d0, d1, ds⟩ := yC.ok y4.2.2.2
          exact okT.co ⟨d, d0, d1, ds⟩ (fun k hk9 => cF k hk9)
        · rw [rF 82 (by omega), j9 3 (by omega), y5.2 3 (by omega), g7 82 (by omega) (by omega) (by omega) (by omega) (by omega) (by omega)]
        · rw [rF 82 (by omega), e9, mu_s]
        · rw [rF 82 (by omega), j9 35 (by omega), y5.2 35 (by omega), g7 82 (by omega) (by omega) (by omega) (by omega) (by omega) (by omega)]
        · rw [rF7 46 (by omega) (by omega) (by omega), f7 46 (by omega) (by omega) (by omega), f4 46 (by omega) (by omega), b2.1 46 (by omega) (by omega), e1, mu_s]
end
