section
/-! THE CLASS JOINS; ITS LOOP -/
theorem tb_sg : ∀ b, b < 128 → (sgB b ≠ 0 → chS (sgB b) = nI b) ∧ (sgB b = 0 → ¬ nI b = 38 ∧ ¬ nI b = 42 ∧ ¬ nI b = 43 ∧ ¬ nI b = 45 ∧ ¬ nI b = 47 ∧ ¬ nI b = 60 ∧ ¬ nI b = 61 ∧ ¬ nI b = 62 ∧ ¬ nI b = 124) := by decide +kernel
theorem sgB_hi {b : Nat} (h : 128 ≤ b) : sgB b = 0 := by
  unfold sgB
  rw [if_neg (by omega), if_neg (by omega), if_neg (by omega), if_neg (by omega), if_neg (by omega), if_neg (by omega), if_neg (by omega), if_neg (by omega), if_neg (by omega)]
theorem s7_tightB {b : Nat} {m : Mm} {K : Int32 → Mm → Prop} (hb : b < 256) (h : K (nI (if sgB b = 0 then 0 else rk (sgB b))) m) : W_X7_tightnessOf (cb b) m K := by
  by_cases c1 : sgB b = 0
  · rw [if_pos c1] at h
    have no : ∀ x : Nat, x < 128 → (b < 128 → ¬ nI b = nI x) → ¬ cb b = nI x := fun x hx hq z => by
      have z2 := (cb_eq hb hx).mp z
      exact hq (by omega) (by rw [z2])
    have q : b < 128 → _ := fun hb2 => (tb_sg b hb2).2 c1
    unfold W_X7_tightnessOf
    first | refine cf1 (no 38 (by omega) (fun z => (q z).1)) ?_ | refine cf2 (no 38 (by omega) (fun z => (q z).1)) ?_
    first | refine cf1 (no 42 (by omega) (fun z => (q z).2.1)) ?_ | refine cf2 (no 42 (by omega) (fun z => (q z).2.1)) ?_
    first | refine cf1 (no 43 (by omega) (fun z => (q z).2.2.1)) ?_ | refine cf2 (no 43 (by omega) (fun z => (q z).2.2.1)) ?_
    first | refine cf1 (no 45 (by omega) (fun z => (q z).2.2.2.1)) ?_ | refine cf2 (no 45 (by omega) (fun z => (q z).2.2.2.1)) ?_
    first | refine cf1 (no 47 (by omega) (fun z => (q z).2.2.2.2.1)) ?_ | refine cf2 (no 47 (by omega) (fun z => (q z).2.2.2.2.1)) ?_
    first | refine cf1 (no 60 (by omega) (fun z => (q z).2.2.2.2.2.1)) ?_ | refine cf2 (no 60 (by omega) (fun z => (q z).2.2.2.2.2.1)) ?_
    first | refine cf1 (no 61 (by omega) (fun z => (q z).2.2.2.2.2.2.1)) ?_ | refine cf2 (no 61 (by omega) (fun z => (q z).2.2.2.2.2.2.1)) ?_
    first | refine cf1 (no 62 (by omega) (fun z => (q z).2.2.2.2.2.2.2.1)) ?_ | refine cf2 (no 62 (by omega) (fun z => (q z).2.2.2.2.2.2.2.1)) ?_
    first | refine cf1 (no 124 (by omega) (fun z => (q z).2.2.2.2.2.2.2.2)) ?_ | refine cf2 (no 124 (by omega) (fun z => (q z).2.2.2.2.2.2.2.2)) ?_
    exact h
  · have hb2 : b < 128 := by
      by_cases c2 : b < 128
      · exact c2
      · exact absurd (sgB_hi (by omega)) c1
    rw [if_neg c1] at h
    rw [cb_lo b hb2, ← (tb_sg b hb2).1 c1]
    have := sgn_le b
    refine s7_tight (by omega) (by omega) ?_
    rw [if_pos this]
    exact h
def CSj (key : Nat) (wt : Bool) (w : List Nat) (a : Nat) (m : Mm) : Prop := m 45 5 = bZ wt ∧ m 45 6 = nI key ∧ m 45 7 = nI a ∧ m 45 8 = nI (c11 w) ∧ m 45 9 = nI (c10 w)
theorem b7_62 {T : Nat → Nat} {n key a b nf e : Nat} {w : List Nat} {rc : List Int32} {m : Mm} {K : Bool → Mm → Prop} (hb : b < 128) (hs : sgB b ≠ 0) (hP : PIv nf e false w rc a) (he : e ≤ 96) (hS : CSt key false w rc a m)
  (hy : ¬ (rk (sgB b) = 3 ∧ tst w = true) → ∀ m2 : Mm, CSt key true (sgB b :: pbW (rk (sgB b)) w) (pbC (rk (sgB b)) w rc) a m2 → Fcl m m2 → K true m2)
  (hn : rk (sgB b) = 3 → tst w = true → ∀ m2 : Mm, Fcl m m2 → K false m2) : B_X7_takesJoining_62 K (nI b) (nI (rk (sgB b))) (if rk (sgB b) = 3 then 4 else nI (rk (sgB b))) m := by
  have hs9 := sgn_le b
  have hr := rk_b hs9
  obtain ⟨ho, hl, _, _, _, hC, _⟩ := hP
  obtain ⟨h5, h6, h7, h8, h9, hk⟩ := hS
  have push : ∀ (m1 : Mm), CSk (pbW (rk (sgB b)) w) (pbC (rk (sgB b)) w rc) m1 → Fpp m m1 → m1 45 9 = m 45 9 → ¬ (rk (sgB b) = 3 ∧ tst w = true) → ∀ m2 : Mm, m2 = mu m1 45 5 1 → W_X7_pushes (nI b) m2 (fun v_104 m_104 => K v_104 m_104) := by
    intro m1 a1 a2 a3 no m2 e2
    have y := pb_all (rk (sgB b)) hr.1 w rc 6 a nf ho (Nat.le_refl _) hC
    rw [← (tb_sg b hb).1 hs]
    have hpl := y.2.2.2.2.2.2
    refine s7_pushes (a1.f e2 (by omega) (by omega)) (by omega) (fun m3 b1 b2 b3 => hy no m3 ⟨?_, ?_, ?_, ?_, ?_, b1⟩ (a2.cl.tr ((Fcl.f e2 (by omega)).tr b2)))
    · rw [b3 5 (by omega), e2, mu_s]; rfl
    · rw [b3 6 (by omega), e2, mu_j _ _ _ (by omega), a2.2 6 (by omega) (by omega) (by omega)]; exact h6
    · rw [b3 7 (by omega), e2, mu_j _ _ _ (by omega), a2.2 7 (by omega) (by omega) (by omega)]; exact h7
    · rw [b3 8 (by omega), e2, mu_j _ _ _ (by omega), a2.2 8 (by omega) (by omega) (by omega), h8]
      have q1 : c11 (sgB b :: pbW (rk (sgB b)) w) = c11 w := by show (if _ then _ else _) = _; rw [if_neg (by omega)]; exact y.2.2.1
      rw [q1]
    · rw [b3 9 (by omega), e2, mu_j _ _ _ (by omega), a3, h9]
      have q2 : c10 (sgB b :: pbW (rk (sgB b)) w) = c10 w := by show (if _ then _ else _) = _; rw [if_neg (by omega)]; exact y.2.2.2.1
      rw [q2]
  unfold B_X7_takesJoining_62
  by_cases c3 : rk (sgB b) = 3
  · rw [if_pos c3]
    refine s7_pops (p := 4) (by omega) (by omega) ho (Nat.le_refl _) hk (by omega) (fun m1 a1 a2 a3 => ?_)
    rw [c3]
    first | refine ct1 (by decide) ?_ | refine ct2 (by decide) ?_
    cases ht : tst w with
    | true =>
      obtain ⟨s, r, y1, y2, y3⟩ := pb_tst w 6 ho (Nat.le_refl _) ht
      have y := pb_all 4 (by omega) w rc 6 a nf ho (Nat.le_refl _) hC
      have hpl := y.2.2.2.2.2.2
      rw [y1] at a1 hpl
      rw [List.length_cons] at hpl
      have e11 : m1 45 11 = nI (r.length + 1) := a1.1
      rw [e11]
      first | refine cf1 (nI_nle (by omega) (by omega)) ?_ | refine cf2 (nI_nle (by omega) (by omega)) ?_
      rw [nI_pred]
      refine ⟨r.length, rfl, by omega, ?_⟩
      have h3b := a1.2.2.1.1
      rw [List.length_map] at h3b
      show W_X7_tightnessOf (m1 48 r.length) m1 _
      rw [h3b]
      have s1 : 1 ≤ s := by
        have : ¬ s = 0 := fun z => by rw [z] at y2; exact absurd y2 (by decide)
        omega
      refine s7_tight s1 (by omega) ?_
      rw [if_pos y3, y2]
      first | refine ct1 (by decide) ?_ | refine ct2 (by decide) ?_
      exact hn c3 ht m1 a2.cl
    | false =>
      obtain ⟨y1, y2, y3⟩ := pb_34 w rc 6 ho (Nat.le_refl _) ht
      rw [y1, y2] at a1
      have no : ¬ (rk (sgB b) = 3 ∧ tst w = true) := fun z => by have := z.2; rw [ht] at this; cases this
      have pu := push m1 (by rw [c3]; exact a1) a2 a3 no
      have y := pb_all 3 (by omega) w rc 6 a nf ho (Nat.le_refl _) hC
      have hpl := y.2.2.2.2.2.2
      cases hw : pbW 3 w with
      | nil =>
        rw [hw] at a1
        rw [a1.1]
        first | refine ct1 (by decide) ?_ | refine ct2 (by decide) ?_
        exact pu
      | cons s r =>
        rw [hw] at a1 hpl
        rw [List.length_cons] at hpl
        have e11 : m1 45 11 = nI (r.length + 1) := a1.1
        rw [e11]
        first | refine cf1 (nI_nle (by omega) (by omega)) ?_ | refine cf2 (nI_nle (by omega) (by omega)) ?_
        rw [nI_pred]
        refine ⟨r.length, rfl, by omega, ?_⟩
        have h3b := a1.2.2.1.1
        rw [List.length_map] at h3b
        show W_X7_tightnessOf (m1 48 r.length) m1 _
        rw [h3b]
        have s1 : 1 ≤ s := by
          have z := y.1
          rw [hw] at z
          unfold okw at z
          by_cases d1 : s = 11
          · omega
          · rw [if_neg d1] at z
            by_cases d2 : s = 10
            · omega
            · rw [if_neg d2] at z; exact z.1
        rcases y3 s r hw with d | ⟨d1, d2⟩
        · refine s7_tight s1 (by omega) ?_
          rw [if_neg (by omega)]
          first | refine cf1 (by decide) ?_ | refine cf2 (by decide) ?_
          exact pu
        · refine s7_tight s1 (by omega) ?_
          rw [if_pos d1]
          first | refine cf1 (fun z => by have := (nI_eq (b := 3) (show rk s < 2 ^ 31 by omega) (by omega)).mp z; omega) ?_ | refine cf2 (fun z => by have := (nI_eq (b := 3) (show rk s < 2 ^ 31 by omega) (by omega)).mp z; omega) ?_
          exact pu
  · rw [if_neg c3]
    refine s7_pops (by omega) (by omega) ho (Nat.le_refl _) hk (by omega) (fun m1 a1 a2 a3 => ?_)
    first | refine cf1 (fun z => c3 ((nI_eq (b := 3) (show rk (sgB b) < 2 ^ 31 by omega) (by omega)).mp z)) ?_ | refine cf2 (fun z => c3 ((nI_eq (b := 3) (show rk (sgB b) < 2 ^ 31 by omega) (by omega)).mp z)) ?_
    exact push m1 a1 a2 a3 (fun z => c3 z.1)
theorem s7_joining {T : Nat → Nat} {n key e ps a nf : Nat} {w : List Nat} {rc : List Int32} {m : Mm} {K : Bool → Mm → Prop} (hT : TpC T n m) (he : e ≤ n) (hc : CWd T n e ps m) (h0 : srt T n (wFm T n e) ≠ 0) (hP : PIv nf e false w rc a) (hS : CSt key false w rc a m)
  (h1 : T (wFm T n e) = 41 → 0 < c11 w → ∀ m2 : Mm, CSt key false (pnW (pbW 1 w).tail) (pnC (pbW 1 w).tail (pbC 1 w rc)) a m2 → Fcl m m2 → K true m2)
  (h2 : sgB (T (wFm T n e)) ≠ 0 → ¬ (rk (sgB (T (wFm T n e))) = 3 ∧ tst w = true) → ∀ m2 : Mm, CSt key true (sgB (T (wFm T n e)) :: pbW (rk (sgB (T (wFm T n e)))) w) (pbC (rk (sgB (T (wFm T n e)))) w rc) a m2 → Fcl m m2 → K true m2)
  (h3 : ¬ (T (wFm T n e) = 41 ∧ 0 < c11 w) → ¬ (sgB (T (wFm T n e)) ≠ 0 ∧ ¬ (rk (sgB (T (wFm T n e))) = 3 ∧ tst w = true)) → ∀ m2 : Mm, Fcl m m2 → K false m2) : W_X7_takesJoining m K := by
  have hn := hT.2.1
  have hfl := wFm_le (T := T) he
  have hsl := srt_le T n (wFm T n e)
  have hfn : wFm T n e < n := by
    have : ¬ n ≤ wFm T n e := fun z => h0 (srt_0.mpr z)
    omega
  obtain ⟨k1, k2, k3, _⟩ := hc
  generalize wFm T n e = f at *
  have hb := (hT.2.2 f (by omega)).1
  have FR : Fcl m m := ⟨fun _ _ => rfl, fun _ _ => rfl⟩
  have s3 : (sgB (T f) ≠ 0 ∨ T f = 41) → srt T n f = 3 := by
    intro z
    unfold srt
    rw [if_neg (by omega)]
    by_cases c1 : T f = 41
    · rw [c1, if_neg (by omega), if_neg (by omega)]
    · have z2 : sgB (T f) ≠ 0 := by rcases z with z | z; exact z; exact absurd z c1
      have z3 : T f = 124 ∨ T f = 38 ∨ T f = 60 ∨ T f = 61 ∨ T f = 62 ∨ T f = 43 ∨ T f = 45 ∨ T f = 42 ∨ T f = 47 := by
        unfold sgB at z2
        by_cases d1 : T f = 124; · omega
        by_cases d2 : T f = 38; · omega
        by_cases d3 : T f = 60; · omega
        by_cases d4 : T f = 61; · omega
        by_cases d5 : T f = 62; · omega
        by_cases d6 : T f = 43; · omega
        by_cases d7 : T f = 45; · omega
        by_cases d8 : T f = 42; · omega
        by_cases d9 : T f = 47; · omega
        rw [if_neg d1, if_neg d2, if_neg d3, if_neg d4, if_neg d5, if_neg d6, if_neg d7, if_neg d8, if_neg d9] at z2
        exact absurd rfl z2
      rw [if_neg (by omega), if_neg (by omega)]
  unfold W_X7_takesJoining
  rw [k2]
  refine s7_byteAt hT (by omega) ?_
  have j28 : ¬ (T f = 41 ∧ 0 < c11 w) → B_X7_takesJoining_28 K (cb (T f)) m := by
    intro no
    unfold B_X7_takesJoining_28
    rw [k1]
    by_cases c3 : srt T n f = 3
    · rw [c3]
      first | refine ct1 (by decide) ?_ | refine ct2 (by decide) ?_
      refine s7_tightB hb ?_
      by_cases c4 : sgB (T f) = 0
      · rw [if_pos c4]
        first | refine ct1 (by decide) ?_ | refine ct2 (by decide) ?_
        exact h3 no (fun z => z.1 c4) m FR
      · have hb2 : T f < 128 := by
          by_cases c2 : T f < 128
          · exact c2
          · exact absurd (sgB_hi (by omega)) c4
        have hs9 := sgn_le (T f)
        have hr := rk_b hs9
        rw [if_neg c4]
        first | refine cf1 (nI_ne0 (by omega) (by omega)) ?_ | refine cf2 (nI_ne0 (by omega) (by omega)) ?_
        have z := b7_62 (T := T) (n := n) (K := K) hb2 c4 hP (by omega) hS (fun q m2 a1 a2 => h2 c4 q m2 a1 a2) (fun q1 q2 m2 a1 => h3 no (fun z => z.2 ⟨q1, q2⟩) m2 a1)
        rw [cb_lo _ hb2]
        by_cases c5 : rk (sgB (T f)) = 3
        · rw [if_pos c5] at z
          first | refine ct1 (by rw [c5]; rfl) ?_ | refine ct2 (by rw [c5]; rfl) ?_
          exact z
        · rw [if_neg c5] at z
          first | refine cf1 (fun z => c5 ((nI_eq (b := 3) (show rk (sgB (T f)) < 2 ^ 31 by omega) (by omega)).mp z)) ?_ | refine cf2 (fun z => c5 ((nI_eq (b := 3) (show rk (sgB (T f)) < 2 ^ 31 by omega) (by omega)).mp z)) ?_
          exact z
    · first | refine cf1 (fun z => c3 ((nI_eq (b := 3) (show srt T n f < 2 ^ 31 by omega) (by omega)).mp z)) ?_ | refine cf2 (fun z => c3 ((nI_eq (b := 3) (show srt T n f < 2 ^ 31 by omega) (by omega)).mp z)) ?_
      exact h3 no (fun z => c3 (s3 (Or.inl z.1))) m FR
  by_cases c1 : T f = 41
  · first | refine ct1 ((cb_eq (x := 41) hb (by omega)).mpr c1) ?_ | refine ct2 ((cb_eq (x := 41) hb (by omega)).mpr c1) ?_
    rw [hS.2.2.2.1]
    by_cases c2 : 0 < c11 w
    · first | refine cf1 (nI_nle c2 (by have := hP.2.2.2.1; omega)) ?_ | refine cf2 (nI_nle c2 (by have := hP.2.2.2.1; omega)) ?_
      exact s7_close hP.1 c2 hS (by have := hP.2.1; omega) (fun m2 a1 a2 => h1 c1 c2 m2 a1 a2)
    · first | refine ct1 (by rw [show c11 w = 0 by omega]; decide) ?_ | refine ct2 (by rw [show c11 w = 0 by omega]; decide) ?_
      exact j28 (fun z => c2 z.2)
  · first | refine cf1 (fun z => c1 ((cb_eq (x := 41) hb (by omega)).mp z)) ?_ | refine cf2 (fun z => c1 ((cb_eq (x := 41) hb (by omega)).mp z)) ?_
    exact j28 (fun z => c1 z.1)
end
