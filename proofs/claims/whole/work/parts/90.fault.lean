section
/-! THE CLASS'S LOOP, ITS KEYS -/
theorem s3_of {T : Nat → Nat} {n f : Nat} (hf : f < n) (z : sgB (T f) ≠ 0 ∨ T f = 41) : srt T n f = 3 := by
  unfold srt
  rw [if_neg (by omega)]
  by_cases c1 : T f = 41
  · rw [c1, if_neg (by omega), if_neg (by omega)]
  · have z2 : sgB (T f) ≠ 0 := by rcases z with z | z; exact z; exact absurd z c1
    have z3 : T f = 124 ∨ T f = 38 ∨ T f = 60 ∨ T f = 61 ∨ T f = 62 ∨ T f = 43 ∨ T f = 45 ∨ T f = 42 ∨ T f = 47 := by
      unfold sgB at z2
      by_cases d1 : T f = 124; · omega
      by_cases d2 : T f = 38; · omega
      by_cases d3 : T f = 60; · omega
      by_cases d4 : T f = 61; · omega
      by_cases d5 : T f = 62; · omega
      by_cases d6 : T f = 43; · omega
      by_cases d7 : T f = 45; · omega
      by_cases d8 : T f = 42; · omega
      by_cases d9 : T f = 47; · omega
      rw [if_neg d1, if_neg d2, if_neg d3, if_neg d4, if_neg d5, if_neg d6, if_neg d7, if_neg d8, if_neg d9] at z2
      exact absurd rfl z2
    rw [if_neg (by omega), if_neg (by omega)]
def Fq (m m2 : Mm) : Prop := ∀ q, q < 45 ∨ 49 < q ∨ q = 46 ∨ q = 47 → m2 q = m q
theorem Fcl.q {m m2 m3 : Mm} (k : Fcl m2 m3) (h : Fq m m2) : Fq m m3 := fun q hq => (k.1 q hq).trans (h q hq)
theorem CSt.nw {key a : Nat} {wt : Bool} {w : List Nat} {rc : List Int32} {m m2 : Mm} (h : CSt key wt w rc a m) (h1 : ∀ q, q ≠ 45 → m2 q = m q) (h2 : ∀ j, 5 ≤ j → m2 45 j = m 45 j) : CSt key wt w rc a m2 := by
  unfold CSt CSk
  rw [h2 5 (by omega), h2 6 (by omega), h2 7 (by omega), h2 8 (by omega), h2 9 (by omega), h2 11 (by omega), h2 13 (by omega), h1 48 (by omega), h1 49 (by omega)]
  exact h
/-- what the parser does with one word -/
theorem prs_at {T : Nat → Nat} {n key k e a : Nat} {pw : Bool} {w : List Nat} {rc : List Int32} (h0 : srt T n (wFm T n e) ≠ 0) (hg : ¬ (pw = true ∧ srt T n (wFm T n e) ≤ 2 ∧ wFm T n e = e)) :
  (srt T n (wFm T n e) = 1 → wTo T n (wFm T n e) = wFm T n e + 1 → nmK key (T (wFm T n e)) < 9 → prs T n key (k + 1) e pw true w rc a = prs T n key k (wTo T n (wFm T n e)) true false (pnW w) (pnC w (nI (10000 + nmK key (T (wFm T n e))) :: rc)) (a + 1)) ∧
  (srt T n (wFm T n e) = 2 → wTo T n (wFm T n e) ≤ wFm T n e + 4 → prs T n key (k + 1) e pw true w rc a = prs T n key k (wTo T n (wFm T n e)) true false (pnW w) (pnC w (nI (nvl T (wFm T n e) (wTo T n (wFm T n e) - wFm T n e)) :: rc)) (a + 1)) ∧
  (srt T n (wFm T n e) = 3 → T (wFm T n e) = 40 → c11 w < 8 → prs T n key (k + 1) e pw true w rc a = prs T n key k (wTo T n (wFm T n e)) false true (11 :: w) rc a) ∧
  (srt T n (wFm T n e) = 3 → T (wFm T n e) = 33 → c10 w < 8 → prs T n key (k + 1) e pw true w rc a = prs T n key k (wTo T n (wFm T n e)) false true (10 :: w) rc a) ∧
  (¬ (srt T n (wFm T n e) = 1 ∧ wTo T n (wFm T n e) = wFm T n e + 1 ∧ nmK key (T (wFm T n e)) < 9) → ¬ (srt T n (wFm T n e) = 2 ∧ wTo T n (wFm T n e) ≤ wFm T n e + 4) → ¬ (srt T n (wFm T n e) = 3 ∧ T (wFm T n e) = 40 ∧ c11 w < 8) → ¬ (srt T n (wFm T n e) = 3 ∧ T (wFm T n e) = 33 ∧ c10 w < 8) → prs T n key (k + 1) e pw true w rc a = .inl (wFm T n e)) ∧
  (T (wFm T n e) = 41 → 0 < c11 w → prs T n key (k + 1) e pw false w rc a = prs T n key k (wTo T n (wFm T n e)) false false (pnW (pbW 1 w).tail) (pnC (pbW 1 w).tail (pbC 1 w rc)) a) ∧
  (sgB (T (wFm T n e)) ≠ 0 → ¬ (rk (sgB (T (wFm T n e))) = 3 ∧ tst w = true) → prs T n key (k + 1) e pw false w rc a = prs T n key k (wTo T n (wFm T n e)) false true (sgB (T (wFm T n e)) :: pbW (rk (sgB (T (wFm T n e)))) w) (pbC (rk (sgB (T (wFm T n e)))) w rc) a) ∧
  (¬ (T (wFm T n e) = 41 ∧ 0 < c11 w) → ¬ (sgB (T (wFm T n e)) ≠ 0 ∧ ¬ (rk (sgB (T (wFm T n e))) = 3 ∧ tst w = true)) → prs T n key (k + 1) e pw false w rc a = .inl (wFm T n e)) := by
  have hsl := srt_le T n (wFm T n e)
  refine ⟨fun a1 a2 a3 => ?_, fun a1 a2 => ?_, fun a1 a2 a3 => ?_, fun a1 a2 a3 => ?_, fun a1 a2 a3 a4 => ?_, fun a1 a2 => ?_, fun a1 a2 => ?_, fun a1 a2 => ?_⟩
  · rw [prs, if_neg h0, if_neg hg, if_pos rfl, if_pos a1, if_pos ⟨a2, a3⟩]
  · rw [prs, if_neg h0, if_neg hg, if_pos rfl, if_neg (by omega), if_pos a1, if_pos a2]
  · rw [prs, if_neg h0, if_neg hg, if_pos rfl, if_neg (by omega), if_neg (by omega), if_pos ⟨a2, a3⟩]
  · rw [prs, if_neg h0, if_neg hg, if_pos rfl, if_neg (by omega), if_neg (by omega), if_neg (by omega), if_pos ⟨a2, a3⟩]
  · rw [prs, if_neg h0, if_neg hg, if_pos rfl]
    by_cases c1 : srt T n (wFm T n e) = 1
    · rw [if_pos c1, if_neg (fun z => a1 ⟨c1, z.1, z.2⟩)]
    · rw [if_neg c1]
      by_cases c2 : srt T n (wFm T n e) = 2
      · rw [if_pos c2, if_neg (fun z => a2 ⟨c2, z⟩)]
      · have c3 : srt T n (wFm T n e) = 3 := by omega
        rw [if_neg c2, if_neg (fun z => a3 ⟨c3, z.1, z.2⟩), if_neg (fun z => a4 ⟨c3, z.1, z.2⟩)]
  · rw [prs, if_neg h0, if_neg hg, if_neg (by decide), if_pos ⟨a1, a2⟩]
  · have no : ¬ (T (wFm T n e) = 41 ∧ 0 < c11 w) := fun z => by
      rw [z.1] at a1
      exact a1 rfl
    rw [prs, if_neg h0, if_neg hg, if_neg (by decide), if_neg no, if_pos ⟨a1, a2⟩]
  · rw [prs, if_neg h0, if_neg hg, if_neg (by decide), if_neg a1, if_neg a2]
theorem atomN {T : Nat → Nat} {n f : Nat} (hs : srt T n f = 2) (ht : wTo T n f ≤ f + 4) (hf : f + 1 ≤ wTo T n f) : nvl T f (wTo T n f - f) < 10000 :=
  nvl_4 (by omega) (fun j hj => (srt_2.mp ((wTo_all (Or.inr hs) (f + j) (by omega) (by omega)).trans hs)).2.2)
theorem l7_main {T : Nat → Nat} {n key : Nat} {m0 : Mm} {R : Res} {K : Int32 → Mm → Prop} (hk : key < 3) (hT : TpC T n m0) (hKf : ∀ (m : Mm) (f : Nat), R = .inl f → f ≤ 96 → Fq m0 m → K (nI f) m) (hKo : ∀ (m : Mm) (e : Nat) (w : List Nat) (rc : List Int32) (a : Nat), R = .inr (w, rc, a) → e ≤ n → PIv (nfK key) e false w rc a → c11 w = 0 → CSt key false w rc a m → Fq m0 m → K (-1) m) : ∀ (k i e ps : Nat) (wt : Bool) (w : List Nat) (rc : List Int32) (a : Nat) (m : Mm), i + k = 97 → e ≤ n → 100 ≤ e + k → m 45 1 = nI ps → ps ≤ 3 → m 45 3 = nI e → CSt key wt w rc a m → PIv (nfK key) e wt w rc a → Fq m0 m → prs T n key k e (wrd ps) wt w rc a = R → L_X7_faultFound_31 K k (nI i) m := by
  have hn := hT.2.1
  intro k
  induction k with
  | zero => intro i e ps wt w rc a m h1 h2 h3; omega
  | succ k ih =>
    intro i e ps wt w rc a m h1 h2 h3 h4 h5 h6 hS hP hF hR
    have hTm : TpC T n m := hT.mv (hF 46 (by omega)) (hF 47 (by omega))
    unfold L_X7_faultFound_31
    first | refine cf1 (Int32.not_lt.mpr (nI_le (b := 96) (by omega) (by omega))) ?_ | refine cf2 (Int32.not_lt.mpr (nI_le (b := 96) (by omega) (by omega))) ?_
    refine s7_nextWord hTm h2 h4 h5 h6 (fun m2 a1 a2 hc => ?_)
    have hT2 : TpC T n m2 := hTm.mv (a1 46 (by omega)) (a1 47 (by omega))
    have hS2 := hS.nw a1 a2
    have hF2 : Fq m0 m2 := fun q hq => (a1 q (by omega)).trans (hF q hq)
    clear a1 a2 hS hF hTm h4 h6
    have hfl := wFm_le (T := T) h2
    have hsl := srt_le T n (wFm T n e)
    have hcb := hc
    obtain ⟨k1, k2, k3, k4⟩ := hc
    by_cases c0 : srt T n (wFm T n e) = 0
    · first | refine ct1 (by rw [k1, c0]; rfl) ?_ | refine ct2 (by rw [k1, c0]; rfl) ?_
      rw [k2, hS2.1]
      cases wt with
      | true =>
        first | refine cf1 (by decide) ?_ | refine cf2 (by decide) ?_
        exact hKf m2 _ (by rw [← hR, prs, if_pos c0, if_pos rfl]) (by omega) hF2
      | false =>
        first | refine ct1 (by decide) ?_ | refine ct2 (by decide) ?_
        rw [hS2.2.2.2.1]
        by_cases c1 : c11 w = 0
        · first | refine ct1 (by rw [c1]; decide) ?_ | refine ct2 (by rw [c1]; decide) ?_
          exact hKo m2 e w rc a (by rw [← hR, prs, if_pos c0, if_neg (by decide), if_pos c1]) h2 hP c1 hS2 hF2
        · first | refine cf1 (nI_nle (by omega) (by have := hP.2.2.2.1; omega)) ?_ | refine cf2 (nI_nle (by omega) (by have := hP.2.2.2.1; omega)) ?_
          exact hKf m2 _ (by rw [← hR, prs, if_pos c0, if_neg (by decide), if_neg c1]) (by omega) hF2
    · first | refine cf1 (by rw [k1]; exact nI_ne0 (by omega) (by omega)) ?_ | refine cf2 (by rw [k1]; exact nI_ne0 (by omega) (by omega)) ?_
      have hfn : wFm T n e < n := by
        have : ¬ n ≤ wFm T n e := fun z => c0 (srt_0.mpr z)
        omega
      have htl := wTo_le (T := T) hfn
      obtain ⟨k5, k6⟩ := k4 c0
      by_cases cg : glu T n e ps
      · first | refine cf1 (by rw [k5 cg]; decide) ?_ | refine cf2 (by rw [k5 cg]; decide) ?_
        rw [k2]
        exact hKf m2 _ (by rw [← hR, prs, if_neg c0, if_pos (show wrd ps = true ∧ srt T n (wFm T n e) ≤ 2 ∧ wFm T n e = e from cg)]) (by omega) hF2
      · first | refine ct1 (k6 cg) ?_ | refine ct2 (k6 cg) ?_
        rw [hS2.1]
        obtain ⟨p1, p2, p3, p4, p5, p6, p7, p8⟩ := prs_at (key := key) (k := k) (a := a) (w := w) (rc := rc) c0 cg
        have bad : ∀ m3 : Mm, Fcl m2 m3 → R = .inl (wFm T n e) → K (m3 45 2) m3 := fun m3 q1 q2 => by
          rw [q1.2 2 (by omega), k2]
          exact hKf m3 _ q2 (by omega) (q1.q hF2)
        have go : ∀ (m3 : Mm) (wt3 : Bool) (w3 : List Nat) (rc3 : List Int32) (a3 : Nat), Fcl m2 m3 → CSt key wt3 w3 rc3 a3 m3 → PIv (nfK key) (wTo T n (wFm T n e)) wt3 w3 rc3 a3 → prs T n key k (wTo T n (wFm T n e)) (wrd (srt T n (wFm T n e))) wt3 w3 rc3 a3 = R → L_X7_faultFound_31 K k (nI i + 1) m3 := fun m3 wt3 w3 rc3 a3 q1 q2 q3 q4 => by
          rw [nI_1]
          exact ih (i + 1) (wTo T n (wFm T n e)) (srt T n (wFm T n e)) wt3 w3 rc3 a3 m3 (by omega) (by omega) (by omega) (by rw [q1.2 1 (by omega)]; exact k1) hsl (by rw [q1.2 3 (by omega)]; exact k3) q2 q3 (q1.q hF2) q4
        cases wt with
        | false =>
          first | refine ct1 (by decide) ?_ | refine ct2 (by decide) ?_
          refine s7_joining hT2 h2 hcb c0 hP hS2 (fun q1 q2 m3 q3 q4 => ?_) (fun q1 q2 m3 q3 q4 => ?_) (fun q1 q2 m3 q3 => ?_)
          · first | refine zt1 ?_ | refine zt2 ?_
            refine go m3 _ _ _ _ q4 q3 (hP.close (by omega) q2) ?_
            rw [s3_of hfn (Or.inr q1)]
            exact (p6 q1 q2).symm.trans hR
          · first | refine zt1 ?_ | refine zt2 ?_
            refine go m3 _ _ _ _ q4 q3 (hP.join (by omega) q1 (sgn_le _)) ?_
            rw [s3_of hfn (Or.inl q1)]
            exact (p7 q1 q2).symm.trans hR
          · first | refine zf1 ?_ | refine zf2 ?_
            exact bad m3 q3 (hR.symm.trans (p8 q1 q2))
        | true =>
          first | refine cf1 (by decide) ?_ | refine cf2 (by decide) ?_
          refine s7_piece hT2 hk h2 hcb c0 hP.1 hS2 (by have := hP.2.1; omega) hP.2.2.2.1 hP.2.2.2.2.1 (fun q1 q2 q3 m3 q4 q5 => ?_) (fun q1 q2 m3 q4 q5 => ?_) (fun q1 q2 q3 m3 q4 q5 => ?_) (fun q1 q2 q3 m3 q4 q5 => ?_) (fun q1 q2 q3 q4 m3 q5 => ?_)
          · first | refine zt1 ?_ | refine zt2 ?_
            refine go m3 _ _ _ _ q5 q4 (hP.atom (by omega) (Or.inr ⟨by omega, ?_⟩)) ?_
            · have := nmK_f key (T (wFm T n e)); omega
            · rw [q1]
              exact (p1 q1 q2 q3).symm.trans hR
          · first | refine zt1 ?_ | refine zt2 ?_
            refine go m3 _ _ _ _ q5 q4 (hP.atom (by omega) (Or.inl (atomN q1 q2 (by omega)))) ?_
            rw [q1]
            exact (p2 q1 q2).symm.trans hR
          · first | refine zt1 ?_ | refine zt2 ?_
            refine go m3 _ _ _ _ q5 q4 (hP.open9 (by omega) q3) ?_
            rw [q1]
            exact (p3 q1 q2 q3).symm.trans hR
          · first | refine zt1 ?_ | refine zt2 ?_
            refine go m3 _ _ _ _ q5 q4 (hP.not9 (by omega) q3) ?_
            rw [q1]
            exact (p4 q1 q2 q3).symm.trans hR
          · first | refine zf1 ?_ | refine zf2 ?_
            exact bad m3 q5 (hR.symm.trans (p5 q1 q2 q3 q4))
/-! the key -/
def kwB (key : Nat) : List Nat := [[98, 101, 97, 114, 115], [102, 101, 101], [102, 105, 110, 101]].getD key []
def kwL (key : Nat) : Nat := [5, 3, 4].getD key 0
def kwd (T : Nat → Nat) (f t key : Nat) : Prop := t = f + kwL key ∧ ∀ i, i < kwL key → T (f + i) = (kwB key).getD i 0
theorem tb_kw : ∀ j, j < 3 → ss_L.getD j 0 = kwL j ∧ 3 ≤ kwL j ∧ kwL j ≤ 5 ∧ (nI (kwL j) >>> ((0 : Int32) &&& 31)) = nI (kwL j) ∧ ∀ i, i < kwL j → (kwB j).getD i 0 < 128 ∧ ((((ss_B.getD j []).getD i 0) &&& 255).toUInt32 % 65536).toInt32 = nI ((kwB j).getD i 0) := by decide +kernel
theorem s7_length {j : Nat} {m : Mm} {K : Int32 → Mm → Prop} (hj : j < 3) (h : K (nI (kwL j)) m) : W_J0_length_8abf5 j m K := by
  obtain ⟨t1, _, _, t2, _⟩ := tb_kw j hj
  unfold W_J0_length_8abf5 W_J0_coder_7d493
  show K (nI (ss_L.getD j 0) >>> ((0 : Int32) &&& 31)) m
  rw [t1, t2]
  exact h
theorem s7_charAt {j i : Nat} {m : Mm} {K : Int32 → Mm → Prop} (hj : j < 3) (hi : i < kwL j) (h : K (nI ((kwB j).getD i 0)) m) : W_J0_charAt_5068e j (nI i) m K := by
  obtain ⟨t1, _, t3, _, t2⟩ := tb_kw j hj
  unfold W_J0_charAt_5068e W_J0_isLatin1_aae02
  first | refine zt1 ?_ | refine zt2 ?_
  unfold W_J1_charAt_3b067 W_J0_checkIndex_df160 W_J3_checkIndex_8e157
  intro r
  first | refine cf1 (nI_pos (by omega)) ?_ | refine cf2 (nI_pos (by omega)) ?_
  first | refine ct1 (nI_lt (by omega) (by omega)) ?_ | refine ct2 (nI_lt (by omega) (by omega)) ?_
  refine ⟨i, rfl, by omega, ?_⟩
  rw [(t2 i hi).2]
  exact h
theorem l7_isRead {T : Nat → Nat} {n f key : Nat} {m : Mm} {K : Bool → Mm → Prop} (hT : TpC T n m) (hk : key < 3) (h2 : m 45 2 = nI f) (ht : f + kwL key ≤ n) (hy : (∀ i, i < kwL key → T (f + i) = (kwB key).getD i 0) → K true m) (hn : ¬ (∀ i, i < kwL key → T (f + i) = (kwB key).getD i 0) → K false m) : ∀ (d i : Nat), i + d = kwL key → (∀ i2, i2 < i → T (f + i2) = (kwB key).getD i2 0) → L_X7_isRead_28 key K (d + 1) (nI i) m := by
  have hn9 := hT.2.1
  obtain ⟨_, _, t3, _, t2⟩ := tb_kw key hk
  intro d
  induction d with
  | zero =>
    intro i hi hb
    unfold L_X7_isRead_28
    refine s7_length hk ?_
    first | refine ct1 (nI_le (by omega) (by omega)) ?_ | refine ct2 (nI_le (by omega) (by omega)) ?_
    exact hy (fun i2 hi2 => hb i2 (by omega))
  | succ d ih =>
    intro i hi hb
    unfold L_X7_isRead_28
    refine s7_length hk ?_
    first | refine cf1 (nI_ge (by omega) (by omega)) ?_ | refine cf2 (nI_ge (by omega) (by omega)) ?_
    rw [h2, nI_add]
    refine s7_byteAt hT (by omega) ?_
    refine s7_charAt hk (by omega) ?_
    have hb9 := (hT.2.2 (f + i) (by omega)).1
    by_cases c1 : T (f + i) = (kwB key).getD i 0
    · first | refine ct1 ((cb_eq hb9 (t2 i (by omega)).1).mpr c1) ?_ | refine ct2 ((cb_eq hb9 (t2 i (by omega)).1).mpr c1) ?_
      rw [nI_1]
      refine ih (i + 1) (by omega) (fun i2 hi2 => ?_)
      by_cases c2 : i2 = i
      · rw [c2]; exact c1
      · exact hb i2 (by omega)
    · first | refine cf1 (fun z => c1 ((cb_eq hb9 (t2 i (by omega)).1).mp z)) ?_ | refine cf2 (fun z => c1 ((cb_eq hb9 (t2 i (by omega)).1).mp z)) ?_
      exact hn (fun z => c1 (z i (by omega)))
theorem s7_isRead {T : Nat → Nat} {n s f t key : Nat} {m : Mm} {K : Bool → Mm → Prop} (hT : TpC T n m) (hk : key < 3) (h1 : m 45 1 = nI s) (hs : s ≤ 3) (h2 : m 45 2 = nI f) (h3 : m 45 3 = nI t) (hft : f ≤ t) (ht : t ≤ n) (hy : s = 1 → kwd T f t key → K true m) (hn : ¬ (s = 1 ∧ kwd T f t key) → K false m) : W_X7_isRead key m K := by
  have hn9 := hT.2.1
  obtain ⟨_, _, t3, _, t2⟩ := tb_kw key hk
  unfold W_X7_isRead
  rw [h1, h3, h2]
  by_cases c1 : s = 1
  · first | refine ct1 (by rw [c1]; rfl) ?_ | refine ct2 (by rw [c1]; rfl) ?_
    refine s7_length hk ?_
    rw [pk_sub hft]
    by_cases c2 : t = f + kwL key
    · first | refine ct1 (by rw [c2]; congr 1; omega) ?_ | refine ct2 (by rw [c2]; congr 1; omega) ?_
      exact ⟨kwL key + 1, l7_isRead hT hk h2 (by omega) (fun z => hy c1 ⟨c2, z⟩) (fun z => hn (fun y => z y.2.2)) (kwL key) 0 (by omega) (fun i2 hi2 => by omega)⟩
    · first | refine cf1 (fun z => c2 (by have := (nI_eq (show t - f < 2 ^ 31 by omega) (show kwL key < 2 ^ 31 by omega)).mp z; omega)) ?_ | refine cf2 (fun z => c2 (by have := (nI_eq (show t - f < 2 ^ 31 by omega) (show kwL key < 2 ^ 31 by omega)).mp z; omega)) ?_
      exact hn (fun y => c2 y.2.1)
  · first | refine cf1 (fun z => c1 ((nI_eq (b := 1) (show s < 2 ^ 31 by omega) (by omega)).mp z)) ?_ | refine cf2 (fun z => c1 ((nI_eq (b := 1) (show s < 2 ^ 31 by omega) (by omega)).mp z)) ?_
    exact hn (fun y => c1 y.1)
theorem s7_keyRead {T : Nat → Nat} {n s f t : Nat} {m : Mm} {K : Int32 → Mm → Prop} (hT : TpC T n m) (h1 : m 45 1 = nI s) (hs : s ≤ 3) (h2 : m 45 2 = nI f) (h3 : m 45 3 = nI t) (hft : f ≤ t) (ht : t ≤ n) (hy : ∀ key, key < 3 → s = 1 → kwd T f t key → K (nI key) m) (hn : (∀ key, key < 3 → ¬ (s = 1 ∧ kwd T f t key)) → K 3 m) : W_X7_keyRead m K := by
  unfold W_X7_keyRead
  refine ⟨3 + 1, ?_⟩
  unfold L_X7_keyRead_2
  first | refine cf1 (by decide) ?_ | refine cf2 (by decide) ?_
  unfold W_X7_wordOf
  first | refine ct1 (by decide) ?_ | refine ct2 (by decide) ?_
  intro _
  refine s7_isRead hT (by omega) h1 hs h2 h3 hft ht (fun a1 a2 => ?_) (fun n1 => ?_)
  · first | refine zt1 ?_ | refine zt2 ?_
    exact hy 0 (by omega) a1 a2
  · first | refine zf1 ?_ | refine zf2 ?_
    unfold L_X7_keyRead_2
    first | refine cf1 (by decide) ?_ | refine cf2 (by decide) ?_
    unfold W_X7_wordOf
    first | refine cf1 (by decide) ?_ | refine cf2 (by decide) ?_
    first | refine ct1 (by decide) ?_ | refine ct2 (by decide) ?_
    intro _
    refine s7_isRead hT (by omega) h1 hs h2 h3 hft ht (fun a1 a2 => ?_) (fun n2 => ?_)
    · first | refine zt1 ?_ | refine zt2 ?_
      exact hy 1 (by omega) a1 a2
    · first | refine zf1 ?_ | refine zf2 ?_
      unfold L_X7_keyRead_2
      first | refine cf1 (by decide) ?_ | refine cf2 (by decide) ?_
      unfold W_X7_wordOf
      first | refine cf1 (by decide) ?_ | refine cf2 (by decide) ?_
      first | refine cf1 (by decide) ?_ | refine cf2 (by decide) ?_
      intro _
      refine s7_isRead hT (by omega) h1 hs h2 h3 hft ht (fun a1 a2 => ?_) (fun n3 => ?_)
      · first | refine zt1 ?_ | refine zt2 ?_
        exact hy 2 (by omega) a1 a2
      · first | refine zf1 ?_ | refine zf2 ?_
        unfold L_X7_keyRead_2
        first | refine ct1 (by decide) ?_ | refine ct2 (by decide) ?_
        refine hn (fun key hk => ?_)
        have e : key = 0 ∨ key = 1 ∨ key = 2 := by omega
        rcases e with rfl | rfl | rfl
        · exact n1
        · exact n2
        · exact n3
def NoKey (T : Nat → Nat) (n : Nat) : Prop := ∀ key, key < 3 → ¬ (srt T n (wFm T n 0) = 1 ∧ kwd T (wFm T n 0) (wTo T n (wFm T n 0)) key)
def IsKey (T : Nat → Nat) (n key : Nat) : Prop := key < 3 ∧ srt T n (wFm T n 0) = 1 ∧ kwd T (wFm T n 0) (wTo T n (wFm T n 0)) key
def pAl (T : Nat → Nat) (n key : Nat) : Res := prs T n key 97 (wTo T n (wFm T n 0)) true true [] [] 0
theorem PIv.start {T : Nat → Nat} {n key : Nat} (h : IsKey T n key) : PIv (nfK key) (wTo T n (wFm T n 0)) true [] [] 0 := by
  have e1 := h.2.2.1
  have e2 := tb_kw key h.1
  refine ⟨trivial, ?_, ?_, Nat.zero_le _, Nat.zero_le _, rfl, Nat.le_refl _⟩
  · show 0 + 0 + 3 ≤ _; omega
  · show 2 * 0 + 3 ≤ _; omega
theorem s7_fault {T : Nat → Nat} {n : Nat} {m : Mm} {K : Int32 → Mm → Prop} (hT : TpC T n m) (hn : NoKey T n → ∀ m2 : Mm, Fq m m2 → K (nI (wFm T n 0)) m2) (hf : ∀ key, IsKey T n key → ∀ (f : Nat) (m2 : Mm), pAl T n key = .inl f → f ≤ 96 → Fq m m2 → K (nI f) m2) (ho : ∀ key, IsKey T n key → ∀ (m2 : Mm) (e : Nat) (w : List Nat) (rc : List Int32) (a : Nat), pAl T n key = .inr (w, rc, a) → e ≤ n → PIv (nfK key) e false w rc a → c11 w = 0 → CSt key false w rc a m2 → Fq m m2 → K (-1) m2) : W_X7_faultFound m K := by
  have hn9 := hT.2.1
  unfold W_X7_faultFound W_X7_startAgain
  intro m1 e1 m2 e2 m3 e3 m4 e4 m5 e5 m6 e6 m7 e7 m8 e8 m9 e9
  have gq : ∀ q, q ≠ 45 → m9 q = m q := fun q nq => by rw [e9, mu_row_n _ _ _ nq, e8, mu_row_n _ _ _ nq, e7, mu_row_n _ _ _ nq, e6, mu_row_n _ _ _ nq, e5, mu_row_n _ _ _ nq, e4, mu_row_n _ _ _ nq, e3, mu_row_n _ _ _ nq, e2, mu_row_n _ _ _ nq, e1, mu_row_n _ _ _ nq]
  have g1 : m9 45 1 = 0 := by rw [e9, mu_j _ _ _ (by omega), e8, mu_j _ _ _ (by omega), e7, mu_j _ _ _ (by omega), e6, mu_j _ _ _ (by omega), e5, mu_j _ _ _ (by omega), e4, mu_j _ _ _ (by omega), e3, mu_j _ _ _ (by omega), e2, mu_j _ _ _ (by omega), e1, mu_s]
  have g3 : m9 45 3 = 0 := by rw [e9, mu_j _ _ _ (by omega), e8, mu_j _ _ _ (by omega), e7, mu_j _ _ _ (by omega), e6, mu_j _ _ _ (by omega), e5, mu_j _ _ _ (by omega), e4, mu_j _ _ _ (by omega), e3, mu_s]
  have g5 : m9 45 5 = 1 := by rw [e9, mu_j _ _ _ (by omega), e8, mu_j _ _ _ (by omega), e7, mu_j _ _ _ (by omega), e6, mu_j _ _ _ (by omega), e5, mu_j _ _ _ (by omega), e4, mu_s]
  have g7 : m9 45 7 = 0 := by rw [e9, mu_j _ _ _ (by omega), e8, mu_j _ _ _ (by omega), e7, mu_j _ _ _ (by omega), e6, mu_j _ _ _ (by omega), e5, mu_s]
  have g8 : m9 45 8 = 0 := by rw [e9, mu_j _ _ _ (by omega), e8, mu_j _ _ _ (by omega), e7, mu_j _ _ _ (by omega), e6, mu_s]
  have g9 : m9 45 9 = 0 := by rw [e9, mu_j _ _ _ (by omega), e8, mu_j _ _ _ (by omega), e7, mu_s]
  have g11 : m9 45 11 = 0 := by rw [e9, mu_j _ _ _ (by omega), e8, mu_s]
  have g13 : m9 45 13 = 0 := by rw [e9, mu_s]
  clear e1 e2 e3 e4 e5 e6 e7 e8 e9
  have hT9 : TpC T n m9 := hT.mv (gq 46 (by omega)) (gq 47 (by omega))
  refine s7_nextWord (e := 0) (ps := 0) hT9 (by omega) g1 (by omega) g3 (fun ma a1 a2 hc => ?_)
  have hTa : TpC T n ma := hT9.mv (a1 46 (by omega)) (a1 47 (by omega))
  have hfl := wFm_le (T := T) (n := n) (e := 0) (by omega)
  have hsl := srt_le T n (wFm T n 0)
  obtain ⟨k1, k2, k3, _⟩ := hc
  have htl : wFm T n 0 ≤ wTo T n (wFm T n 0) ∧ wTo T n (wFm T n 0) ≤ n := by
    by_cases c0 : srt T n (wFm T n 0) = 0
    · unfold wTo; rw [if_pos c0]; omega
    · have : ¬ n ≤ wFm T n 0 := fun z => c0 (srt_0.mpr z)
      have := wTo_le (T := T) (n := n) (f := wFm T n 0) (by omega)
      omega
  have fq : ∀ (v : Int32) (mb : Mm), mb = mu ma 45 6 v → Fq m mb := fun v mb eb q hq => by rw [eb, mu_row_n _ _ _ (by omega), a1 q (by omega), gq q (by omega)]
  refine s7_keyRead hTa k1 hsl k2 k3 htl.1 htl.2 (fun key hk q1 q2 => ?_) (fun q1 => ?_)
  · intro mb eb
    have hT9b : TpC T n mb := hTa.mv (by rw [eb, mu_row_n _ _ _ (by omega)]) (by rw [eb, mu_row_n _ _ _ (by omega)])
    have e6 : mb 45 6 = nI key := by rw [eb, mu_s]
    rw [e6]
    first | refine ct1 (nI_lt (b := 3) hk (by omega)) ?_ | refine ct2 (nI_lt (b := 3) hk (by omega)) ?_
    have IK : IsKey T n key := ⟨hk, q1, q2⟩
    have tk := tb_kw key hk
    have q21 := q2.1
    refine ⟨97, ?_⟩
    refine l7_main (T := T) (n := n) (key := key) (m0 := mb) (R := pAl T n key) hk hT9b (fun mc f z1 z2 z3 => hf key IK f mc z1 z2 (fun q hq => (z3 q hq).trans (fq _ _ eb q hq))) (fun mc e w rc a z1 z2 z3 z4 z5 z6 => ho key IK mc e w rc a z1 z2 z3 z4 z5 (fun q hq => (z6 q hq).trans (fq _ _ eb q hq))) 97 0 (wTo T n (wFm T n 0)) 1 true [] [] 0 mb (by omega) htl.2 (by omega) ?_ (by omega) ?_ ⟨?_, e6, ?_, ?_, ?_, ?_, ?_, trivial, trivial⟩ (PIv.start IK) (fun _ _ => rfl) rfl
    · rw [eb, mu_j _ _ _ (by omega), k1, q1]
    · rw [eb, mu_j _ _ _ (by omega)]; exact k3
    · rw [eb, mu_j _ _ _ (by omega), a2 5 (by omega)]; exact g5
    · rw [eb, mu_j _ _ _ (by omega), a2 7 (by omega)]; exact g7
    · rw [eb, mu_j _ _ _ (by omega), a2 8 (by omega)]; exact g8
    · rw [eb, mu_j _ _ _ (by omega), a2 9 (by omega)]; exact g9
    · rw [eb, mu_j _ _ _ (by omega), a2 11 (by omega)]; exact g11
    · rw [eb, mu_j _ _ _ (by omega), a2 13 (by omega)]; exact g13
  · intro mb eb
    have e6 : mb 45 6 = 3 := by rw [eb, mu_s]
    rw [e6]
    first | refine cf1 (by decide) ?_ | refine cf2 (by decide) ?_
    have e2 : mb 45 2 = nI (wFm T n 0) := by rw [eb, mu_j _ _ _ (by omega)]; exact k2
    rw [e2]
    exact hn q1 mb (fq _ _ eb)
end
