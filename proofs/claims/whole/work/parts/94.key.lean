section
/-! A TEXT TAKEN: THE KEY -/
def kwO (key : Nat) : Nat := [0, 5, 8].getD key 0
theorem tb_ko : ∀ key, key < 3 → (([0, 5, 8, 12] : List Int32).getD key 0 = nI (kwO key)) ∧ (([0, 5, 8, 12] : List Int32).getD (key + 1) 0 = nI (kwO key + kwL key)) ∧ kwO key + kwL key ≤ 12 ∧ ∀ i, i < kwL key → ([98, 101, 97, 114, 115, 102, 101, 101, 102, 105, 110, 101] : List Int32).getD (kwO key + i) 0 = nI ((kwB key).getD i 0) := by decide +kernel
theorem l9_key0 {kb : Int32 → Mm → Prop} {K : Bool → Mm → Prop} {n : Nat} {l1 l2 l4 : Int32} {m : Mm} (h : kb (l1 + 1) m) : L_X9_takesKey_55 kb K (n + 1) l1 l2 0 l4 m := by
  unfold L_X9_takesKey_55
  exact ⟨fun _ => ct1 rfl h, fun _ => ct1 rfl (ct1 rfl h)⟩
theorem l9_key1 {T : Nat → Nat} {n f key : Nat} {kb : Int32 → Mm → Prop} {K : Bool → Mm → Prop} {m : Mm} (hT : TpR T n m) (h8 : Iv8 m) (hk : key < 3) (h11 : m 82 11 = nI f) (hf : f + kwL key ≤ n) (hy : (∀ i, i < kwL key → T (f + i) = (kwB key).getD i 0) → ∀ m2 : Mm, m2 = mu m 82 15 (nI key) → W_X9_go m2 (fun m_116 => K true m_116)) (hn : ¬ (∀ i, i < kwL key → T (f + i) = (kwB key).getD i 0) → kb (nI key + 1) m) : ∀ (d i : Nat), i + d = kwL key → (∀ i2, i2 < i → T (f + i2) = (kwB key).getD i2 0) → L_X9_takesKey_55 kb K (d + 1) (nI key) (nI (kwL key)) 1 (nI i) m := by
  have hn9 := hT.2.1
  obtain ⟨o1, o2, o3, o4⟩ := tb_ko key hk
  obtain ⟨_, _, t3, _, t2⟩ := tb_kw key hk
  intro d
  induction d with
  | zero =>
    intro i hi hb
    unfold L_X9_takesKey_55
    first | refine ct1 (nI_le (by omega) (by omega)) ?_ | refine ct2 (nI_le (by omega) (by omega)) ?_
    first | refine cf1 (by decide) ?_ | refine cf2 (by decide) ?_
    exact hy (fun i2 hi2 => hb i2 (by omega))
  | succ d ih =>
    intro i hi hb
    unfold L_X9_takesKey_55
    first | refine cf1 (nI_ge (by omega) (by omega)) ?_ | refine cf2 (nI_ge (by omega) (by omega)) ?_
    first | refine cf1 (by decide) ?_ | refine cf2 (by decide) ?_
    refine ⟨f + i, by rw [h11, nI_add], by omega, key, rfl, by omega, kwO key + i, ?_, by omega, ?_⟩
    · rw [h8.2 key (by omega), o1, nI_add]
    · obtain ⟨hb9, eb⟩ := hT.2.2 (f + i) (by omega)
      rw [eb, h8.1 (kwO key + i) (by omega), o4 i (by omega), nI_1]
      have hl := (t2 i (by omega)).1
      by_cases c1 : T (f + i) = (kwB key).getD i 0
      · first | refine ct1 (by rw [c1]) ?_ | refine ct2 (by rw [c1]) ?_
        refine ih (i + 1) (by omega) (fun i2 hi2 => ?_)
        by_cases c2 : i2 = i
        · rw [c2]; exact c1
        · exact hb i2 (by omega)
      · first | refine cf1 (fun z => c1 ((nI_eq (by omega) (by omega)).mp z)) ?_ | refine cf2 (fun z => c1 ((nI_eq (by omega) (by omega)).mp z)) ?_
        exact l9_key0 (hn (fun z => c1 (z i (by omega))))
theorem s9_key {T : Nat → Nat} {n : Nat} {m : Mm} {K : Bool → Mm → Prop} (hT : TpR T n m) (h8 : Iv8 m) (hW : RWd T n 0 0 m) (hy : ∀ key, IsKey T n key → ∀ m2 : Mm, RWd T n (wTo T n (wFm T n 0)) 1 m2 → m2 82 15 = nI key → (∀ q, q ≠ 82 → m2 q = m q) → (∀ j, j < 10 ∨ 15 < j → m2 82 j = m 82 j) → K true m2) (hn : NoKey T n → K false m) : W_X9_takesKey m K := by
  have hn9 := hT.2.1
  have hfl := wFm_le (T := T) (n := n) (e := 0) (by omega)
  have hsl := srt_le T n (wFm T n 0)
  obtain ⟨w10, w11, wk0, wk1, wk2, wk3, wla⟩ := hW
  have cg : ¬ glu T n 0 0 := fun z => by have := z.1; cases this
  unfold W_X9_takesKey
  by_cases s1 : srt T n (wFm T n 0) = 1
  · have hfn := (srt_1.mp s1).1
    have htl := wTo_le (T := T) hfn
    first | refine ct1 ((wk1 s1).2.1 cg) ?_ | refine ct2 ((wk1 s1).2.1 cg) ?_
    have one : ∀ key, key < 3 → ∀ fuel : Nat, (¬ kwd T (wFm T n 0) (wTo T n (wFm T n 0)) key → L_X9_takesKey_12 K fuel (nI (key + 1)) m) → L_X9_takesKey_12 K (fuel + 1) (nI key) m := by
      intro key hk fuel hnext
      obtain ⟨o1, o2, o3, o4⟩ := tb_ko key hk
      obtain ⟨_, _, t3, _, t2⟩ := tb_kw key hk
      unfold L_X9_takesKey_12
      first | refine cf1 (nI_ge (b := 3) hk (by omega)) ?_ | refine cf2 (nI_ge (b := 3) hk (by omega)) ?_
      refine ⟨key + 1, nI_1 _, by omega, key, rfl, by omega, ?_⟩
      rw [h8.2 (key + 1) (by omega), h8.2 key (by omega), o1, o2, pk_sub (by omega), w10, w11, pk_sub (by omega), show kwO key + kwL key - kwO key = kwL key by omega]
      by_cases c1 : wTo T n (wFm T n 0) = wFm T n 0 + kwL key
      · first | refine ct1 (by rw [c1]; congr 1; omega) ?_ | refine ct2 (by rw [c1]; congr 1; omega) ?_
        refine ⟨kwL key + 1, l9_key1 hT h8 hk w11 (by omega) (fun z m2 e2 => ?_) (fun z => ?_) (kwL key) 0 (by omega) (fun i2 hi2 => by omega)⟩
        · have q : ∀ j, j ≠ 15 → m2 82 j = m 82 j := fun j nj => by rw [e2, mu_j _ _ _ nj]
          have qq : ∀ x, x ≠ 82 → m2 x = m x := fun x nx => by rw [e2, mu_row_n _ _ _ nx]
          have la := wla (by omega)
          rw [s1] at la
          refine s9_go (T := T) (n := n) (e := wTo T n (wFm T n 0)) (ps := 1) (hT.mv (q 9 (by omega)) (qq 89 (by omega))) htl.2 (by rw [q 10 (by omega)]; exact w10) (by rw [q 14 (by omega)]; exact la) (fun m3 b1 b2 b3 => hy key ⟨hk, s1, c1, z⟩ m3 b3 ?_ (fun x nx => (b1 x nx).trans (qq x nx)) (fun j hj => (b2 j (by omega)).trans (q j (by omega))))
          rw [b2 15 (by omega), e2, mu_s]
        · show L_X9_takesKey_12 K fuel (nI key + 1) m
          rw [nI_1]
          exact hnext (fun y => z y.2)
      · first | refine cf1 (fun z => c1 (by have := (nI_eq (show kwL key < 2 ^ 31 by omega) (show wTo T n (wFm T n 0) - wFm T n 0 < 2 ^ 31 by omega)).mp z; omega)) ?_ | refine cf2 (fun z => c1 (by have := (nI_eq (show kwL key < 2 ^ 31 by omega) (show wTo T n (wFm T n 0) - wFm T n 0 < 2 ^ 31 by omega)).mp z; omega)) ?_
        refine ⟨0 + 1, l9_key0 ?_⟩
        show L_X9_takesKey_12 K fuel (nI key + 1) m
        rw [nI_1]
        exact hnext (fun y => c1 y.1)
    refine ⟨0 + 1 + 1 + 1 + 1, one 0 (by omega) _ (fun n0 => one 1 (by omega) _ (fun n1 => one 2 (by omega) _ (fun n2 => ?_)))⟩
    unfold L_X9_takesKey_12
    first | refine ct1 (by decide) ?_ | refine ct2 (by decide) ?_
    refine hn (fun key hk z => ?_)
    have e : key = 0 ∨ key = 1 ∨ key = 2 := by omega
    rcases e with rfl | rfl | rfl
    · exact n0 z.2
    · exact n1 z.2
    · exact n2 z.2
  · have k12 : ¬ m 82 12 = 1 := by
      have es : srt T n (wFm T n 0) = 0 ∨ srt T n (wFm T n 0) = 2 ∨ srt T n (wFm T n 0) = 3 := by omega
      rcases es with q | q | q
      · rw [wk0 q]; decide
      · by_cases c1 : wTo T n (wFm T n 0) ≤ wFm T n 0 + 4
        · rw [((wk2 q).2.1 cg c1).1]; decide
        · rw [(wk2 q).2.2 c1]; decide
      · rw [(wk3 q).1]; decide
    first | refine cf1 k12 ?_ | refine cf2 k12 ?_
    exact hn (fun key _ z => s1 z.1)
/-- the reference finds what the parser finds -/
theorem s9_finds {T : Nat → Nat} {n : Nat} {mem : Mm} {K : Int32 → Mm → Prop} (hT : TpR T n mem) (h8 : Iv8 mem)
  (hn : NoKey T n → ∀ m2 : Mm, FrR mem m2 → m2 82 11 = nI (wFm T n 0) → B_X9_text_33 K 0 m2)
  (hf : ∀ key, IsKey T n key → ∀ (f : Nat) (m2 : Mm), pAl T n key = .inl f → m2 82 11 = nI f → FrR mem m2 → B_X9_text_33 K 0 m2)
  (ho : ∀ key, IsKey T n key → ∀ (m2 : Mm) (w : List Nat) (rc : List Int32) (a : Nat), pAl T n key = .inr (w, rc, a) → m2 82 15 = nI key → m2 82 20 = nI a → RSk [] (pbC 1 w rc) m2 → FrR mem m2 → B_X9_text_33 K 1 m2) : W_X9_text mem K := by
  have hn9 := hT.2.1
  unfold W_X9_text
  intro m1 e1 m2 e2
  have F2 : FrR mem m2 := (FrR.f e1 (by omega)).tr (FrR.f e2 (by omega))
  have hT2 : TpR T n m2 := hT.mv (F2.2 9 (by omega)) (F2.1 89 (by omega) (by omega) (by omega) (by omega))
  refine s9_go (T := T) (n := n) (e := 0) (ps := 0) hT2 (by omega) (by rw [e2, mu_j _ _ _ (by omega), e1, mu_s]; rfl) ⟨fun z => absurd z (by decide), fun _ => Or.inl (by rw [e2, mu_s])⟩ (fun m3 b1 b2 b3 => ?_)
  have F3 : FrR mem m3 := F2.tr ⟨fun q n1 _ _ _ => b1 q n1, fun j hj => b2 j (by omega)⟩
  have hT3 : TpR T n m3 := hT.mv (F3.2 9 (by omega)) (F3.1 89 (by omega) (by omega) (by omega) (by omega))
  have h83 : Iv8 m3 := by
    unfold Iv8
    rw [F3.1 90 (by omega) (by omega) (by omega) (by omega), F3.1 91 (by omega) (by omega) (by omega) (by omega)]
    exact h8
  refine s9_key hT3 h83 b3 (fun key IK m4 d1 d2 d3 d4 => ?_) (fun nk => ?_)
  · first | refine zt1 ?_ | refine zt2 ?_
    have hk := IK.1
    have q21 := IK.2.2.1
    have tk := tb_kw key hk
    have hfn := (srt_1.mp IK.2.1).1
    have htl := wTo_le (T := T) hfn
    have F4 : FrR mem m4 := F3.tr ⟨fun q n1 _ _ _ => d3 q n1, fun j hj => d4 j (by omega)⟩
    unfold W_X9_takesE
    intro m5 e5 m6 e6 m7 e7 m8 e8
    have F8 : FrR mem m8 := F4.tr ((FrR.f e5 (by omega)).tr ((FrR.f e6 (by omega)).tr ((FrR.f e7 (by omega)).tr (FrR.f e8 (by omega)))))
    have hT8 : TpR T n m8 := hT.mv (F8.2 9 (by omega)) (F8.1 89 (by omega) (by omega) (by omega) (by omega))
    have gj : ∀ j, j ≠ 19 → j ≠ 20 → j ≠ 22 → m8 82 j = m4 82 j := fun j n1 n2 n3 => by rw [e8, mu_k _ _ _ (by omega), e7, mu_j _ _ _ n3, e6, mu_j _ _ _ n2, e5, mu_j _ _ _ n1]
    have W8 : RWd T n (wTo T n (wFm T n 0)) 1 m8 := by
      unfold RWd
      rw [gj 10 (by omega) (by omega) (by omega), gj 11 (by omega) (by omega) (by omega), gj 12 (by omega) (by omega) (by omega), gj 13 (by omega) (by omega) (by omega), gj 14 (by omega) (by omega) (by omega)]
      exact d1
    refine ⟨97, ?_⟩
    refine l9_main (T := T) (n := n) (key := key) (m0 := m8) (R := pAl T n key) hk hT8 (fun m9 f z1 z2 z3 => ?_) (fun m9 e w rc a z1 z2 z3 z4 z5 z6 z7 z8 => ?_) 97 (wTo T n (wFm T n 0)) 1 true [] [] 0 m8 htl.2 (by omega) W8 ⟨?_, ?_, ⟨?_, ?_, trivial, trivial⟩, ?_⟩ (PIv.start IK) ⟨fun _ _ _ _ _ => rfl, fun _ _ => rfl⟩ rfl
    · first | refine zf1 ?_ | refine zf2 ?_
      exact hf key IK f m9 z1 z2 (F8.tr z3)
    · first | refine zt1 ?_ | refine zt2 ?_
      exact ho key IK m9 w rc a z1 z5 z6 z7 (F8.tr z8)
    · rw [gj 15 (by omega) (by omega) (by omega)]; exact d2
    · rw [e8, mu_k _ _ _ (by omega), e7, mu_j _ _ _ (by omega), e6, mu_s]; rfl
    · rw [e8, mu_k _ _ _ (by omega), e7, mu_s]; rfl
    · rw [e8, mu_k _ _ _ (by omega), e7, mu_j _ _ _ (by omega), e6, mu_j _ _ _ (by omega), e5, mu_s]; rfl
    · intro j hj
      have hj0 : j ≤ 0 := hj
      have e0 : j = 0 := by omega
      subst e0
      show (m8 94 0 ≠ 0 ↔ false = true)
      rw [e8, mu_s]
      exact ⟨fun z => absurd rfl z, fun z => by cases z⟩
  · first | refine zf1 ?_ | refine zf2 ?_
    exact hn nk m3 F3 b3.2.1
end
