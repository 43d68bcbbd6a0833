section
/-! THE REFERENCE'S LOOP -/
def RSt (key : Nat) (w : List Nat) (rc : List Int32) (a : Nat) (m : Mm) : Prop := m 82 15 = nI key ∧ m 82 20 = nI a ∧ RSk w rc m ∧ TsR w (m 94)
def FrR (m m2 : Mm) : Prop := (∀ q, q ≠ 82 → q ≠ 92 → q ≠ 93 → q ≠ 94 → m2 q = m q) ∧ ∀ j, j < 10 ∨ 22 < j → m2 82 j = m 82 j
theorem FrR.tr {m m2 m3 : Mm} (h : FrR m m2) (k : FrR m2 m3) : FrR m m3 := ⟨fun q a b c d => (k.1 q a b c d).trans (h.1 q a b c d), fun j a => (k.2 j a).trans (h.2 j a)⟩
theorem FpR.fr {m m2 : Mm} (h : FpR m m2) : FrR m m2 := ⟨fun q a b _ _ => h.1 q a b, fun j hj => h.2 j (by omega) (by omega)⟩
theorem FrR.f {m m2 : Mm} {q j : Nat} {v : Int32} (e : m2 = mu m q j v) (hq : (q = 82 ∧ 10 ≤ j ∧ j ≤ 22) ∨ q = 92 ∨ q = 93 ∨ q = 94) : FrR m m2 :=
  ⟨fun p a b c d => by rw [e, mu_row_n _ _ _ (by omega)], fun i hi => by
    rcases hq with h | h | h | h
    · rw [e, h.1, mu_j _ _ _ (by omega)]
    · rw [e, mu_k _ _ _ (by omega)]
    · rw [e, mu_k _ _ _ (by omega)]
    · rw [e, mu_k _ _ _ (by omega)]⟩
theorem s9_push {s : Nat} {w : List Nat} {rc : List Int32} {m : Mm} {G : Mm → Prop} (hS : RSk w rc m) (hl : w.length < 96) (hK : ∀ m2 : Mm, RSk (s :: w) rc m2 → (∀ q, q ≠ 82 → q ≠ 93 → m2 q = m q) → (∀ j, j ≠ 22 → m2 82 j = m 82 j) → G m2) : ∃ i_76 : Nat, (m 82 22) = nI i_76 ∧ i_76 < 96 ∧ (∀ m_76 : Mm, m_76 = mu m 93 i_76 (sg s) → (∀ m_84 : Mm, m_84 = mu m_76 82 22 ((m_76 82 22) + 1) → G m_84)) := by
  obtain ⟨h1, h2, h3, h4⟩ := hS
  refine ⟨w.length, h1, hl, fun m2 e2 m3 e3 => ?_⟩
  have g22 : m2 82 22 = nI w.length := by rw [e2, mu_k _ _ _ (by omega)]; exact h1
  rw [g22, nI_1] at e3
  refine hK m3 ⟨by rw [e3, mu_s]; rfl, ?_, ?_, ?_⟩ (fun q a b => ?_) (fun j a => ?_)
  · rw [e3, mu_j _ _ _ (by omega), e2, mu_k _ _ _ (by omega)]; exact h2
  · rw [e3, mu_row_n _ _ _ (by omega), e2, mu_row_s]
    show Sk _ (sg s :: w.map sg)
    have z := Sk.push (v := sg s) h3
    rw [List.length_map] at z
    exact z
  · rw [e3, mu_row_n _ _ _ (by omega), e2, mu_row_n _ _ _ (by omega)]; exact h4
  · rw [e3, mu_row_n _ _ _ a, e2, mu_row_n _ _ _ b]
  · rw [e3, mu_j _ _ _ a, e2, mu_k _ _ _ (by omega)]
theorem sg_n0 : ∀ s, s < 10 → s ≠ 0 → ¬ sg s = 0 := by decide +kernel
set_option maxHeartbeats 4000000 in
theorem l9_main {T : Nat → Nat} {n key : Nat} {m0 : Mm} {R : Res} {K : Bool → Mm → Prop} (hk : key < 3) (hT : TpR T n m0) (hKf : ∀ (m : Mm) (f : Nat), R = .inl f → m 82 11 = nI f → FrR m0 m → K false m) (hKo : ∀ (m : Mm) (e : Nat) (w : List Nat) (rc : List Int32) (a : Nat), R = .inr (w, rc, a) → e ≤ n → PIv (nfK key) e false w rc a → c11 w = 0 → m 82 15 = nI key → m 82 20 = nI a → RSk [] (pbC 1 w rc) m → FrR m0 m → K true m) : ∀ (k e ps : Nat) (wt : Bool) (w : List Nat) (rc : List Int32) (a : Nat) (m : Mm), e ≤ n → 100 ≤ e + k → RWd T n e ps m → RSt key w rc a m → PIv (nfK key) e wt w rc a → FrR m0 m → prs T n key k e (wrd ps) wt w rc a = R → L_X9_takesE_28 K k (nI (c11 w)) (nI (c10 w)) (bZ wt) m := by
  have hn := hT.2.1
  intro k
  induction k with
  | zero => intro e ps wt w rc a m h1 h2; omega
  | succ k ih =>
    intro e ps wt w rc a m he h2 hW hS hP hF hR
    have hTm : TpR T n m := hT.mv (hF.2 9 (by omega)) (hF.1 89 (by omega) (by omega) (by omega) (by omega))
    have hfl := wFm_le (T := T) he
    have hsl := srt_le T n (wFm T n e)
    obtain ⟨w10, w11, wk0, wk1, wk2, wk3, wla⟩ := hW
    obtain ⟨s15, s20, sk, sts⟩ := hS
    obtain ⟨po, pl, pa, p11, p10, pC, pD⟩ := id hP
    have bad : ∀ m3 : Mm, FrR m m3 → m3 82 11 = m 82 11 → R = .inl (wFm T n e) → K false m3 := fun m3 q1 q2 q3 => hKf m3 _ q3 (by rw [q2]; exact w11) (hF.tr q1)
    have hfn : srt T n (wFm T n e) ≠ 0 → wFm T n e < n := fun c0 => by
      have : ¬ n ≤ wFm T n e := fun z => c0 (srt_0.mpr z)
      omega
    have htl : srt T n (wFm T n e) ≠ 0 → wFm T n e + 1 ≤ wTo T n (wFm T n e) ∧ wTo T n (wFm T n e) ≤ n := fun c0 => wTo_le (hfn c0)
    have go : ∀ (m3 : Mm) (w3 : List Nat) (rc3 : List Int32) (a3 : Nat) (G : Mm → Prop), srt T n (wFm T n e) ≠ 0 → m3 82 10 = m 82 10 → m3 82 14 = m 82 14 → RSt key w3 rc3 a3 m3 → FrR m m3 → (∀ m4 : Mm, RWd T n (wTo T n (wFm T n e)) (srt T n (wFm T n e)) m4 → RSt key w3 rc3 a3 m4 → FrR m m4 → G m4) → W_X9_go m3 G := by
      intro m3 w3 rc3 a3 G c0 q1 q2 q3 q4 hG
      have q5 := htl c0
      refine s9_go (T := T) (n := n) (e := wTo T n (wFm T n e)) (ps := srt T n (wFm T n e)) (hTm.mv (q4.2 9 (by omega)) (q4.1 89 (by omega) (by omega) (by omega) (by omega))) q5.2 (by rw [q1]; exact w10) (by rw [q2]; exact wla c0) (fun m4 b1 b2 b3 => hG m4 b3 ?_ (q4.tr ⟨fun q n1 _ _ _ => b1 q n1, fun j hj => b2 j (by omega)⟩))
      obtain ⟨x15, x20, ⟨x1, x2, x3, x4⟩, xts⟩ := q3
      refine ⟨by rw [b2 15 (by omega)]; exact x15, by rw [b2 20 (by omega)]; exact x20, ⟨by rw [b2 22 (by omega)]; exact x1, by rw [b2 19 (by omega)]; exact x2, by rw [b1 93 (by omega)]; exact x3, by rw [b1 92 (by omega)]; exact x4⟩, by rw [b1 94 (by omega)]; exact xts⟩
    have rec9 : ∀ (m4 : Mm) (wt3 : Bool) (w3 : List Nat) (rc3 : List Int32) (a3 : Nat), srt T n (wFm T n e) ≠ 0 → RWd T n (wTo T n (wFm T n e)) (srt T n (wFm T n e)) m4 → RSt key w3 rc3 a3 m4 → PIv (nfK key) (wTo T n (wFm T n e)) wt3 w3 rc3 a3 → FrR m m4 → prs T n key k (wTo T n (wFm T n e)) (wrd (srt T n (wFm T n e))) wt3 w3 rc3 a3 = R → L_X9_takesE_28 K k (nI (c11 w3)) (nI (c10 w3)) (bZ wt3) m4 := by
      intro m4 wt3 w3 rc3 a3 c0 q1 q2 q3 q4 q5
      have q6 := htl c0
      exact ih (wTo T n (wFm T n e)) (srt T n (wFm T n e)) wt3 w3 rc3 a3 m4 q6.2 (by omega) q1 q2 q3 (hF.tr q4) q5
    unfold L_X9_takesE_28
    cases wt with
    | true =>
      have po7 : okw 7 w := po
      first | refine cf1 (by decide) ?_ | refine cf2 (by decide) ?_
      unfold B_X9_takesE_39
      first | refine cf1 (by decide) ?_ | refine cf2 (by decide) ?_
      have part : ¬ (srt T n (wFm T n e) = 3 ∧ T (wFm T n e) = 40 ∧ c11 w < 8) → ¬ (srt T n (wFm T n e) = 3 ∧ T (wFm T n e) = 33 ∧ c10 w < 8) → W_X9_takesPart m (fun v_159 m_159 => ((bZ v_159) = 0 → (K false m_159)) ∧ (¬ (bZ v_159) = 0 → (W_X9_notsOpen m_159 (fun v_173 m_173 => L_X9_takesE_28 K k (nI (c11 w)) v_173 0 m_173)))) := by
        intro no1 no2
        have FR : FrR m m := ⟨fun _ _ _ _ _ => rfl, fun _ _ => rfl⟩
        have none : ¬ m 82 12 = 1 → ¬ m 82 12 = 2 → R = .inl (wFm T n e) → W_X9_takesPart m (fun v_159 m_159 => ((bZ v_159) = 0 → (K false m_159)) ∧ (¬ (bZ v_159) = 0 → (W_X9_notsOpen m_159 (fun v_173 m_173 => L_X9_takesE_28 K k (nI (c11 w)) v_173 0 m_173)))) := by
          intro x1 x2 x3
          unfold W_X9_takesPart
          first | refine cf1 x1 ?_ | refine cf2 x1 ?_
          first | refine cf1 x2 ?_ | refine cf2 x2 ?_
          first | refine zf1 ?_ | refine zf2 ?_
          exact bad m FR rfl x3
        -- a part is taken
        have take : ∀ q : Nat, srt T n (wFm T n e) ≠ 0 → (q < 10000 ∨ (10000 ≤ q ∧ q < 10000 + nfK key)) → prs T n key k (wTo T n (wFm T n e)) (wrd (srt T n (wFm T n e))) false (pnW w) (pnC w (nI q :: rc)) (a + 1) = R → B_X9_takesPart_87 (fun v_159 m_159 => ((bZ v_159) = 0 → (K false m_159)) ∧ (¬ (bZ v_159) = 0 → (W_X9_notsOpen m_159 (fun v_173 m_173 => L_X9_takesE_28 K k (nI (c11 w)) v_173 0 m_173)))) (nI q) (m 82 19) m := by
          intro q c0 hq hpr
          have htl9 := htl c0
          unfold B_X9_takesPart_87
          refine ⟨rc.length, sk.2.1, by omega, fun m1 e1 m2 e2 m3 e3 => ?_⟩
          have g19 : m1 82 19 = nI rc.length := by rw [e1, mu_k _ _ _ (by omega)]; exact sk.2.1
          rw [g19, nI_1] at e2
          have g20 : m2 82 20 = nI a := by rw [e2, mu_j _ _ _ (by omega), e1, mu_k _ _ _ (by omega)]; exact s20
          rw [g20, nI_1] at e3
          have F3 : FrR m m3 := (FrR.f e1 (by omega)).tr ((FrR.f e2 (by omega)).tr (FrR.f e3 (by omega)))
          have gj : ∀ j, j ≠ 19 → j ≠ 20 → m3 82 j = m 82 j := fun j n1 n2 => by rw [e3, mu_j _ _ _ n2, e2, mu_j _ _ _ n1, e1, mu_k _ _ _ (by omega)]
          have k3 : RSk w (nI q :: rc) m3 := by
            refine ⟨by rw [gj 22 (by omega) (by omega)]; exact sk.1, ?_, ?_, ?_⟩
            · rw [e3, mu_j _ _ _ (by omega), e2, mu_s]; rfl
            · rw [e3, mu_row_n _ _ _ (by omega), e2, mu_row_n _ _ _ (by omega), e1, mu_row_n _ _ _ (by omega)]; exact sk.2.2.1
            · rw [e3, mu_row_n _ _ _ (by omega), e2, mu_row_n _ _ _ (by omega), e1, mu_row_s]; exact Sk.push sk.2.2.2
          have hA := hP.atom (t := wTo T n (wFm T n e)) (by omega) hq
          refine s9_settle6 po7 k3 (by rw [List.length_cons]; omega) (fun m4 b1 b2 => ?_)
          obtain ⟨t1, t2, t3⟩ := pn_ts w
          refine go m4 (pnW w) (pnC w (nI q :: rc)) (a + 1) _ c0 ?_ ?_ ⟨?_, ?_, b1, ?_⟩ (F3.tr b2.fr) (fun m5 d1 d2 d3 => ?_)
          · rw [b2.2 10 (by omega) (by omega)]; exact gj 10 (by omega) (by omega)
          · rw [b2.2 14 (by omega) (by omega)]; exact gj 14 (by omega) (by omega)
          · rw [b2.2 15 (by omega) (by omega), gj 15 (by omega) (by omega)]; exact s15
          · rw [b2.2 20 (by omega) (by omega), e3, mu_s]
          · rw [b2.1 94 (by omega) (by omega), e3, mu_row_n _ _ _ (by omega), e2, mu_row_n _ _ _ (by omega), e1, mu_row_n _ _ _ (by omega)]
            exact sts.of t1 t2 t3
          · first | refine zt1 ?_ | refine zt2 ?_
            refine s9_nots (b := 6) d2.2.2.1 hA.1 (by have := hA.2.1; omega) ?_
            have z := rec9 m5 false (pnW w) (pnC w (nI q :: rc)) (a + 1) c0 d1 d2 hA d3 hpr
            rw [t1] at z
            exact z
        by_cases c0 : srt T n (wFm T n e) = 0
        · exact none (by rw [wk0 c0]; decide) (by rw [wk0 c0]; decide) (by rw [← hR, prs, if_pos c0, if_pos rfl])
        · have htl9 := htl c0
          by_cases cg : glu T n e ps
          · have k4 : m 82 12 = 4 := by
              have := cg.2.1
              have e4 : srt T n (wFm T n e) = 1 ∨ srt T n (wFm T n e) = 2 := by omega
              rcases e4 with q | q
              · exact (wk1 q).1 cg
              · exact (wk2 q).1 cg
            exact none (by rw [k4]; decide) (by rw [k4]; decide) (by rw [← hR, prs, if_neg c0, if_pos (show wrd ps = true ∧ srt T n (wFm T n e) ≤ 2 ∧ wFm T n e = e from cg)])
          · obtain ⟨r1, r2, r3, r4, r5, r6, r7, r8⟩ := prs_at (key := key) (k := k) (a := a) (w := w) (rc := rc) c0 cg
            have es : srt T n (wFm T n e) = 1 ∨ srt T n (wFm T n e) = 2 ∨ srt T n (wFm T n e) = 3 := by omega
            rcases es with s1 | s1 | s1
            · obtain ⟨_, k12, k13⟩ := wk1 s1
              have k12 := k12 cg
              have hlet := srt_1.mp s1
              unfold W_X9_takesPart
              rw [k12, w10, w11, pk_sub (by omega), k13]
              first | refine ct1 (by decide) ?_ | refine ct2 (by decide) ?_
              by_cases c1 : wTo T n (wFm T n e) = wFm T n e + 1
              · rw [show wTo T n (wFm T n e) - wFm T n e = 1 by omega]
                first | refine ct1 (by decide) ?_ | refine ct2 (by decide) ?_
                refine s9_name hk (by omega) s15 ?_
                by_cases c2 : nmK key (T (wFm T n e)) = 9
                · rw [if_pos c2]
                  first | refine ct1 (by decide) ?_ | refine ct2 (by decide) ?_
                  first | refine cf1 (by rw [k12]; decide) ?_ | refine cf2 (by rw [k12]; decide) ?_
                  first | refine zf1 ?_ | refine zf2 ?_
                  refine bad m FR rfl (hR.symm.trans (r5 (fun z => ?_) (fun z => ?_) no1 no2))
                  · have := z.2.2; omega
                  · have := z.1; omega
                · have c3 : nmK key (T (wFm T n e)) < 9 := by
                    have := nmK_f key (T (wFm T n e))
                    have := nfK_le key
                    omega
                  rw [if_neg c2]
                  first | refine cf1 (nI_pos (by omega)) ?_ | refine cf2 (nI_pos (by omega)) ?_
                  first | refine cf1 (by rw [k12]; decide) ?_ | refine cf2 (by rw [k12]; decide) ?_
                  unfold B_X9_takesPart_52
                  first | refine cf1 (by rw [k12]; decide) ?_ | refine cf2 (by rw [k12]; decide) ?_
                  rw [k13]
                  refine s9_name hk (by omega) s15 ?_
                  rw [if_neg c2, show (10000 : Int32) = nI 10000 from rfl, nI_add]
                  refine take _ c0 (Or.inr ⟨by omega, ?_⟩) ?_
                  · have := nmK_f key (T (wFm T n e)); omega
                  · rw [s1]
                    exact (r1 s1 c1 c3).symm.trans hR
              · first | refine cf1 (fun z => c1 (by have := (nI_eq (b := 1) (show wTo T n (wFm T n e) - wFm T n e < 2 ^ 31 by omega) (by omega)).mp z; omega)) ?_ | refine cf2 (fun z => c1 (by have := (nI_eq (b := 1) (show wTo T n (wFm T n e) - wFm T n e < 2 ^ 31 by omega) (by omega)).mp z; omega)) ?_
                first | refine cf1 (by decide) ?_ | refine cf2 (by decide) ?_
                first | refine zf1 ?_ | refine zf2 ?_
                refine bad m FR rfl (hR.symm.trans (r5 (fun z => c1 z.2.1) (fun z => ?_) no1 no2))
                have := z.1; omega
            · by_cases c1 : wTo T n (wFm T n e) ≤ wFm T n e + 4
              · obtain ⟨k12, k13⟩ := (wk2 s1).2.1 cg c1
                unfold W_X9_takesPart
                first | refine cf1 (by rw [k12]; decide) ?_ | refine cf2 (by rw [k12]; decide) ?_
                first | refine ct1 k12 ?_ | refine ct2 k12 ?_
                unfold B_X9_takesPart_52
                first | refine ct1 k12 ?_ | refine ct2 k12 ?_
                rw [k13]
                refine take _ c0 (Or.inl (atomN s1 c1 (by omega))) ?_
                rw [s1]
                exact (r2 s1 c1).symm.trans hR
              · have k12 := (wk2 s1).2.2 c1
                refine none (by rw [k12]; decide) (by rw [k12]; decide) (hR.symm.trans (r5 (fun z => ?_) (fun z => c1 z.2) no1 no2))
                have := z.1; omega
            · have k12 := (wk3 s1).1
              refine none (by rw [k12]; decide) (by rw [k12]; decide) (hR.symm.trans (r5 (fun z => ?_) (fun z => ?_) no1 no2))
              · have := z.1; omega
              · have := z.1; omega
      have k3n : ¬ srt T n (wFm T n e) = 3 → ¬ m 82 12 = 3 := by
        intro c3
        have es : srt T n (wFm T n e) = 0 ∨ srt T n (wFm T n e) = 1 ∨ srt T n (wFm T n e) = 2 := by omega
        rcases es with q | q | q
        · rw [wk0 q]; decide
        · by_cases cg : glu T n e ps
          · rw [(wk1 q).1 cg]; decide
          · rw [(wk1 q).2.1 cg]; decide
        · by_cases c1 : wTo T n (wFm T n e) ≤ wFm T n e + 4
          · by_cases cg : glu T n e ps
            · rw [(wk2 q).1 cg]; decide
            · rw [((wk2 q).2.1 cg c1).1]; decide
          · rw [(wk2 q).2.2 c1]; decide
      by_cases c3 : srt T n (wFm T n e) = 3
      · obtain ⟨k12, k13⟩ := wk3 c3
        have c0 : srt T n (wFm T n e) ≠ 0 := by omega
        have cg : ¬ glu T n e ps := fun z => by have := z.2.1; omega
        have hfn9 := hfn c0
        have htl9 := htl c0
        have hb := (hTm.2.2 (wFm T n e) (by omega)).1
        obtain ⟨r1, r2, r3, r4, r5, r6, r7, r8⟩ := prs_at (key := key) (k := k) (a := a) (w := w) (rc := rc) c0 cg
        have b97 : ¬ (srt T n (wFm T n e) = 3 ∧ T (wFm T n e) = 33 ∧ c10 w < 8) → B_X9_takesE_97 (fun zl1 zl2 zl3 zm => L_X9_takesE_28 K k zl1 zl2 zl3 zm) K (nI (c11 w)) (bZ true) m := by
          intro no2
          unfold B_X9_takesE_97
          first | refine ct1 k12 ?_ | refine ct2 k12 ?_
          rw [k13]
          by_cases d1 : T (wFm T n e) = 40
          · first | refine ct1 (by rw [d1]; rfl) ?_ | refine ct2 (by rw [d1]; rfl) ?_
            by_cases d2 : c11 w < 8
            · first | refine cf1 (nI_ge (b := 8) d2 (by omega)) ?_ | refine cf2 (nI_ge (b := 8) d2 (by omega)) ?_
              refine s9_push (s := 11) sk (by omega) (fun m2 a1 a2 a3 => ?_)
              refine ⟨c11 w + 1, nI_1 _, by omega, fun m3 e3 => ?_⟩
              have hO := hP.open9 (t := wTo T n (wFm T n e)) (by omega) d2
              have F3 : FrR m m3 := FrR.tr ⟨fun q n1 _ n3 _ => a2 q n1 n3, fun j hj => a3 j (by omega)⟩ (FrR.f e3 (by omega))
              have gj : ∀ j, j ≠ 22 → m3 82 j = m 82 j := fun j nj => by rw [e3, mu_k _ _ _ (by omega)]; exact a3 j nj
              refine go m3 (11 :: w) rc a _ c0 (gj 10 (by omega)) (gj 14 (by omega)) ⟨by rw [gj 15 (by omega)]; exact s15, by rw [gj 20 (by omega)]; exact s20, ⟨by rw [e3, mu_k _ _ _ (by omega)]; exact a1.1, by rw [e3, mu_k _ _ _ (by omega)]; exact a1.2.1, by rw [e3, mu_row_n _ _ _ (by omega)]; exact a1.2.2.1, by rw [e3, mu_row_n _ _ _ (by omega)]; exact a1.2.2.2⟩, ?_⟩ F3 (fun m5 b1 b2 b3 => ?_)
              · rw [e3, mu_row_s, a2 94 (by omega) (by omega)]
                exact sts.opn
              · refine s9_nots (b := 7) b2.2.2.1 hO.1 (by have := hO.2.1; omega) ?_
                have z := rec9 m5 true (11 :: w) rc a c0 b1 b2 hO b3 (by rw [c3]; exact (r3 c3 d1 d2).symm.trans hR)
                rw [nI_1]
                exact z
            · first | refine ct1 (nI_le (a := 8) (b := c11 w) (by omega) (by omega)) ?_ | refine ct2 (nI_le (a := 8) (b := c11 w) (by omega) (by omega)) ?_
              exact part (fun z => d2 z.2.2) no2
          · first | refine cf1 (fun z => d1 ((nI_eq (b := 40) (show T (wFm T n e) < 2 ^ 31 by omega) (by omega)).mp z)) ?_ | refine cf2 (fun z => d1 ((nI_eq (b := 40) (show T (wFm T n e) < 2 ^ 31 by omega) (by omega)).mp z)) ?_
            exact part (fun z => d1 z.2.1) no2
        first | refine ct1 k12 ?_ | refine ct2 k12 ?_
        rw [k13]
        by_cases d1 : T (wFm T n e) = 33
        · first | refine ct1 (by rw [d1]; rfl) ?_ | refine ct2 (by rw [d1]; rfl) ?_
          by_cases d2 : c10 w < 8
          · first | refine cf1 (nI_ge (b := 8) d2 (by omega)) ?_ | refine cf2 (nI_ge (b := 8) d2 (by omega)) ?_
            refine s9_push (s := 10) sk (by omega) (fun m2 a1 a2 a3 => ?_)
            have hO := hP.not9 (t := wTo T n (wFm T n e)) (by omega) d2
            refine go m2 (10 :: w) rc a _ c0 (a3 10 (by omega)) (a3 14 (by omega)) ⟨by rw [a3 15 (by omega)]; exact s15, by rw [a3 20 (by omega)]; exact s20, a1, ?_⟩ ⟨fun q n1 _ n3 _ => a2 q n1 n3, fun j hj => a3 j (by omega)⟩ (fun m5 b1 b2 b3 => ?_)
            · rw [a2 94 (by omega) (by omega)]
              exact sts.of rfl rfl rfl
            · refine s9_nots (b := 7) b2.2.2.1 hO.1 (by have := hO.2.1; omega) ?_
              exact rec9 m5 true (10 :: w) rc a c0 b1 b2 hO b3 (by rw [c3]; exact (r4 c3 d1 d2).symm.trans hR)
          · first | refine ct1 (nI_le (a := 8) (b := c10 w) (by omega) (by omega)) ?_ | refine ct2 (nI_le (a := 8) (b := c10 w) (by omega) (by omega)) ?_
            exact b97 (fun z => d2 z.2.2)
        · first | refine cf1 (fun z => d1 ((nI_eq (b := 33) (show T (wFm T n e) < 2 ^ 31 by omega) (by omega)).mp z)) ?_ | refine cf2 (fun z => d1 ((nI_eq (b := 33) (show T (wFm T n e) < 2 ^ 31 by omega) (by omega)).mp z)) ?_
          exact b97 (fun z => d1 z.2.1)
      · first | refine cf1 (k3n c3) ?_ | refine cf2 (k3n c3) ?_
        unfold B_X9_takesE_97
        first | refine cf1 (k3n c3) ?_ | refine cf2 (k3n c3) ?_
        exact part (fun z => c3 z.1) (fun z => c3 z.1)
    | false =>
      have po6 : okw 6 w := po
      first | refine ct1 (by decide) ?_ | refine ct2 (by decide) ?_
      by_cases c0 : srt T n (wFm T n e) = 0
      · first | refine ct1 (wk0 c0) ?_ | refine ct2 (wk0 c0) ?_
        refine s9_settle (p := 0) (by omega) po6 (Nat.le_refl _) sk (by omega) (fun m2 a1 a2 => ?_)
        rw [(pb_01 w rc).1, (pb_01 w rc).2] at a1
        by_cases c1 : c11 w = 0
        · rw [c1]
          first | refine ct1 (by decide) ?_ | refine ct2 (by decide) ?_
          rw [pb_nil w 6 po6 (Nat.le_refl _) c1] at a1
          exact hKo m2 e w rc a (by rw [← hR, prs, if_pos c0, if_neg (by decide), if_pos c1]) he hP c1 (by rw [a2.2 15 (by omega) (by omega)]; exact s15) (by rw [a2.2 20 (by omega) (by omega)]; exact s20) a1 (hF.tr a2.fr)
        · first | refine cf1 (nI_ne0 (by omega) (by omega)) ?_ | refine cf2 (nI_ne0 (by omega) (by omega)) ?_
          exact bad m2 a2.fr (a2.2 11 (by omega) (by omega)) (by rw [← hR, prs, if_pos c0, if_neg (by decide), if_neg c1])
      · have hfn9 := hfn c0
        have htl9 := htl c0
        have hb := (hTm.2.2 (wFm T n e) (by omega)).1
        have FR : FrR m m := ⟨fun _ _ _ _ _ => rfl, fun _ _ => rfl⟩
        by_cases c3 : srt T n (wFm T n e) = 3
        · obtain ⟨k12, k13⟩ := wk3 c3
          have cg : ¬ glu T n e ps := fun z => by have := z.2.1; omega
          obtain ⟨r1, r2, r3, r4, r5, r6, r7, r8⟩ := prs_at (key := key) (k := k) (a := a) (w := w) (rc := rc) c0 cg
          first | refine cf1 (by rw [k12]; decide) ?_ | refine cf2 (by rw [k12]; decide) ?_
          unfold B_X9_takesE_39
          first | refine ct1 (by decide) ?_ | refine ct2 (by decide) ?_
          have b237 : ¬ (T (wFm T n e) = 41 ∧ 0 < c11 w) → B_X9_takesE_237 (fun zl1 zl2 zl3 zm => L_X9_takesE_28 K k zl1 zl2 zl3 zm) K (nI (c11 w)) (nI (c10 w)) m := by
            intro no
            unfold B_X9_takesE_237
            refine s9_sign hb k12 k13 ?_
            by_cases d0 : sgB (T (wFm T n e)) = 0
            · rw [d0]
              first | refine ct1 (by decide) ?_ | refine ct2 (by decide) ?_
              exact bad m FR rfl (hR.symm.trans (r8 no (fun z => z.1 d0)))
            · have hs9 := sgn_le (T (wFm T n e))
              have hr := rk_b hs9
              first | refine cf1 (sg_n0 _ (by omega) d0) ?_ | refine cf2 (sg_n0 _ (by omega) d0) ?_
              have hJ := hP.join (t := wTo T n (wFm T n e)) (by omega) d0 hs9
              have b305 : ∀ v : Int32, (v = 0 ∨ v = 1) → (v ≠ 0 ↔ tst (sgB (T (wFm T n e)) :: pbW (rk (sgB (T (wFm T n e)))) w) = true) → ¬ (rk (sgB (T (wFm T n e))) = 3 ∧ tst w = true) → B_X9_takesE_305 (fun zl1 zl2 zl3 zm => L_X9_takesE_28 K k zl1 zl2 zl3 zm) K (nI (c11 w)) (nI (c10 w)) (sg (sgB (T (wFm T n e)))) v (nI (c11 w)) m := by
                intro v hv hvt no2
                unfold B_X9_takesE_305
                refine ⟨hv, c11 w, rfl, by omega, fun m1 e1 => ?_⟩
                refine s9_rank (by omega) (by omega) ?_
                have k1 : RSk w rc m1 := ⟨by rw [e1, mu_k _ _ _ (by omega)]; exact sk.1, by rw [e1, mu_k _ _ _ (by omega)]; exact sk.2.1, by rw [e1, mu_row_n _ _ _ (by omega)]; exact sk.2.2.1, by rw [e1, mu_row_n _ _ _ (by omega)]; exact sk.2.2.2⟩
                refine s9_settle hr.2 po6 (Nat.le_refl _) k1 (by omega) (fun m2 a1 a2 => ?_)
                have y := pb_all (rk (sgB (T (wFm T n e)))) hr.1 w rc 6 a (nfK key) po6 (Nat.le_refl _) pC
                have hpl := y.2.2.2.2.2.2
                refine s9_push (s := sgB (T (wFm T n e))) a1 (by omega) (fun m3 b1 b2 b3 => ?_)
                have F3 : FrR m m3 := ((FrR.f e1 (by omega)).tr a2.fr).tr ⟨fun q n1 _ n3 _ => b2 q n1 n3, fun j hj => b3 j (by omega)⟩
                have gj : ∀ j, j ≠ 19 → j ≠ 22 → m3 82 j = m 82 j := fun j n1 n2 => by rw [b3 j n2, a2.2 j n1 n2, e1, mu_k _ _ _ (by omega)]
                have q1 : c11 (sgB (T (wFm T n e)) :: pbW (rk (sgB (T (wFm T n e)))) w) = c11 w := by show (if _ then _ else _) = _; rw [if_neg (by omega)]; exact y.2.2.1
                have q2 : c10 (sgB (T (wFm T n e)) :: pbW (rk (sgB (T (wFm T n e)))) w) = c10 w := by show (if _ then _ else _) = _; rw [if_neg (by omega)]; exact y.2.2.2.1
                refine go m3 _ _ a _ c0 (gj 10 (by omega) (by omega)) (gj 14 (by omega) (by omega)) ⟨by rw [gj 15 (by omega) (by omega)]; exact s15, by rw [gj 20 (by omega) (by omega)]; exact s20, b1, ?_⟩ F3 (fun m5 d1 d2 d3 => ?_)
                · rw [b2 94 (by omega) (by omega), a2.1 94 (by omega) (by omega), e1, mu_row_s]
                  refine sts.set q1 hvt ?_
                  show (if _ then _ else _) = _
                  rw [if_neg (by omega)]
                  exact pb_aft _ w
                · have z := rec9 m5 true _ _ a c0 d1 d2 hJ d3 (by rw [c3]; exact (r7 d0 no2).symm.trans hR)
                  rw [q1, q2] at z
                  exact z
              have h94 : m 94 (c11 w) ≠ 0 ↔ tst w = true := by
                have z := sts 0 (Nat.zero_le _)
                rw [Nat.sub_zero] at z
                exact z
              have b268 : ¬ (rk (sgB (T (wFm T n e))) = 3 ∧ tst w = true) → B_X9_takesE_268 (fun zl1 zl2 zl3 zm => L_X9_takesE_28 K k zl1 zl2 zl3 zm) K (nI (c11 w)) (nI (c10 w)) (sg (sgB (T (wFm T n e)))) m := by
                intro no2
                unfold B_X9_takesE_268
                refine s9_rank (by omega) (by omega) ?_
                by_cases x3 : rk (sgB (T (wFm T n e))) = 3
                · first | refine ct1 (by rw [x3]; rfl) ?_ | refine ct2 (by rw [x3]; rfl) ?_
                  refine b305 1 (Or.inr rfl) ?_ no2
                  rw [tst_cons hs9, if_pos x3]
                  exact ⟨fun _ => rfl, fun _ => by decide⟩
                · first | refine cf1 (fun z => x3 ((nI_eq (b := 3) (show rk (sgB (T (wFm T n e))) < 2 ^ 31 by omega) (by omega)).mp z)) ?_ | refine cf2 (fun z => x3 ((nI_eq (b := 3) (show rk (sgB (T (wFm T n e))) < 2 ^ 31 by omega) (by omega)).mp z)) ?_
                  refine s9_rank (by omega) (by omega) ?_
                  by_cases x4 : rk (sgB (T (wFm T n e))) ≤ 3
                  · first | refine ct1 (nI_le (b := 3) x4 (by omega)) ?_ | refine ct2 (nI_le (b := 3) x4 (by omega)) ?_
                    refine b305 0 (Or.inl rfl) ?_ no2
                    rw [tst_cons hs9, if_neg x3]
                    refine ⟨fun z => absurd rfl z, fun z => ?_⟩
                    exfalso
                    have y := pb_all (rk (sgB (T (wFm T n e)))) hr.1 w rc 6 a (nfK key) po6 (Nat.le_refl _) pC
                    exact tst_lo _ _ y.1 (by omega) z
                  · first | refine cf1 (nI_ge (a := 3) (by omega) (by omega)) ?_ | refine cf2 (nI_ge (a := 3) (by omega) (by omega)) ?_
                    refine ⟨c11 w, rfl, by omega, ?_⟩
                    have e9 : tst (sgB (T (wFm T n e)) :: pbW (rk (sgB (T (wFm T n e)))) w) = tst w := by
                      rw [tst_cons hs9, if_neg x3]
                      exact pb_t4 (by omega) w
                    by_cases x5 : m 94 (c11 w) = 0
                    · first | refine ct1 x5 ?_ | refine ct2 x5 ?_
                      refine b305 0 (Or.inl rfl) ?_ no2
                      rw [e9]
                      exact ⟨fun z => absurd rfl z, fun z => absurd x5 (h94.mpr z)⟩
                    · first | refine cf1 x5 ?_ | refine cf2 x5 ?_
                      refine b305 1 (Or.inr rfl) ?_ no2
                      rw [e9]
                      exact ⟨fun _ => h94.mp x5, fun _ => by decide⟩
              refine s9_rank (by omega) (by omega) ?_
              by_cases x3 : rk (sgB (T (wFm T n e))) = 3
              · first | refine ct1 (by rw [x3]; rfl) ?_ | refine ct2 (by rw [x3]; rfl) ?_
                refine ⟨c11 w, rfl, by omega, ?_⟩
                by_cases x5 : m 94 (c11 w) = 0
                · first | refine ct1 x5 ?_ | refine ct2 x5 ?_
                  exact b268 (fun z => absurd x5 (h94.mpr z.2))
                · first | refine cf1 x5 ?_ | refine cf2 x5 ?_
                  exact bad m FR rfl (hR.symm.trans (r8 no (fun z => z.2 ⟨x3, h94.mp x5⟩)))
              · first | refine cf1 (fun z => x3 ((nI_eq (b := 3) (show rk (sgB (T (wFm T n e))) < 2 ^ 31 by omega) (by omega)).mp z)) ?_ | refine cf2 (fun z => x3 ((nI_eq (b := 3) (show rk (sgB (T (wFm T n e))) < 2 ^ 31 by omega) (by omega)).mp z)) ?_
                exact b268 (fun z => x3 z.1)
          first | refine ct1 k12 ?_ | refine ct2 k12 ?_
          rw [k13]
          by_cases d1 : T (wFm T n e) = 41
          · first | refine ct1 (by rw [d1]; rfl) ?_ | refine ct2 (by rw [d1]; rfl) ?_
            by_cases d2 : 0 < c11 w
            · first | refine cf1 (nI_nle d2 (by omega)) ?_ | refine cf2 (nI_nle d2 (by omega)) ?_
              have hC := hP.close (t := wTo T n (wFm T n e)) (by omega) d2
              obtain ⟨r, y1, y2, y3, y4⟩ := pb_top w 6 po6 (Nat.le_refl _) d2
              have y := pb_all 1 (Nat.le_refl _) w rc 6 a (nfK key) po6 (Nat.le_refl _) pC
              have hpl := y.2.1
              have eaf : aft w = r := by rw [← pb_aft 1 w, y1]; rfl
              have r6b := r6 d1 d2
              rw [y1] at hC hpl r6b
              rw [List.length_cons] at hpl
              refine s9_settle (p := 0) (by omega) po6 (Nat.le_refl _) sk (by omega) (fun m2 a1 a2 => ?_)
              rw [(pb_01 w rc).1, (pb_01 w rc).2, y1] at a1
              have e22 : m2 82 22 = nI (r.length + 1) := a1.1
              rw [e22, nI_pred]
              intro m3 e3
              have gj : ∀ j, j ≠ 19 → j ≠ 22 → m3 82 j = m 82 j := fun j n1 n2 => by rw [e3, mu_j _ _ _ n2, a2.2 j n1 n2]
              have k3 : RSk r (pbC 1 w rc) m3 := ⟨by rw [e3, mu_s], by rw [e3, mu_j _ _ _ (by omega)]; exact a1.2.1, by rw [e3, mu_row_n _ _ _ (by omega)]; exact a1.2.2.1.2, by rw [e3, mu_row_n _ _ _ (by omega)]; exact a1.2.2.2⟩
              refine s9_settle6 y2 k3 (by omega) (fun m4 b1 b2 => ?_)
              obtain ⟨t1, t2, t3⟩ := pn_ts r
              have F4 : FrR m m4 := (a2.fr.tr (FrR.f e3 (by omega))).tr b2.fr
              refine s9_nots (b := 6) b1 hC.1 (by have := hC.2.1; have e7 : (pnW (11 :: r).tail).length = (pnW r).length := rfl; omega) ?_
              refine go m4 (pnW r) (pnC r (pbC 1 w rc)) a _ c0 ?_ ?_ ⟨?_, ?_, b1, ?_⟩ F4 (fun m5 d3 d4 d5 => ?_)
              · rw [b2.2 10 (by omega) (by omega)]; exact gj 10 (by omega) (by omega)
              · rw [b2.2 14 (by omega) (by omega)]; exact gj 14 (by omega) (by omega)
              · rw [b2.2 15 (by omega) (by omega), gj 15 (by omega) (by omega)]; exact s15
              · rw [b2.2 20 (by omega) (by omega), gj 20 (by omega) (by omega)]; exact s20
              · rw [b2.1 94 (by omega) (by omega), e3, mu_row_n _ _ _ (by omega), a2.1 94 (by omega) (by omega)]
                exact (sts.cls y3 eaf).of t1 t2 t3
              · have z := rec9 m5 false (pnW r) (pnC r (pbC 1 w rc)) a c0 d3 d4 hC d5 (by rw [c3]; exact r6b.symm.trans hR)
                rw [t1] at z
                rw [y3, pk_m1]
                exact z
            · first | refine ct1 (by rw [show c11 w = 0 by omega]; decide) ?_ | refine ct2 (by rw [show c11 w = 0 by omega]; decide) ?_
              exact b237 (fun z => d2 z.2)
          · first | refine cf1 (fun z => d1 ((nI_eq (b := 41) (show T (wFm T n e) < 2 ^ 31 by omega) (by omega)).mp z)) ?_ | refine cf2 (fun z => d1 ((nI_eq (b := 41) (show T (wFm T n e) < 2 ^ 31 by omega) (by omega)).mp z)) ?_
            exact b237 (fun z => d1 z.1)
        · -- a word where a sign should stand
          have k3n : ¬ m 82 12 = 3 ∧ ¬ m 82 12 = 0 := by
            have es : srt T n (wFm T n e) = 1 ∨ srt T n (wFm T n e) = 2 := by omega
            rcases es with q | q
            · by_cases cg : glu T n e ps
              · rw [(wk1 q).1 cg]; decide
              · rw [(wk1 q).2.1 cg]; decide
            · by_cases c1 : wTo T n (wFm T n e) ≤ wFm T n e + 4
              · by_cases cg : glu T n e ps
                · rw [(wk2 q).1 cg]; decide
                · rw [((wk2 q).2.1 cg c1).1]; decide
              · rw [(wk2 q).2.2 c1]; decide
          have rb : R = .inl (wFm T n e) := by
            by_cases cg : glu T n e ps
            · rw [← hR, prs, if_neg c0, if_pos (show wrd ps = true ∧ srt T n (wFm T n e) ≤ 2 ∧ wFm T n e = e from cg)]
            · obtain ⟨r1, r2, r3, r4, r5, r6, r7, r8⟩ := prs_at (key := key) (k := k) (a := a) (w := w) (rc := rc) c0 cg
              exact hR.symm.trans (r8 (fun z => c3 (s3_of hfn9 (Or.inr z.1))) (fun z => c3 (s3_of hfn9 (Or.inl z.1))))
          first | refine cf1 k3n.2 ?_ | refine cf2 k3n.2 ?_
          unfold B_X9_takesE_39
          first | refine ct1 (by decide) ?_ | refine ct2 (by decide) ?_
          first | refine cf1 k3n.1 ?_ | refine cf2 k3n.1 ?_
          unfold B_X9_takesE_237 W_X9_signHere
          first | refine cf1 k3n.1 ?_ | refine cf2 k3n.1 ?_
          first | refine ct1 (by decide) ?_ | refine ct2 (by decide) ?_
          exact bad m FR rfl rb
end
