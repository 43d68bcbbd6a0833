/-! places copied -/
def cpN (y : Nat → Int32) (x : Nat → Int32) (p q : Nat) : Nat → (Nat → Int32)
  | 0 => x
  | k + 1 => upd (cpN y x p q k) (q + k) (y (p + k))
theorem cpN_v (y x : Nat → Int32) (p q n j : Nat) : cpN y x p q n j = if q ≤ j ∧ j < q + n then y (p + (j - q)) else x j := by
  induction n with
  | zero => rw [if_neg (by omega)]; rfl
  | succ n ih =>
    show upd (cpN y x p q n) (q + n) (y (p + n)) j = _
    by_cases c1 : j = q + n
    · rw [c1, pk_us, if_pos (by omega)]
      exact congrArg y (by omega)
    · rw [pk_un c1, ih]
      by_cases c2 : q ≤ j ∧ j < q + n
      · rw [if_pos c2, if_pos (by omega)]
      · rw [if_neg c2, if_neg (by omega)]
theorem ix_243 (s p k : Nat) : (24 * nI s + nI p) + nI k = nI (24 * s + p + k) := by rw [ix_24, nI_add]
theorem l_copy1 {f pl t at9 n : Nat} {p0 p1 p2 p3 p4 : Int32} {m0 : Mm} {K : Int32 → Mm → Prop} (hf : f < 4) (ht : t < 4) (hn : pl + n ≤ 24) (hn2 : at9 + n ≤ 24) (hK : ∀ m, (∀ q, q ≠ 104 → m q = m0 q) → (∀ k, k < n → m 104 k = m0 99 (24 * f + pl + k)) → ∃ nz : Nat, L_X9_copy_141 p0 p1 p2 p3 p4 K nz (nI t) (nI at9) (nI n) 0 m) : ∀ (d k : Nat) (m : Mm), k + d = n → (∀ q, q ≠ 104 → m q = m0 q) → (∀ k2, k2 < k → m 104 k2 = m0 99 (24 * f + pl + k2)) → L_X9_copy_104 p0 p1 p2 p3 p4 K (d + 1) (nI f) (nI pl) (nI t) (nI at9) (nI n) (nI k) m := by
  intro d
  induction d with
  | zero =>
    intro k m hk h1 h2
    have c0 : k = n := by omega
    subst c0
    unfold L_X9_copy_104
    exact ct1 (nI_le (Nat.le_refl _) (by omega)) (hK m h1 h2)
  | succ d ih =>
    intro k m hk h1 h2
    unfold L_X9_copy_104
    refine cf1 (nI_ge (by omega) (by omega)) ⟨24 * f + pl + k, ix_243 f pl k, by omega, k, rfl, by omega, fun m2 e2 => ?_⟩
    rw [h1 99 (by omega)] at e2
    rw [nI_1]
    refine ih (k + 1) m2 (by omega) (fun q nq => ?_) (fun k2 hk2 => ?_)
    · rw [e2, mu_row_n _ _ _ nq]; exact h1 q nq
    · rw [e2, mu_row_s]
      by_cases c1 : k2 = k
      · rw [c1, pk_us]
      · rw [pk_un c1]; exact h2 k2 (by omega)
theorem l_copy2 {t at9 n : Nat} {y : Nat → Int32} {p0 p1 p2 p3 p4 : Int32} {m0 : Mm} {K : Int32 → Mm → Prop} (ht : t < 4) (hn2 : at9 + n ≤ 24) (hy : ∀ k, k < n → m0 104 k = y k) (hK : ∀ m, (∀ q, q ≠ 99 → m q = m0 q) → m 99 = cpN y (m0 99) 0 (24 * t + at9) n → K (nI n) m) : ∀ (d k : Nat) (m : Mm), k + d = n → (∀ q, q ≠ 99 → m q = m0 q) → m 99 = cpN y (m0 99) 0 (24 * t + at9) k → L_X9_copy_141 p0 p1 p2 p3 p4 K (d + 1) (nI t) (nI at9) (nI n) (nI k) m := by
  intro d
  induction d with
  | zero =>
    intro k m hk h1 h2
    have c0 : k = n := by omega
    subst c0
    unfold L_X9_copy_141
    exact ct1 (nI_le (Nat.le_refl _) (by omega)) (hK m h1 h2)
  | succ d ih =>
    intro k m hk h1 h2
    unfold L_X9_copy_141
    refine cf1 (nI_ge (by omega) (by omega)) ⟨k, rfl, by omega, 24 * t + at9 + k, ix_243 t at9 k, by omega, fun m2 e2 => ?_⟩
    rw [h1 104 (by omega), hy k (by omega)] at e2
    rw [nI_1]
    refine ih (k + 1) m2 (by omega) (fun q nq => ?_) ?_
    · rw [e2, mu_row_n _ _ _ nq]; exact h1 q nq
    · rw [e2, mu_row_s, h2]
      show _ = upd (cpN y (m0 99) 0 (24 * t + at9) k) (24 * t + at9 + k) (y (0 + k))
      rw [Nat.zero_add]
theorem run_or {n : Nat} {w4 p : Int32} (hn : n ≤ 24) (h4 : ¬ w4 < 0) : (p < 0 ∨ (¬ p < 0 ∧ (nI n - p < w4) ∧ (nI n - w4 < p))) ∨ (∃ pl many : Nat, p = nI pl ∧ w4 = nI many ∧ pl + many ≤ n ∧ ¬ p < 0 ∧ ¬ (nI n - p < w4) ∧ ¬ (nI n - w4 < p)) := by
  by_cases c1 : p < 0
  · exact Or.inl (Or.inl c1)
  · obtain ⟨pl, hpl, rfl⟩ := nI_of c1
    obtain ⟨many, hmany, rfl⟩ := nI_of h4
    have t1 : (nI n - nI pl).toInt = (n : Int) - pl := by
      rw [Int32.toInt_sub, nI_toInt (by omega), nI_toInt hpl]
      exact Int.bmod_eq_of_le (by omega) (by omega)
    have t2 : (nI n - nI many).toInt = (n : Int) - many := by
      rw [Int32.toInt_sub, nI_toInt (by omega), nI_toInt hmany]
      exact Int.bmod_eq_of_le (by omega) (by omega)
    by_cases c2 : pl + many ≤ n
    · refine Or.inr ⟨pl, many, rfl, rfl, c2, c1, ?_, ?_⟩
      · rw [Int32.lt_iff_toInt_lt, t1, nI_toInt hmany]; omega
      · rw [Int32.lt_iff_toInt_lt, t2, nI_toInt hpl]; omega
    · refine Or.inl (Or.inr ⟨c1, ?_, ?_⟩)
      · rw [Int32.lt_iff_toInt_lt, t1, nI_toInt hmany]; omega
      · rw [Int32.lt_iff_toInt_lt, t2, nI_toInt hpl]; omega
theorem s_run_y {k n : Nat} {p w : Int32} {mem : Mm} {K : Bool → Mm → Prop} (esz : mem k 1 = nI n) (h1 : ¬ p < 0) (h2 : ¬ w < 0) (h3 : ¬ nI n - p < w) (h : K true mem) : W_X3_hasRun k p w mem K := by
  unfold W_X3_hasRun
  rw [esz]
  exact cf1 h1 (cf1 h2 (cf1 h3 h))
theorem s_run_n {k n : Nat} {p w : Int32} {mem : Mm} {K : Bool → Mm → Prop} (esz : mem k 1 = nI n) (hb : p < 0 ∨ w < 0 ∨ nI n - p < w) (h : K false mem) : W_X3_hasRun k p w mem K := by
  unfold W_X3_hasRun
  rw [esz]
  refine ⟨fun _ => h, fun h1 => ⟨fun _ => h, fun h2 => ?_⟩⟩
  rcases hb with y | y | y
  · exact absurd y h1
  · exact absurd y h2
  · exact ct1 y h
set_option maxHeartbeats 4000000 in
theorem ak_copy {c : Nat} (w0 w1 w2 w3 w4 : Int32) (mem : Mm) (h : Iv c mem) : W_X8_copy w0 w1 w2 w3 w4 mem (fun v m => W_X9_copy w0 w1 w2 w3 w4 m (fun v2 m2 => v = v2 ∧ Iv (c + 1) m2)) := by
  have h4 := h.2.2.2.1
  unfold W_X8_copy
  by_cases c0 : 0 ≤ w0 ∧ w0 ≤ 3
  · have c0b := c0
    obtain ⟨f, hf, rfl⟩ := Rg.of (y := 3) (n := 3) rfl c0
    obtain ⟨f1, f2, f3, ⟨nf9, hnf, enf⟩, f5⟩ := h4 f (by omega)
    refine s8_sheet_y c0b ?_
    first | refine zt1 ?_ | refine zt2 ?_
    by_cases c1 : 0 ≤ w2 ∧ w2 ≤ 3
    · have c1b := c1
      obtain ⟨t, ht, rfl⟩ := Rg.of (y := 3) (n := 3) rfl c1
      obtain ⟨t1, t2, t3, ⟨nt9, hnt, ent⟩, t5⟩ := h4 t (by omega)
      refine s8_sheet_y c1b ?_
      first | refine zt1 ?_ | refine zt2 ?_
      refine ⟨f, rfl, by omega, t, rfl, by omega, ?_⟩
      rcases srt_or f3 with ⟨d1, d2, d3⟩ | ⟨d1, d2, d3⟩
      · refine s_miss_y (f1.trans d1) ?_
        first | refine zt1 ?_ | refine zt2 ?_
        show W_X9_copy _ _ _ _ _ _ _
        unfold W_X9_copy
        refine s9_sheet_y c0b ?_
        first | refine zt1 ?_ | refine zt2 ?_
        refine s9_sheet_y c1b ?_
        first | refine zt1 ?_ | refine zt2 ?_
        refine ⟨f, rfl, by omega, ?_⟩
        first | refine ct1 d3 ?_ | refine ct2 d3 ?_
        exact ⟨rfl, h.up⟩
      · refine s_miss_n (by rw [f1]; exact d1) ?_
        first | refine zf1 ?_ | refine zf2 ?_
        rcases srt_or t3 with ⟨b1, b2, b3⟩ | ⟨b1, b2, b3⟩
        · refine s_miss_y (t1.trans b1) ?_
          first | refine zt1 ?_ | refine zt2 ?_
          show W_X9_copy _ _ _ _ _ _ _
          unfold W_X9_copy
          refine s9_sheet_y c0b ?_
          first | refine zt1 ?_ | refine zt2 ?_
          refine s9_sheet_y c1b ?_
          first | refine zt1 ?_ | refine zt2 ?_
          refine ⟨f, rfl, by omega, ?_⟩
          first | refine cf1 d3 ?_ | refine cf2 d3 ?_
          refine ⟨t, rfl, by omega, ?_⟩
          first | refine cf1 b2 ?_ | refine cf2 b2 ?_
          exact ⟨rfl, h.up⟩
        · refine s_miss_n (by rw [t1]; exact b1) ?_
          first | refine zf1 ?_ | refine zf2 ?_
          rw [f1, t1]
          by_cases e1 : mem 97 f = mem 97 t
          · first | refine ct1 e1 ?_ | refine ct2 e1 ?_
            have bad : (w1 < 0 ∨ w3 < 0 ∨ w4 < 0 ∨ nI nf9 - w4 < w1 ∨ nI nt9 - w4 < w3) → W_X9_copy (nI f) w1 (nI t) w3 w4 mem (fun v2 m2 => -1000000013 = v2 ∧ Iv (c + 1) m2) := by
              intro hb
              show W_X9_copy _ _ _ _ _ _ _
              unfold W_X9_copy
              refine s9_sheet_y c0b ?_
              first | refine zt1 ?_ | refine zt2 ?_
              refine s9_sheet_y c1b ?_
              first | refine zt1 ?_ | refine zt2 ?_
              refine ⟨f, rfl, by omega, ?_⟩
              first | refine cf1 d3 ?_ | refine cf2 d3 ?_
              refine ⟨t, rfl, by omega, ?_⟩
              first | refine ct1 b2 ?_ | refine ct2 b2 ?_
              refine ⟨f, rfl, by omega, t, rfl, by omega, ?_⟩
              first | refine ct1 e1 ?_ | refine ct2 e1 ?_
              refine ⟨fun _ => ⟨rfl, h.up⟩, fun x1 => ⟨fun _ => ⟨rfl, h.up⟩, fun x3 => ⟨fun _ => ⟨rfl, h.up⟩, fun x4 => ⟨f, rfl, by omega, ?_⟩⟩⟩⟩
              rw [enf]
              refine ⟨fun _ => ⟨rfl, h.up⟩, fun x5 => ⟨t, rfl, by omega, ?_⟩⟩
              rw [ent]
              rcases hb with y | y | y | y | y
              · exact absurd y x1
              · exact absurd y x3
              · exact absurd y x4
              · exact absurd y x5
              · first | refine cf1 (Int32.not_le.mpr y) ?_ | refine cf2 (Int32.not_le.mpr y) ?_
                exact ⟨rfl, h.up⟩
            have ezf : mem (54 + 2 * f) 1 = nI nf9 := f2.trans enf
            have ezt : mem (54 + 2 * t) 1 = nI nt9 := t2.trans ent
            by_cases x4 : w4 < 0
            · refine s_run_n ezf (Or.inr (Or.inl x4)) ?_
              first | refine zf1 ?_ | refine zf2 ?_
              exact bad (Or.inr (Or.inr (Or.inl x4)))
            · rcases run_or (p := w1) hnf x4 with (y | ⟨y1, y2, y3⟩) | ⟨pl, many, rfl, rfl, hle, y1, y2, y3⟩
              · refine s_run_n ezf (Or.inl y) ?_
                first | refine zf1 ?_ | refine zf2 ?_
                exact bad (Or.inl y)
              · refine s_run_n ezf (Or.inr (Or.inr y2)) ?_
                first | refine zf1 ?_ | refine zf2 ?_
                exact bad (Or.inr (Or.inr (Or.inr (Or.inl y3))))
              · refine s_run_y ezf y1 x4 y2 ?_
                first | refine zt1 ?_ | refine zt2 ?_
                rcases run_or (p := w3) hnt x4 with (u | ⟨u1, u2, u3⟩) | ⟨at9, many2, rfl, em, hle2, u1, u2, u3⟩
                · refine s_run_n ezt (Or.inl u) ?_
                  first | refine zf1 ?_ | refine zf2 ?_
                  exact bad (Or.inr (Or.inl u))
                · refine s_run_n ezt (Or.inr (Or.inr u2)) ?_
                  first | refine zf1 ?_ | refine zf2 ?_
                  exact bad (Or.inr (Or.inr (Or.inr (Or.inr u3))))
                · have em2 : many = many2 := by
                    have q1 : ¬ nI many < 0 := x4
                    by_cases c9 : many < 2 ^ 31
                    · by_cases c8 : many2 < 2 ^ 31
                      · exact (nI_eq c9 c8).mp em
                      · omega
                    · omega
                  subst em2
                  refine s_run_y ezt u1 x4 u2 ?_
                  first | refine zt1 ?_ | refine zt2 ?_
                  refine ⟨pl, at9, many, rfl, rfl, rfl, by omega, by omega, fun m em1 => ?_⟩
                  have q0 : ∀ q, q ≠ 54 + 2 * t + 1 → m q = mem q := fun q nq => by rw [em1, muC_n _ nq]
                  show W_X9_copy _ _ _ _ _ _ _
                  unfold W_X9_copy
                  refine s9_sheet_y c0b ?_
                  first | refine zt1 ?_ | refine zt2 ?_
                  refine s9_sheet_y c1b ?_
                  first | refine zt1 ?_ | refine zt2 ?_
                  refine ⟨f, rfl, by omega, ?_⟩
                  rw [q0 97 (by omega), q0 98 (by omega)]
                  first | refine cf1 d3 ?_ | refine cf2 d3 ?_
                  refine ⟨t, rfl, by omega, ?_⟩
                  first | refine ct1 b2 ?_ | refine ct2 b2 ?_
                  refine ⟨f, rfl, by omega, t, rfl, by omega, ?_⟩
                  first | refine ct1 e1 ?_ | refine ct2 e1 ?_
                  first | refine cf1 y1 ?_ | refine cf2 y1 ?_
                  first | refine cf1 u1 ?_ | refine cf2 u1 ?_
                  first | refine cf1 x4 ?_ | refine cf2 x4 ?_
                  refine ⟨f, rfl, by omega, ?_⟩
                  rw [enf]
                  first | refine cf1 y3 ?_ | refine cf2 y3 ?_
                  refine ⟨t, rfl, by omega, ?_⟩
                  rw [ent]
                  first | refine ct1 (Int32.not_lt.mp u3) ?_ | refine ct2 (Int32.not_lt.mp u3) ?_
                  refine ⟨many + 1, l_copy1 (by omega) (by omega) (by omega) (by omega) (fun m2 a1 a2 => ⟨many + 1, l_copy2 (y := fun k => mem 99 (24 * f + pl + k)) (by omega) (by omega) (fun k hk => ?_) (fun m3 b5 b6 => ⟨rfl, ?_⟩) many 0 m2 (by omega) (fun _ _ => rfl) rfl⟩) many 0 m (by omega) (fun _ _ => rfl) (fun k2 hk2 => by omega)⟩
                  · rw [a2 k hk, q0 99 (by omega)]
                  · refine h.sh ⟨fun q p1 p2 => ?_, fun q p1 => ?_⟩ (fun s2 hs2 => ?_)
                    · rw [b5 q (by omega), a1 q (by omega), q0 q (by omega)]
                    · unfold iSt at p1; rw [b5 q (by omega), a1 q (by omega), q0 q (by omega)]
                    · obtain ⟨g1, g2, g3, g4, g5⟩ := h4 s2 hs2
                      have e99 : m2 99 = mem 99 := by rw [a1 99 (by omega), q0 99 (by omega)]
                      rw [b5 (54 + 2 * s2) (by omega), a1 (54 + 2 * s2) (by omega), q0 (54 + 2 * s2) (by omega), b5 97 (by omega), a1 97 (by omega), q0 97 (by omega), b5 98 (by omega), a1 98 (by omega), q0 98 (by omega), b5 (54 + 2 * s2 + 1) (by omega), a1 (54 + 2 * s2 + 1) (by omega)]
                      refine ⟨g1, g2, g3, g4, fun k hk => ?_⟩
                      rw [b6, e99, cpN_v]
                      by_cases c5 : s2 = t
                      · subst c5
                        rw [em1, muC_s]
                        by_cases c6 : at9 ≤ k ∧ k < at9 + many
                        · rw [pk_cpy_in c6.1 c6.2, if_pos (by omega)]
                          have z := f5 (pl + (k - at9)) (by omega)
                          have ei : 24 * f + pl + (0 + (24 * s2 + k - (24 * s2 + at9))) = 24 * f + (pl + (k - at9)) := by omega
                          rw [ei]
                          exact z
                        · rw [pk_cpy_out (by omega), if_neg (by omega)]
                          exact g5 k hk
                      · rw [q0 _ (by omega), if_neg (by omega)]
                        exact g5 k hk
          · first | refine cf1 e1 ?_ | refine cf2 e1 ?_
            show W_X9_copy _ _ _ _ _ _ _
            unfold W_X9_copy
            refine s9_sheet_y c0b ?_
            first | refine zt1 ?_ | refine zt2 ?_
            refine s9_sheet_y c1b ?_
            first | refine zt1 ?_ | refine zt2 ?_
            refine ⟨f, rfl, by omega, ?_⟩
            first | refine cf1 d3 ?_ | refine cf2 d3 ?_
            refine ⟨t, rfl, by omega, ?_⟩
            first | refine ct1 b2 ?_ | refine ct2 b2 ?_
            refine ⟨f, rfl, by omega, t, rfl, by omega, ?_⟩
            first | refine cf1 e1 ?_ | refine cf2 e1 ?_
            exact ⟨rfl, h.up⟩
    · refine s8_sheet_n c1 ?_
      first | refine zf1 ?_ | refine zf2 ?_
      show W_X9_copy _ _ _ _ _ _ _
      unfold W_X9_copy
      refine s9_sheet_y c0b ?_
      first | refine zt1 ?_ | refine zt2 ?_
      refine s9_sheet_n c1 ?_
      first | refine zf1 ?_ | refine zf2 ?_
      exact ⟨rfl, h.up⟩
  · refine s8_sheet_n c0 ?_
    first | refine zf1 ?_ | refine zf2 ?_
    show W_X9_copy _ _ _ _ _ _ _
    unfold W_X9_copy
    refine s9_sheet_n c0 ?_
    first | refine zf1 ?_ | refine zf2 ?_
    exact ⟨rfl, h.up⟩
/-! tape and numbers that wait: cells 0 and 82 change in one place each -/
theorem TxR.f0 {P : Nat → Prop} {m m' : Mm} {x : Int32} {a : Rw} {t : Nat} (h : TxR m x a t) (hf : Fr P m m') (h0 : nTx m' = nTx m) (h6 : ∀ q, 106 ≤ q → ¬ P q) : TxR m' x a t := by
  obtain ⟨j, g1, g2, g3, g4, g5, g6, g7, g8⟩ := h
  obtain ⟨f1, f2, f3⟩ := hf.tx j h6
  exact ⟨j, g1, by rw [h0]; exact g2, by rw [h0]; exact g3, by rw [f1]; exact g4, by rw [f1]; exact g5, by rw [f2]; exact g6, fun i hi => by rw [f2]; exact g7 i hi, by rw [f3]; exact g8⟩
theorem AlA.f0 {P : Nat → Prop} {m m' : Mm} {k : Nat} {a : Rw} (h : AlA m k a) (hf : Fr P m m') (hn : nm a ≤ 9) (hk : k + 13 ≤ 106) (h0 : nTx m' = nTx m) (pk : ∀ q, k ≤ q → q < k + 13 → ¬ P q) (p6 : ∀ q, 106 ≤ q → ¬ P q) : AlA m' k a := by
  have ek := hf.c k (by omega) (pk k (by omega) (by omega))
  refine ⟨h.1.fr hf hn hk pk, ?_, by rw [ek]; exact h.2.2.1, fun t ht => ?_, fun key hkey => ?_⟩
  · unfold AlN
    rw [ek]
    exact h.2.1
  · rw [hf.c (k + 2) (by omega) (pk _ (by omega) (by omega))]
    exact (h.2.2.2.1 t ht).f0 hf h0 p6
  · rw [hf.c (k + 3) (by omega) (pk _ (by omega) (by omega))]
    exact h.2.2.2.2 key hkey
theorem Iv.ta {c : Nat} {m m' : Mm} (h : Iv c m) (hf : Fr (fun q => q = 0 ∨ q = 46 ∨ q = 47 ∨ q = 52 ∨ q = 82 ∨ q = 89 ∨ q = 105) m m') (h0 : m' 0 3 = m 0 3) (h1 : m' 0 1000 = m 0 1000) (h2 : m' 82 3 = m 82 3) (h3 : Iv3 m') (h6 : Iv6 m') : Iv (c + 1) m' := by
  obtain ⟨g1, g2, g3, g4, g5, g6, g7, g8⟩ := h
  have e0 : nTx m' = nTx m := by unfold nTx; rw [h1]
  have e83 := hf.c 83 (by omega) (by omega)
  have e84 := hf.c 84 (by omega) (by omega)
  refine ⟨⟨?_, by rw [e83]; exact g1.2⟩, ⟨by rw [e84]; exact g2.1, by rw [h0, h2]; exact g2.2.1, ?_⟩, h3, g4.fr hf (fun q a1 a2 => by omega) ⟨by omega, by omega, by omega⟩, g5.fr hf (fun q a1 a2 => by omega) ⟨by omega, by omega, by omega, by omega⟩, h6, by rw [e0]; omega, g8.fr hf ⟨by omega, by omega⟩⟩
  · rw [e83]
    exact g1.1.f0 hf g1.2.1.2.1 (by omega) e0 (fun q a1 a2 => by omega) (fun q a1 => by omega)
  · rw [h0, e84]
    rcases g2.2.2 with g | ⟨y1, y2, y3⟩
    · exact Or.inl g
    · exact Or.inr ⟨y1, y2.f0 hf y3.1.2.1 (by omega) e0 (fun q a1 a2 => by omega) (fun q a1 => by omega), y3⟩
theorem ak_tell {c : Nat} (w0 : Int32) (mem : Mm) (h : Iv c mem) : W_X8_tell w0 mem (fun v m => W_X9_tell w0 m (fun v2 m2 => v = v2 ∧ Iv (c + 1) m2)) := by
  obtain ⟨g1, ⟨n, hn, en⟩, g3⟩ := h.2.2.2.2.2.1
  have e0 : mem 0 10 = nI n := g1.trans en
  rw [en, nI_clamp (by omega)] at g3
  unfold W_X8_tell
  rw [e0]
  by_cases c1 : n < 60
  · first | refine ct1 (nI_lt (a := n) (b := 60) c1 (by omega)) ?_ | refine ct2 (nI_lt (a := n) (b := 60) c1 (by omega)) ?_
    refine ⟨n, rfl, c1, fun m1 e1 m2 e2 => ?_⟩
    have x1 : m1 0 10 = nI n := by rw [e1, mu_row_n _ _ _ (by omega)]; exact e0
    rw [x1, nI_1] at e2
    have x2 : m2 0 10 = nI (n + 1) := by rw [e2, mu_s]
    have x3 : m2 82 35 = nI n := by rw [e2, mu_row_n _ _ _ (by omega), e1, mu_row_n _ _ _ (by omega)]; exact en
    show W_X9_tell _ _ _
    unfold W_X9_tell
    rw [x3]
    first | refine cf1 (fun z => by have := (nI_eq (a := n) (b := 60) (by omega) (by omega)).mp z; omega) ?_ | refine cf2 (fun z => by have := (nI_eq (a := n) (b := 60) (by omega) (by omega)).mp z; omega) ?_
    refine ⟨n, rfl, c1, fun m3 e3 m4 e4 => ?_⟩
    have x4 : m3 82 35 = nI n := by rw [e3, mu_row_n _ _ _ (by omega)]; exact x3
    rw [x4, nI_1] at e4
    have x5 : m4 82 35 = nI (n + 1) := by rw [e4, mu_s]
    refine ⟨by rw [x2, x5], ?_⟩
    have far : ∀ q, q ≠ 0 → q ≠ 52 → q ≠ 82 → q ≠ 105 → m4 q = mem q := fun q a1 a2 a3 a4 => by rw [e4, mu_row_n _ _ _ a3, e3, mu_row_n _ _ _ a4, e2, mu_row_n _ _ _ a1, e1, mu_row_n _ _ _ a2]
    have m0j : ∀ j, j ≠ 10 → m4 0 j = mem 0 j := fun j nj => by rw [e4, mu_row_n _ _ _ (by omega), e3, mu_row_n _ _ _ (by omega), e2, mu_j _ _ _ nj, e1, mu_row_n _ _ _ (by omega)]
    have m82j : ∀ j, j ≠ 35 → m4 82 j = mem 82 j := fun j nj => by rw [e4, mu_j _ _ _ nj, e3, mu_row_n _ _ _ (by omega), e2, mu_row_n _ _ _ (by omega), e1, mu_row_n _ _ _ (by omega)]
    refine h.ta ⟨fun q p1 p2 => far q (by omega) (by omega) (by omega) (by omega), fun q p1 => by unfold iSt at p1; rw [far q (by omega) (by omega) (by omega) (by omega)]⟩ (m0j 3 (by omega)) (m0j 1000 (by omega)) (m82j 3 (by omega)) ?_ ?_
    · unfold Iv3
      rw [far 46 (by omega) (by omega) (by omega) (by omega), far 47 (by omega) (by omega) (by omega) (by omega), far 89 (by omega) (by omega) (by omega) (by omega), m82j 9 (by omega)]
      exact h.2.2.1
    · refine ⟨?_, by rw [x5]; exact ⟨n + 1, by omega, rfl⟩, fun i hi => ?_⟩
      · rw [x5, e4, mu_row_n _ _ _ (by omega), e3, mu_row_n _ _ _ (by omega), x2]
      · rw [x5, nI_clamp (by omega)] at hi
        have y1 : m4 52 = upd (mem 52) n w0 := by rw [e4, mu_row_n _ _ _ (by omega), e3, mu_row_n _ _ _ (by omega), e2, mu_row_n _ _ _ (by omega), e1, mu_row_s]
        have y2 : m4 105 = upd (mem 105) n w0 := by rw [e4, mu_row_n _ _ _ (by omega), e3, mu_row_s, e2, mu_row_n _ _ _ (by omega), e1, mu_row_n _ _ _ (by omega)]
        rw [y1, y2]
        by_cases c2 : i = n
        · rw [c2, pk_us, pk_us]
        · rw [pk_un c2, pk_un c2]
          exact g3 i (by omega)
  · have c2 : n = 60 := by omega
    first | refine cf1 (nI_nlt (a := n) (b := 60) (by omega) (by omega)) ?_ | refine cf2 (nI_nlt (a := n) (b := 60) (by omega) (by omega)) ?_
    show W_X9_tell _ _ _
    unfold W_X9_tell
    rw [en]
    first | refine ct1 (by rw [c2]; rfl) ?_ | refine ct2 (by rw [c2]; rfl) ?_
    exact ⟨rfl, h.up⟩
theorem ak_trim {c : Nat} (w0 : Int32) (mem : Mm) (h : Iv c mem) : W_X8_trim w0 mem (fun v m => W_X9_trim w0 m (fun v2 m2 => v = v2 ∧ Iv (c + 1) m2)) := by
  obtain ⟨g1, ⟨n, hn, en⟩, g3⟩ := h.2.2.1
  unfold W_X8_trim
  rw [g1]
  by_cases c1 : 0 ≤ w0 ∧ w0 ≤ mem 82 9
  · refine s_iw_y c1 ?_
    first | refine zt1 ?_ | refine zt2 ?_
    intro m1 e1
    have x1 : m1 82 = mem 82 := by rw [e1, mu_row_n _ _ _ (by omega)]
    show W_X9_trim _ _ _
    unfold W_X9_trim
    rw [x1]
    refine s_in_y c1 ?_
    first | refine zt1 ?_ | refine zt2 ?_
    intro m2 e2
    refine ⟨rfl, ?_⟩
    have far : ∀ q, q ≠ 46 → q ≠ 82 → m2 q = mem q := fun q a1 a2 => by rw [e2, mu_row_n _ _ _ a2, e1, mu_row_n _ _ _ a1]
    have m82j : ∀ j, j ≠ 9 → m2 82 j = mem 82 j := fun j nj => by rw [e2, mu_j _ _ _ nj, x1]
    have r0 : Rg w0 96 := by
      obtain ⟨z, hz, ez⟩ := Rg.of (y := mem 82 9) (n := n) (by rw [en]; exact nI_toInt (by omega)) c1
      exact ⟨z, by omega, ez⟩
    refine h.ta ⟨fun q p1 p2 => far q (by omega) (by omega), fun q p1 => by unfold iSt at p1; rw [far q (by omega) (by omega)]⟩ (by rw [far 0 (by omega) (by omega)]) (by rw [far 0 (by omega) (by omega)]) (m82j 3 (by omega)) ⟨?_, ?_, ?_⟩ ?_
    · rw [e2, mu_row_n _ _ _ (by omega), mu_s, e1, mu_s]
    · rw [e2, mu_s]; exact r0
    · rw [far 47 (by omega) (by omega), far 89 (by omega) (by omega)]; exact g3
    · unfold Iv6
      rw [far 0 (by omega) (by omega), far 52 (by omega) (by omega), far 105 (by omega) (by omega), m82j 35 (by omega)]
      exact h.2.2.2.2.2.1
  · refine s_iw_n c1 ?_
    first | refine zf1 ?_ | refine zf2 ?_
    show W_X9_trim _ _ _
    unfold W_X9_trim
    refine s_in_n c1 ?_
    first | refine zf1 ?_ | refine zf2 ?_
    exact ⟨rfl, h.up⟩
theorem by_rel (q : Int32) : ByR q.toInt8.toInt32 (q &&& 255) := by
  obtain ⟨b, hb, eb⟩ := pk_andE q 8 (m := 255) (by decide)
  refine ⟨b, hb, eb, ?_⟩
  rw [← eb, Int32.toInt8_and, show (255 : Int32).toInt8 = -1 by decide, Int8.and_neg_one]
def skT (k : Nat) : Int32 := [24, 16, 8, 0, 24, 16, 8, 0, 24, 16, 8, 0].getD k 0
def wdT (a b d : Int32) (k : Nat) : Int32 := if k < 4 then a else if k < 8 then b else d
def cbT (a b d : Int32) (k : Nat) : Int32 := (wdT a b d k >>> (skT k &&& 31)).toInt8.toInt32
def rbT (a b d : Int32) (k : Nat) : Int32 := (wdT a b d k >>> (skT k &&& 31)) &&& 255
theorem tb_sk : ∀ k, k < 12 → (24 - (8 * (nI k - nI k / 4 * 4))) &&& 31 = skT k &&& 31 := by decide
theorem s_put5 {n : Nat} {p : Int32} {mem : Mm} {K : Mm → Prop} (hn : n + 4 ≤ 96) (en : mem 46 1 = nI n) (hK : ∀ m, (∀ q, q ≠ 46 → q ≠ 47 → m q = mem q) → m 46 = upd (mem 46) 1 (nI (n + 4)) → m 47 = upd (upd (upd (upd (mem 47) n ((p >>> ((24 : Int32) &&& 31)).toInt8.toInt32)) (n + 1) ((p >>> ((16 : Int32) &&& 31)).toInt8.toInt32)) (n + 2) ((p >>> ((8 : Int32) &&& 31)).toInt8.toInt32)) (n + 3) ((p >>> ((0 : Int32) &&& 31)).toInt8.toInt32) → K m) : W_X5_put p mem K := by
  unfold W_X5_put
  refine ⟨5, ?_⟩
  unfold L_X5_put_3
  rw [en]
  refine cf1 (by decide) (cf1 (nI_ge (a := n) (b := 96) (by omega) (by omega)) ⟨n, rfl, by omega, fun m1 e1 m2 e2 => ?_⟩)
  have a1 : m1 46 1 = nI n := by rw [e1, mu_row_n _ _ _ (by omega)]; exact en
  rw [a1, nI_1] at e2
  have a2 : m2 46 1 = nI (n + 1) := by rw [e2, mu_s]
  unfold L_X5_put_3
  rw [a2]
  refine cf1 (by decide) (cf1 (nI_ge (a := n + 1) (b := 96) (by omega) (by omega)) ⟨n + 1, rfl, by omega, fun m3 e3 m4 e4 => ?_⟩)
  have a3 : m3 46 1 = nI (n + 1) := by rw [e3, mu_row_n _ _ _ (by omega)]; exact a2
  rw [a3, nI_1] at e4
  have a4 : m4 46 1 = nI (n + 1 + 1) := by rw [e4, mu_s]
  unfold L_X5_put_3
  rw [a4]
  refine cf1 (by decide) (cf1 (nI_ge (a := n + 1 + 1) (b := 96) (by omega) (by omega)) ⟨n + 1 + 1, rfl, by omega, fun m5 e5 m6 e6 => ?_⟩)
  have a5 : m5 46 1 = nI (n + 1 + 1) := by rw [e5, mu_row_n _ _ _ (by omega)]; exact a4
  rw [a5, nI_1] at e6
  have a6 : m6 46 1 = nI (n + 1 + 1 + 1) := by rw [e6, mu_s]
  unfold L_X5_put_3
  rw [a6]
  refine cf1 (by decide) (cf1 (nI_ge (a := n + 1 + 1 + 1) (b := 96) (by omega) (by omega)) ⟨n + 1 + 1 + 1, rfl, by omega, fun m7 e7 m8 e8 => ?_⟩)
  have a7 : m7 46 1 = nI (n + 1 + 1 + 1) := by rw [e7, mu_row_n _ _ _ (by omega)]; exact a6
  rw [a7, nI_1] at e8
  unfold L_X5_put_3
  refine ct1 (by decide) (hK m8 (fun q n1 n2 => ?_) ?_ ?_)
  · rw [e8, mu_row_n _ _ _ n1, e7, mu_row_n _ _ _ n2, e6, mu_row_n _ _ _ n1, e5, mu_row_n _ _ _ n2, e4, mu_row_n _ _ _ n1, e3, mu_row_n _ _ _ n2, e2, mu_row_n _ _ _ n1, e1, mu_row_n _ _ _ n2]
  · rw [e8, mu_row_s, e7, mu_row_n _ _ _ (by omega), e6, mu_row_s, e5, mu_row_n _ _ _ (by omega), e4, mu_row_s, e3, mu_row_n _ _ _ (by omega), e2, mu_row_s, e1, mu_row_n _ _ _ (by omega), upd_upd, upd_upd, upd_upd]
  · rw [e8, mu_row_n _ _ _ (by omega), e7, mu_row_s, e6, mu_row_n _ _ _ (by omega), e5, mu_row_s, e4, mu_row_n _ _ _ (by omega), e3, mu_row_s, e2, mu_row_n _ _ _ (by omega), e1, mu_row_s]
    rfl
theorem l_feed9 {n : Nat} {a b d p0 p1 p2 : Int32} {m0 : Mm} {K : Int32 → Mm → Prop} (hn : n + 12 ≤ 96) (en : m0 82 9 = nI n) (hK : ∀ m, (∀ q, q ≠ 89 → q ≠ 82 → m q = m0 q) → m 82 = upd (m0 82) 9 (nI (n + 12)) → m 89 = cpN (rbT a b d) (m0 89) 0 n 12 → K (nI (n + 12)) m) : ∀ (r k : Nat) (m : Mm), k + r = 12 → (∀ q, q ≠ 89 → m q = m0 q) → m 89 = cpN (rbT a b d) (m0 89) 0 n k → L_X9_feed_18 p0 p1 p2 K (r + 1) a b d (nI k) m := by
  intro r
  induction r with
  | zero =>
    intro k m hk h1 h2
    have c0 : k = 12 := by omega
    subst c0
    unfold L_X9_feed_18
    refine ct1 (by decide) (fun m1 e1 => ?_)
    have x0 : m 82 9 = nI n := by rw [h1 82 (by omega)]; exact en
    have x1 : nI n + 12 = nI (n + 12) := nI_add n 12
    rw [x0, x1] at e1
    have x2 : m1 82 9 = nI (n + 12) := by rw [e1, mu_s]
    rw [x2]
    refine hK m1 (fun q a1 a2 => ?_) ?_ ?_
    · rw [e1, mu_row_n _ _ _ a2]; exact h1 q a1
    · rw [e1, mu_row_s, h1 82 (by omega)]
    · rw [e1, mu_row_n _ _ _ (by omega)]; exact h2
  | succ r ih =>
    intro k m hk h1 h2
    unfold L_X9_feed_18
    refine cf1 (nI_ge (a := k) (b := 12) (by omega) (by omega)) ?_
    have nx : ∀ w : Int32, w = wdT a b d k → B_X9_feed_47 p0 p1 p2 (fun zl1 zl2 zl3 zl4 zm => L_X9_feed_18 p0 p1 p2 K (r + 1) zl1 zl2 zl3 zl4 zm) K a b d (nI k) w m := by
      intro w ew
      unfold B_X9_feed_47
      have x0 : m 82 9 = nI n := by rw [h1 82 (by omega)]; exact en
      rw [x0, nI_add, tb_sk k (by omega), ew]
      refine ⟨n + k, rfl, by omega, fun m1 e1 => ?_⟩
      rw [nI_1]
      refine ih (k + 1) m1 (by omega) (fun q nq => ?_) ?_
      · rw [e1, mu_row_n _ _ _ nq]; exact h1 q nq
      · rw [e1, mu_row_s, h2]
        show _ = upd (cpN (rbT a b d) (m0 89) 0 n k) (n + k) (rbT a b d (0 + k))
        rw [Nat.zero_add]
        rfl
    refine ⟨fun c4 => ⟨fun c8 => nx _ ?_, fun c8 => nx _ ?_⟩, fun c4 => nx _ ?_⟩
    · have y8 : 8 ≤ k := (nI_leI (a := 8) (b := k) (by omega) (by omega)).mp c8
      unfold wdT
      rw [if_neg (by omega), if_neg (by omega)]
    · have y4 : 4 ≤ k := (nI_leI (a := 4) (b := k) (by omega) (by omega)).mp c4
      have y8 : ¬ 8 ≤ k := fun z => c8 ((nI_leI (a := 8) (b := k) (by omega) (by omega)).mpr z)
      unfold wdT
      rw [if_neg (by omega), if_pos (by omega)]
    · have y4 : ¬ 4 ≤ k := fun z => c4 ((nI_leI (a := 4) (b := k) (by omega) (by omega)).mpr z)
      unfold wdT
      rw [if_pos (by omega)]
theorem ak_feed {c : Nat} (w0 w1 w2 : Int32) (mem : Mm) (h : Iv c mem) : W_X8_feed w0 w1 w2 mem (fun v m => W_X9_feed w0 w1 w2 m (fun v2 m2 => v = v2 ∧ Iv (c + 1) m2)) := by
  obtain ⟨g1, ⟨n, hn, en⟩, g3⟩ := h.2.2.1
  have e45 : mem 46 1 = nI n := g1.trans en
  have x12 : nI n + 12 = nI (n + 12) := nI_add n 12
  unfold W_X8_feed
  rw [e45, x12]
  by_cases c1 : n + 12 ≤ 96
  · first | refine ct1 (nI_le (a := n + 12) (b := 96) c1 (by omega)) ?_ | refine ct2 (nI_le (a := n + 12) (b := 96) c1 (by omega)) ?_
    refine s_put5 (n := n) (by omega) e45 (fun m1 a1 a2 a3 => ?_)
    refine s_put5 (n := n + 4) (by omega) (by rw [a2, pk_us]) (fun m2 b1 b2 b3 => ?_)
    refine s_put5 (n := n + 4 + 4) (by omega) (by rw [b2, pk_us]) (fun m3 d1 d2 d3 => ?_)
    have s45 : m3 46 = upd (mem 46) 1 (nI (n + 12)) := by rw [d2, b2, a2, upd_upd, upd_upd]
    have s46 : m3 47 = cpN (cbT w0 w1 w2) (mem 47) 0 n 12 := by rw [d3, b3, a3]; rfl
    have far : ∀ q, q ≠ 46 → q ≠ 47 → m3 q = mem q := fun q n1 n2 => by rw [d1 q n1 n2, b1 q n1 n2, a1 q n1 n2]
    have e82 : m3 82 9 = nI n := by rw [far 82 (by omega) (by omega)]; exact en
    show W_X9_feed _ _ _ _ _
    unfold W_X9_feed
    rw [e82, x12]
    first | refine ct1 (nI_le (a := n + 12) (b := 96) c1 (by omega)) ?_ | refine ct2 (nI_le (a := n + 12) (b := 96) c1 (by omega)) ?_
    refine ⟨12 + 1, l_feed9 (n := n) (a := w0) (b := w1) (d := w2) c1 e82 (fun m4 y1 y2 y3 => ⟨?_, ?_⟩) 12 0 m3 (by omega) (fun _ _ => rfl) rfl⟩
    · rw [s45, pk_us]
    · have fr4 : ∀ q, q ≠ 46 → q ≠ 47 → q ≠ 82 → q ≠ 89 → m4 q = mem q := fun q n1 n2 n3 n4 => by rw [y1 q n4 n3]; exact far q n1 n2
      refine h.ta ⟨fun q p1 p2 => fr4 q (by omega) (by omega) (by omega) (by omega), fun q p1 => by unfold iSt at p1; rw [fr4 q (by omega) (by omega) (by omega) (by omega)]⟩ (by rw [fr4 0 (by omega) (by omega) (by omega) (by omega)]) (by rw [fr4 0 (by omega) (by omega) (by omega) (by omega)]) (by rw [y2, pk_un (by omega), far 82 (by omega) (by omega)]) ⟨?_, ?_, fun i hi => ?_⟩ ?_
      · rw [y1 46 (by omega) (by omega), s45, pk_us, y2, pk_us]
      · rw [y2, pk_us]; exact ⟨n + 12, c1, rfl⟩
      · rw [y1 47 (by omega) (by omega), s46, y3, far 89 (by omega) (by omega), cpN_v, cpN_v]
        by_cases c2 : n ≤ i ∧ i < n + 12
        · rw [if_pos c2, if_pos c2]
          exact by_rel _
        · rw [if_neg c2, if_neg c2]
          exact g3 i hi
      · unfold Iv6
        rw [fr4 0 (by omega) (by omega) (by omega) (by omega), fr4 52 (by omega) (by omega) (by omega) (by omega), fr4 105 (by omega) (by omega) (by omega) (by omega), y2, pk_un (by omega), far 82 (by omega) (by omega)]
        exact h.2.2.2.2.2.1
  · first | refine cf1 (nI_ge (a := 96) (b := n + 12) (by omega) (by omega)) ?_ | refine cf2 (nI_ge (a := 96) (b := n + 12) (by omega) (by omega)) ?_
    show W_X9_feed _ _ _ _ _
    unfold W_X9_feed
    rw [en, x12]
    first | refine cf1 (nI_ge (a := 96) (b := n + 12) (by omega) (by omega)) ?_ | refine cf2 (nI_ge (a := 96) (b := n + 12) (by omega) (by omega)) ?_
    exact ⟨rfl, h.up⟩
