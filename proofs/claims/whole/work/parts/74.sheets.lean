/-! sheets -/
theorem s8_sheet_y {v : Int32} {mem : Mm} {K : Bool → Mm → Prop} (hc : 0 ≤ v ∧ v ≤ 3) (h : K true mem) : W_X8_isSheet v mem K := s_X8_isSheet (by rw [decide_eq_true hc]; exact h)
theorem s8_sheet_n {v : Int32} {mem : Mm} {K : Bool → Mm → Prop} (hc : ¬ (0 ≤ v ∧ v ≤ 3)) (h : K false mem) : W_X8_isSheet v mem K := s_X8_isSheet (by rw [decide_eq_false hc]; exact h)
theorem s9_sheet_y {v : Int32} {mem : Mm} {K : Bool → Mm → Prop} (hc : 0 ≤ v ∧ v ≤ 3) (h : K true mem) : W_X9_isSheet v mem K := s_X9_isSheet (by rw [decide_eq_true hc]; exact h)
theorem s9_sheet_n {v : Int32} {mem : Mm} {K : Bool → Mm → Prop} (hc : ¬ (0 ≤ v ∧ v ≤ 3)) (h : K false mem) : W_X9_isSheet v mem K := s_X9_isSheet (by rw [decide_eq_false hc]; exact h)
theorem s_miss_y {k : Nat} {mem : Mm} {K : Bool → Mm → Prop} (h0 : mem k 0 = -1) (h : K true mem) : W_X3_isMissing k mem K := ct2 h0 h
theorem s_miss_n {k : Nat} {mem : Mm} {K : Bool → Mm → Prop} (h0 : ¬ mem k 0 = -1) (h : K false mem) : W_X3_isMissing k mem K := cf2 h0 h
theorem srt_or {x : Int32} (h : x = -1 ∨ x = 0 ∨ x = 1) : (x = -1 ∧ ¬ 0 ≤ x ∧ x < 0) ∨ (¬ x = -1 ∧ 0 ≤ x ∧ ¬ x < 0) := by
  rcases h with rfl | rfl | rfl
  · exact Or.inl ⟨rfl, by decide, by decide⟩
  · exact Or.inr ⟨by decide, by decide, by decide⟩
  · exact Or.inr ⟨by decide, by decide, by decide⟩
theorem s3_has_y {k n i : Nat} {mem : Mm} {K : Bool → Mm → Prop} (hw : mem k 1 = nI n) (hn : n ≤ 24) (hi : i < n) (h : K true mem) : W_X3_has k (nI i) mem K := by
  unfold W_X3_has
  exact cf1 (nI_pos (by omega)) (cf1 (by rw [hw]; exact nI_ge hi (by omega)) h)
theorem s3_has_n {k n : Nat} {p : Int32} {mem : Mm} {K : Bool → Mm → Prop} (hw : mem k 1 = nI n) (hp : p < 0 ∨ nI n ≤ p) (h : K false mem) : W_X3_has k p mem K := by
  unfold W_X3_has
  refine ⟨fun _ => h, fun h1 => ?_⟩
  rcases hp with hp | hp
  · exact absurd hp h1
  · exact ct1 (by rw [hw]; exact hp) h
theorem s_isNum {k n i : Nat} {mem : Mm} {K : Bool → Mm → Prop} (hw : mem k 1 = nI n) (hn : n ≤ 24) (hi : i < n) (h : K (decide (¬ mem (k + 1) i = -1000000005)) mem) : W_X3_isNumber k (nI i) mem K := by
  unfold W_X3_isNumber
  refine s3_has_y hw hn hi (zt1 ⟨i, rfl, by omega, fun hc => ?_, fun hc => ?_⟩)
  · rw [decide_eq_false (fun z => z hc)] at h; exact h
  · rw [decide_eq_true hc] at h; exact h
theorem ix_24 (s k : Nat) : 24 * nI s + nI k = nI (24 * s + k) := by
  rw [show (24 : Int32) = nI 24 from rfl, pk_mul, nI_add]
theorem PlR.yes {x y : Int32} (h : PlR x y) (hx : ¬ x = -1000000005) : x = y ∧ ¬ y = -1000000005 := by
  rcases h with ⟨h1, _⟩ | ⟨h1, h2, h3⟩
  · exact absurd h1 hx
  · refine ⟨h1, fun z => ?_⟩
    rw [h1, z] at h2
    exact absurd h2 (by decide)
theorem PlR.no {x y : Int32} (h : PlR x y) (hx : x = -1000000005) : y = -1000000005 := by
  rcases h with ⟨_, h1⟩ | ⟨h1, h2, h3⟩
  · exact h1
  · rw [hx] at h2
    exact absurd h2 (by decide)
theorem PlR.fin {v : Int32} (h : -99999 ≤ v ∧ v ≤ 99999) : PlR v v := by
  refine Or.inr ⟨rfl, ?_, ?_⟩
  · have := Int32.le_iff_toInt_le.mp h.1
    exact this
  · have := Int32.le_iff_toInt_le.mp h.2
    exact this
theorem PlR.sho (v : Int32) : PlR v.toInt16.toInt32 v.toInt16.toInt32 := by
  refine Or.inr ⟨rfl, ?_, ?_⟩
  · rw [Int16.toInt_toInt32]
    have := Int16.le_toInt v.toInt16
    omega
  · rw [Int16.toInt_toInt32]
    have := Int16.toInt_lt v.toInt16
    omega
theorem PlR.zero : PlR 0 0 := Or.inr ⟨rfl, by decide, by decide⟩
theorem Iv.sh {c : Nat} {m m' : Mm} (h : Iv c m) (hf : Fr (fun q => (54 ≤ q ∧ q < 62) ∨ q = 97 ∨ q = 98 ∨ q = 99 ∨ q = 104) m m') (h4 : Iv4 m') : Iv (c + 1) m' := by
  obtain ⟨g1, g2, g3, g4, g5, g6, g7, g8⟩ := h
  have e82 := hf.c 82 (by omega) (by omega)
  refine ⟨g1.fr hf (by omega) (fun q a1 a2 => by omega) (by omega) (fun q a1 => by omega), g2.fr hf (by omega) (fun q a1 a2 => by omega) (by omega) (by rw [e82]) (fun q a1 => by omega), g3.fr hf ⟨by omega, by omega, by omega⟩ (by rw [e82]), h4, g5.fr hf (fun q a1 a2 => by omega) ⟨by omega, by omega, by omega, by omega⟩, g6.fr hf ⟨by omega, by omega, by omega⟩ (by rw [e82]), ?_, g8.fr hf ⟨by omega, by omega⟩⟩
  rw [nTx_c (hf.c 0 (by omega) (by omega))]
  omega
theorem l_fill {k n : Nat} {v p1 : Int32} {m0 : Mm} {K : Mm → Prop} (hn : n ≤ 1000) (hK : ∀ m, (∀ q, q ≠ k → m q = m0 q) → (∀ i, i < n → m k i = v) → (∀ i, n ≤ i → m k i = m0 k i) → K m) : ∀ (d i : Nat) (m : Mm), i + d = n → (∀ q, q ≠ k → m q = m0 q) → (∀ i2, i2 < i → m k i2 = v) → (∀ i2, i ≤ i2 → m k i2 = m0 k i2) → L_J7_fill_53178_5 k n p1 K (d + 1) v (nI i) (nI n) m := by
  intro d
  induction d with
  | zero =>
    intro i m hi hq h1 h2
    have c0 : i = n := by omega
    subst c0
    unfold L_J7_fill_53178_5
    exact ct1 (nI_le (Nat.le_refl _) (by omega)) (hK m hq h1 h2)
  | succ d ih =>
    intro i m hi hq h1 h2
    unfold L_J7_fill_53178_5
    refine cf1 (nI_ge (by omega) (by omega)) ⟨i, rfl, by omega, fun m2 e2 => ?_⟩
    rw [nI_1]
    refine ih (i + 1) m2 (by omega) (fun q nq => ?_) (fun i2 hi2 => ?_) (fun i2 hi2 => ?_)
    · rw [e2, mu_row_n _ _ _ nq]; exact hq q nq
    · rw [e2, mu_row_s]
      by_cases c1 : i2 = i
      · rw [c1, pk_us]
      · rw [pk_un c1]; exact h1 i2 (by omega)
    · rw [e2, mu_row_s, pk_un (by omega)]; exact h2 i2 (by omega)
theorem s_fill {k n : Nat} {v : Int32} {mem : Mm} {K : Mm → Prop} (hn : n ≤ 1000) (hK : ∀ m, (∀ q, q ≠ k → m q = mem q) → (∀ i, i < n → m k i = v) → (∀ i, n ≤ i → m k i = mem k i) → K m) : W_J7_fill_53178 k n v mem K := by
  unfold W_J7_fill_53178
  exact ⟨n + 1, l_fill hn hK n 0 mem (by omega) (fun _ _ => rfl) (fun i hi => by omega) (fun _ _ => rfl)⟩
theorem l_sheet9 {s : Nat} {p0 p1 p2 : Int32} {m0 : Mm} {K : Int32 → Mm → Prop} (hs : s < 4) (hK : ∀ m, (∀ q, q ≠ 99 → m q = m0 q) → (∀ i, 24 * s ≤ i → i < 24 * s + 24 → m 99 i = 0) → (∀ i, i < 24 * s ∨ 24 * s + 24 ≤ i → m 99 i = m0 99 i) → K (m0 98 s) m) : ∀ (d i : Nat) (m : Mm), i + d = 24 → (∀ q, q ≠ 99 → m q = m0 q) → (∀ i2, 24 * s ≤ i2 → i2 < 24 * s + i → m 99 i2 = 0) → (∀ i2, i2 < 24 * s ∨ 24 * s + i ≤ i2 → m 99 i2 = m0 99 i2) → L_X9_sheet_66 p0 p1 p2 K (d + 1) (nI s) (nI i) m := by
  intro d
  induction d with
  | zero =>
    intro i m hi hq h1 h2
    have c0 : i = 24 := by omega
    subst c0
    unfold L_X9_sheet_66
    refine ct1 (by decide) ⟨s, rfl, hs, ?_⟩
    rw [hq 98 (by omega)]
    exact hK m hq h1 h2
  | succ d ih =>
    intro i m hi hq h1 h2
    unfold L_X9_sheet_66
    refine cf1 (nI_ge (a := i) (b := 24) (by omega) (by omega)) ⟨24 * s + i, ix_24 s i, by omega, fun m2 e2 => ?_⟩
    rw [nI_1]
    refine ih (i + 1) m2 (by omega) (fun q nq => ?_) (fun i2 a1 a2 => ?_) (fun i2 a1 => ?_)
    · rw [e2, mu_row_n _ _ _ nq]; exact hq q nq
    · rw [e2, mu_row_s]
      by_cases c1 : i2 = 24 * s + i
      · rw [c1, pk_us]
      · rw [pk_un c1]; exact h1 i2 a1 (by omega)
    · rw [e2, mu_row_s, pk_un (by omega)]; exact h2 i2 (by omega)
theorem s_becomeRow {k : Nat} {a b : Int32} {mem : Mm} {K : Mm → Prop} (hK : ∀ m, (∀ q, q ≠ k → q ≠ k + 1 → m q = mem q) → m k = upd (upd (mem k) 0 a) 1 b → (∀ i, i < 24 → m (k + 1) i = 0) → K m) : W_X3_becomeRow k a b mem K := by
  unfold W_X3_becomeRow
  intro m1 e1 m2 e2
  refine s_fill (by omega) (fun m q1 q2 q3 => hK m (fun q n1 n2 => ?_) ?_ (fun i hi => q2 i hi))
  · rw [q1 q n2, e2, mu_row_n _ _ _ n1, e1, mu_row_n _ _ _ n1]
  · rw [q1 k (by omega), e2, mu_row_s, e1, mu_row_s]
theorem sheet_fin {c s n : Nat} {a b : Int32} {mem m m2 : Mm} (h : Iv c mem) (hs : s < 4) (ha : a = -1 ∨ a = 0 ∨ a = 1) (hb : Rg b 24) (q1 : ∀ q, q ≠ 54 + 2 * s → q ≠ 54 + 2 * s + 1 → m q = mem q) (q2 : m (54 + 2 * s) = upd (upd (mem (54 + 2 * s)) 0 a) 1 b) (q3 : ∀ i, i < 24 → m (54 + 2 * s + 1) i = 0)
    (r1 : ∀ q, q ≠ 97 → q ≠ 98 → q ≠ 99 → m2 q = m q) (r2 : m2 97 = upd (m 97) s a) (r3 : m2 98 = upd (m 98) s b) (r4 : ∀ i, 24 * s ≤ i → i < 24 * s + 24 → m2 99 i = 0) (r5 : ∀ i, i < 24 * s ∨ 24 * s + 24 ≤ i → m2 99 i = m 99 i) : Iv (c + 1) m2 := by
  have h4 := h.2.2.2.1
  refine h.sh ⟨fun q p1 p2 => ?_, fun q p1 => ?_⟩ (fun s2 hs2 => ?_)
  · rw [r1 q (by omega) (by omega) (by omega), q1 q (by omega) (by omega)]
  · unfold iSt at p1
    rw [r1 q (by omega) (by omega) (by omega), q1 q (by omega) (by omega)]
  · rw [r1 (54 + 2 * s2) (by omega) (by omega) (by omega), r1 (54 + 2 * s2 + 1) (by omega) (by omega) (by omega), r2, r3, q1 97 (by omega) (by omega), q1 98 (by omega) (by omega)]
    by_cases c1 : s2 = s
    · subst c1
      rw [q2, pk_un (by omega), pk_us, pk_us, pk_us, pk_us]
      refine ⟨rfl, rfl, ha, hb, fun k hk => ?_⟩
      rw [q3 k hk, r4 _ (by omega) (by omega)]
      exact PlR.zero
    · obtain ⟨g1, g2, g3, g4, g5⟩ := h4 s2 hs2
      rw [q1 _ (by omega) (by omega), q1 _ (by omega) (by omega), pk_un c1, pk_un c1]
      refine ⟨g1, g2, g3, g4, fun k hk => ?_⟩
      rw [r5 _ (by omega), q1 99 (by omega) (by omega)]
      exact g5 k hk
theorem s_sheet41 {c s : Nat} {p0 p1 p2 a b : Int32} {mem m : Mm} {v : Int32} (h : Iv c mem) (hs : s < 4) (ha : a = -1 ∨ a = 0 ∨ a = 1) (hb : Rg v 24) (hv : v = if 0 ≤ a then b else 0) (q1 : ∀ q, q ≠ 54 + 2 * s → q ≠ 54 + 2 * s + 1 → m q = mem q) (q2 : m (54 + 2 * s) = upd (upd (mem (54 + 2 * s)) 0 a) 1 v) (q3 : ∀ i, i < 24 → m (54 + 2 * s + 1) i = 0) : B_X9_sheet_41 p0 p1 p2 (fun v2 m2 => v = v2 ∧ Iv (c + 1) m2) (nI s) a b m := by
  unfold B_X9_sheet_41
  refine ⟨s, rfl, hs, fun m1 e1 => ?_⟩
  have go : ∀ m2 : Mm, m2 = mu m1 98 s v → ∃ nz : Nat, L_X9_sheet_66 p0 p1 p2 (fun v2 m2 => v = v2 ∧ Iv (c + 1) m2) nz (nI s) 0 m2 := by
    intro m2 e2
    refine ⟨24 + 1, l_sheet9 hs (fun m3 x1 x2 x3 => ⟨?_, ?_⟩) 24 0 m2 (by omega) (fun _ _ => rfl) (fun i2 a1 a2 => by omega) (fun _ _ => rfl)⟩
    · rw [e2, mu_row_s, pk_us]
    · refine sheet_fin (n := 0) h hs ha hb q1 q2 q3 (fun q n1 n2 n3 => ?_) ?_ ?_ x2 (fun i hi => ?_)
      · rw [x1 q n3, e2, mu_row_n _ _ _ n2, e1, mu_row_n _ _ _ n1]
      · rw [x1 97 (by omega), e2, mu_row_n _ _ _ (by omega), e1, mu_row_s]
      · rw [x1 98 (by omega), e2, mu_row_s, e1, mu_row_n _ _ _ (by omega)]
      · rw [x3 i hi, e2, mu_row_n _ _ _ (by omega), e1, mu_row_n _ _ _ (by omega)]
  refine ⟨fun hc => ⟨s, rfl, hs, fun m2 e2 => go m2 ?_⟩, fun hc => ⟨s, rfl, hs, fun m2 e2 => go m2 ?_⟩⟩
  · rw [hv, if_pos hc]; exact e2
  · rw [hv, if_neg hc]; exact e2
theorem ak_sheet {c : Nat} (w0 w1 w2 : Int32) (mem : Mm) (h : Iv c mem) : W_X8_sheet w0 w1 w2 mem (fun v m => W_X9_sheet w0 w1 w2 m (fun v2 m2 => v = v2 ∧ Iv (c + 1) m2)) := by
  unfold W_X8_sheet
  by_cases c0 : 0 ≤ w0 ∧ w0 ≤ 3
  · have c0b := c0
    obtain ⟨s, hs, rfl⟩ := Rg.of (y := 3) (n := 3) rfl c0
    refine s8_sheet_y c0b ?_
    first | refine zt1 ?_ | refine zt2 ?_
    by_cases c1 : -1 ≤ w1 ∧ w1 ≤ 1
    · refine s_iw_y c1 ?_
      first | refine zt1 ?_ | refine zt2 ?_
      have h1or : w1 = -1 ∨ w1 = 0 ∨ w1 = 1 := by
        have x1 := Int32.le_iff_toInt_le.mp c1.1
        have x2 := Int32.le_iff_toInt_le.mp c1.2
        have y1 : (-1 : Int32).toInt = -1 := rfl
        have y0 : (0 : Int32).toInt = 0 := rfl
        have y2 : (1 : Int32).toInt = 1 := rfl
        rw [y1] at x1
        rw [y2] at x2
        have x3 : w1.toInt = -1 ∨ w1.toInt = 0 ∨ w1.toInt = 1 := by omega
        rcases x3 with x3 | x3 | x3
        · exact Or.inl (Int32.toInt_inj.mp (by rw [x3, y1]))
        · exact Or.inr (Or.inl (Int32.toInt_inj.mp (by rw [x3, y0])))
        · exact Or.inr (Or.inr (Int32.toInt_inj.mp (by rw [x3, y2])))
      rcases srt_or h1or with ⟨d1, d2, d3⟩ | ⟨d1, d2, d3⟩
      · first | refine ct1 d1 ?_ | refine ct2 d1 ?_
        refine ⟨s, rfl, by omega, s_becomeRow (fun m q1 q2 q3 => ?_)⟩
        show W_X9_sheet _ _ _ _ _
        unfold W_X9_sheet
        refine s9_sheet_y c0b ?_
        first | refine zt1 ?_ | refine zt2 ?_
        refine s_in_y c1 ?_
        first | refine zt1 ?_ | refine zt2 ?_
        first | refine ct1 d3 ?_ | refine ct2 d3 ?_
        first | refine ct1 d3 ?_ | refine ct2 d3 ?_
        rw [← d1] at q2
        exact s_sheet41 h (by omega) h1or ⟨0, by omega, rfl⟩ (by rw [if_neg d2]) q1 q2 q3
      · first | refine cf1 d1 ?_ | refine cf2 d1 ?_
        by_cases e1 : w2 ≤ 24
        · first | refine ct1 e1 ?_ | refine ct2 e1 ?_
          by_cases e2 : 0 ≤ w2
          · first | refine ct1 e2 ?_ | refine ct2 e2 ?_
            refine ⟨s, rfl, by omega, s_becomeRow (fun m q1 q2 q3 => ?_)⟩
            show W_X9_sheet _ _ _ _ _
            unfold W_X9_sheet
            refine s9_sheet_y c0b ?_
            first | refine zt1 ?_ | refine zt2 ?_
            refine s_in_y c1 ?_
            first | refine zt1 ?_ | refine zt2 ?_
            first | refine cf1 d3 ?_ | refine cf2 d3 ?_
            first | refine ct1 e1 ?_ | refine ct2 e1 ?_
            first | refine cf1 d3 ?_ | refine cf2 d3 ?_
            first | refine ct1 e2 ?_ | refine ct2 e2 ?_
            exact s_sheet41 h (by omega) h1or (Rg.of (y := 24) rfl ⟨e2, e1⟩) (by rw [if_pos d2]) q1 q2 q3
          · first | refine cf1 e2 ?_ | refine cf2 e2 ?_
            show W_X9_sheet _ _ _ _ _
            unfold W_X9_sheet
            refine s9_sheet_y c0b ?_
            first | refine zt1 ?_ | refine zt2 ?_
            refine s_in_y c1 ?_
            first | refine zt1 ?_ | refine zt2 ?_
            first | refine cf1 d3 ?_ | refine cf2 d3 ?_
            first | refine ct1 e1 ?_ | refine ct2 e1 ?_
            first | refine cf1 d3 ?_ | refine cf2 d3 ?_
            first | refine cf1 e2 ?_ | refine cf2 e2 ?_
            exact ⟨rfl, h.up⟩
        · first | refine cf1 e1 ?_ | refine cf2 e1 ?_
          show W_X9_sheet _ _ _ _ _
          unfold W_X9_sheet
          refine s9_sheet_y c0b ?_
          first | refine zt1 ?_ | refine zt2 ?_
          refine s_in_y c1 ?_
          first | refine zt1 ?_ | refine zt2 ?_
          first | refine cf1 d3 ?_ | refine cf2 d3 ?_
          first | refine cf1 e1 ?_ | refine cf2 e1 ?_
          exact ⟨rfl, h.up⟩
    · refine s_iw_n c1 ?_
      first | refine zf1 ?_ | refine zf2 ?_
      show W_X9_sheet _ _ _ _ _
      unfold W_X9_sheet
      refine s9_sheet_y c0b ?_
      first | refine zt1 ?_ | refine zt2 ?_
      refine s_in_n c1 ?_
      first | refine zf1 ?_ | refine zf2 ?_
      exact ⟨rfl, h.up⟩
  · refine s8_sheet_n c0 ?_
    first | refine zf1 ?_ | refine zf2 ?_
    show W_X9_sheet _ _ _ _ _
    unfold W_X9_sheet
    refine s9_sheet_n c0 ?_
    first | refine zf1 ?_ | refine zf2 ?_
    exact ⟨rfl, h.up⟩
theorem mark_fin {c s k : Nat} {x y : Int32} {mem : Mm} (h : Iv c mem) (hs : s < 4) (hk : k < 24) (hp : PlR x y) : Iv (c + 1) (mu (mu mem (54 + 2 * s + 1) k x) 99 (24 * s + k) y) := by
  have h4 := h.2.2.2.1
  refine h.sh ((Fr.m1 _ _ _ (Or.inl ⟨by omega, by omega⟩) (by omega)).trans (Fr.m1 _ _ _ (Or.inr (Or.inr (Or.inr (Or.inl rfl)))) (by omega))) (fun s2 hs2 => ?_)
  obtain ⟨g1, g2, g3, g4, g5⟩ := h4 s2 hs2
  rw [mu_row_n _ _ _ (by omega), mu_row_n _ _ _ (by omega), mu_row_n (q := 97) _ _ _ (by omega), mu_row_n (q := 97) _ _ _ (by omega), mu_row_n (q := 98) _ _ _ (by omega), mu_row_n (q := 98) _ _ _ (by omega)]
  refine ⟨g1, g2, g3, g4, fun k2 hk2 => ?_⟩
  have r1 : mu (mu mem (54 + 2 * s + 1) k x) 99 (24 * s + k) y (54 + 2 * s2 + 1) k2 = if 54 + 2 * s2 + 1 = 54 + 2 * s + 1 ∧ k2 = k then x else mem (54 + 2 * s2 + 1) k2 := by
    rw [mu_k _ _ _ (by omega), mu_if]
  have r2 : mu (mu mem (54 + 2 * s + 1) k x) 99 (24 * s + k) y 99 (24 * s2 + k2) = if 24 * s2 + k2 = 24 * s + k then y else mem 99 (24 * s2 + k2) := by
    rw [mu_row_s, mu_row_n _ _ _ (by omega)]
    rfl
  rw [r1, r2]
  by_cases c1 : s2 = s ∧ k2 = k
  · rw [if_pos (by omega), if_pos (by omega)]
    exact hp
  · rw [if_neg (by omega), if_neg (by omega)]
    exact g5 k2 hk2
theorem ak_mark {c : Nat} (w0 w1 w2 : Int32) (mem : Mm) (h : Iv c mem) : W_X8_mark w0 w1 w2 mem (fun v m => W_X9_mark w0 w1 w2 m (fun v2 m2 => v = v2 ∧ Iv (c + 1) m2)) := by
  have h4 := h.2.2.2.1
  unfold W_X8_mark
  by_cases c0 : 0 ≤ w0 ∧ w0 ≤ 3
  · have c0b := c0
    obtain ⟨s, hs, rfl⟩ := Rg.of (y := 3) (n := 3) rfl c0
    obtain ⟨g1, g2, g3, g4, g5⟩ := h4 s (by omega)
    refine s8_sheet_y c0b ?_
    first | refine zt1 ?_ | refine zt2 ?_
    refine ⟨s, rfl, by omega, ?_⟩
    rcases srt_or g3 with ⟨d1, d2, d3⟩ | ⟨d1, d2, d3⟩
    · refine s_miss_y (g1.trans d1) ?_
      first | refine zt1 ?_ | refine zt2 ?_
      show W_X9_mark _ _ _ _ _
      unfold W_X9_mark
      refine s9_sheet_y c0b ?_
      first | refine zt1 ?_ | refine zt2 ?_
      refine ⟨s, rfl, by omega, ?_⟩
      first | refine cf1 d2 ?_ | refine cf2 d2 ?_
      exact ⟨rfl, h.up⟩
    · refine s_miss_n (by rw [g1]; exact d1) ?_
      first | refine zf1 ?_ | refine zf2 ?_
      obtain ⟨n, hn, en⟩ := g4
      have esz : mem (54 + 2 * s) 1 = nI n := g2.trans en
      have ho : (w1 < 0 ∨ nI n ≤ w1) ∨ ∃ k, k < n ∧ w1 = nI k := by
        rcases pk_ix w1 (n := n) (by omega) with q | q | q
        · exact Or.inl (Or.inl q)
        · exact Or.inl (Or.inr q)
        · exact Or.inr q
      rcases ho with hno | ⟨k, hk, rfl⟩
      · refine s3_has_n esz hno ?_
        first | refine zf1 ?_ | refine zf2 ?_
        show W_X9_mark _ _ _ _ _
        unfold W_X9_mark
        refine s9_sheet_y c0b ?_
        first | refine zt1 ?_ | refine zt2 ?_
        refine ⟨s, rfl, by omega, ?_⟩
        first | refine ct1 d2 ?_ | refine ct2 d2 ?_
        refine ⟨s, rfl, by omega, ?_⟩
        rw [en]
        refine s_in_n (rng_n (by omega) hno) ?_
        first | refine zf1 ?_ | refine zf2 ?_
        exact ⟨rfl, h.up⟩
      · refine s3_has_y esz hn hk ?_
        first | refine zt1 ?_ | refine zt2 ?_
        have ref : ∀ m : Mm, m 97 = mem 97 → m 98 = mem 98 → (((mem 97 s = 0 ∧ w2 = -1000000005) → False) → ∀ (KK : Int32 → Mm → Prop), B_X9_mark_60 (nI s) (nI k) w2 KK (nI s) (nI k) w2 m → W_X9_mark (nI s) (nI k) w2 m KK) := by
          intro m m97 m98 hno KK hb
          unfold W_X9_mark
          refine s9_sheet_y c0b ?_
          first | refine zt1 ?_ | refine zt2 ?_
          rw [m97, m98]
          refine ⟨s, rfl, by omega, ?_⟩
          first | refine ct1 d2 ?_ | refine ct2 d2 ?_
          refine ⟨s, rfl, by omega, ?_⟩
          rw [en]
          refine s_in_y (rng_y (by omega) hk) ?_
          first | refine zt1 ?_ | refine zt2 ?_
          refine ⟨s, rfl, by omega, ?_⟩
          rw [m97]
          refine ⟨fun _ => hb, fun z0 => ⟨fun _ => hb, fun z1 => absurd ⟨z0, z1⟩ hno⟩⟩
        rw [g1]
        by_cases e0 : mem 97 s = 0
        · first | refine ct1 e0 ?_ | refine ct2 e0 ?_
          by_cases e1 : w2 = -1000000005
          · first | refine ct1 e1 ?_ | refine ct2 e1 ?_
            show W_X9_mark _ _ _ _ _
            unfold W_X9_mark
            refine s9_sheet_y c0b ?_
            first | refine zt1 ?_ | refine zt2 ?_
            refine ⟨s, rfl, by omega, ?_⟩
            first | refine ct1 d2 ?_ | refine ct2 d2 ?_
            refine ⟨s, rfl, by omega, ?_⟩
            rw [en]
            refine s_in_y (rng_y (by omega) hk) ?_
            first | refine zt1 ?_ | refine zt2 ?_
            refine ⟨s, rfl, by omega, ?_⟩
            first | refine ct1 e0 ?_ | refine ct2 e0 ?_
            first | refine ct1 e1 ?_ | refine ct2 e1 ?_
            exact ⟨rfl, h.up⟩
          · first | refine cf1 e1 ?_ | refine cf2 e1 ?_
            refine ⟨k, rfl, by omega, fun m em => ?_⟩
            rw [em]
            refine ref _ (mu_row_n _ _ _ (by omega)) (mu_row_n _ _ _ (by omega)) (fun z => e1 z.2) _ ?_
            have m97 : mu mem (54 + 2 * s + 1) k w2.toInt16.toInt32 97 = mem 97 := mu_row_n _ _ _ (by omega)
            unfold B_X9_mark_60
            refine ⟨s, rfl, by omega, ?_⟩
            rw [m97, e0]
            first | refine cf1 (by decide) ?_ | refine cf2 (by decide) ?_
            unfold B_X9_mark_92
            refine ⟨s, rfl, by omega, ?_⟩
            rw [m97, e0]
            first | refine ct1 rfl ?_ | refine ct2 rfl ?_
            refine ⟨24 * s + k, ix_24 s k, by omega, fun m2 em2 => ⟨rfl, ?_⟩⟩
            rw [em2]
            exact mark_fin h (by omega) (by omega) (PlR.sho w2)
        · first | refine cf1 e0 ?_ | refine cf2 e0 ?_
          have e0b : mem 97 s = 1 := by
            rcases g3 with z | z | z
            · exact absurd z d1
            · exact absurd z e0
            · exact z
          have tail : ∀ x : Int32, PlR x w2 → (∀ (KK : Int32 → Mm → Prop) (m : Mm), m 97 = mem 97 → B_X9_mark_92 (nI s) (nI k) w2 KK (nI s) (nI k) w2 m → B_X9_mark_60 (nI s) (nI k) w2 KK (nI s) (nI k) w2 m) → ∀ m : Mm, m = mu mem (54 + 2 * s + 1) k x → W_X9_mark (nI s) (nI k) w2 m (fun v2 m2 => 1 = v2 ∧ Iv (c + 1) m2) := by
            intro x hx hb m em
            rw [em]
            refine ref _ (mu_row_n _ _ _ (by omega)) (mu_row_n _ _ _ (by omega)) (fun z => e0 z.1) _ ?_
            have m97 : mu mem (54 + 2 * s + 1) k x 97 = mem 97 := mu_row_n _ _ _ (by omega)
            refine hb _ _ m97 ?_
            unfold B_X9_mark_92
            refine ⟨s, rfl, by omega, ?_⟩
            rw [m97]
            first | refine cf1 e0 ?_ | refine cf2 e0 ?_
            refine ⟨24 * s + k, ix_24 s k, by omega, fun m2 em2 => ⟨rfl, ?_⟩⟩
            rw [em2]
            exact mark_fin h (by omega) (by omega) hx
          by_cases e1 : w2 = -1000000005
          · first | refine ct1 e1 ?_ | refine ct2 e1 ?_
            refine ⟨k, rfl, by omega, fun m em => tail w2 (Or.inl ⟨e1, e1⟩) (fun KK m m97 hb => ?_) m em⟩
            unfold B_X9_mark_60
            refine ⟨s, rfl, by omega, ?_⟩
            rw [m97]
            first | refine ct1 e0b ?_ | refine ct2 e0b ?_
            first | refine ct1 e1 ?_ | refine ct2 e1 ?_
            exact hb
          · first | refine cf1 e1 ?_ | refine cf2 e1 ?_
            by_cases e2 : -99999 ≤ w2 ∧ w2 ≤ 99999
            · refine s_iw_y e2 ?_
              first | refine zt1 ?_ | refine zt2 ?_
              refine ⟨k, rfl, by omega, fun m em => tail w2 (PlR.fin e2) (fun KK m m97 hb => ?_) m em⟩
              unfold B_X9_mark_60
              refine ⟨s, rfl, by omega, ?_⟩
              rw [m97]
              first | refine ct1 e0b ?_ | refine ct2 e0b ?_
              first | refine cf1 e1 ?_ | refine cf2 e1 ?_
              refine s_in_y e2 ?_
              first | refine zt1 ?_ | refine zt2 ?_
              exact hb
            · refine s_iw_n e2 ?_
              first | refine zf1 ?_ | refine zf2 ?_
              refine ref mem rfl rfl (fun z => e0 z.1) _ ?_
              unfold B_X9_mark_60
              refine ⟨s, rfl, by omega, ?_⟩
              first | refine ct1 e0b ?_ | refine ct2 e0b ?_
              first | refine cf1 e1 ?_ | refine cf2 e1 ?_
              refine s_in_n e2 ?_
              first | refine zf1 ?_ | refine zf2 ?_
              exact ⟨rfl, h.up⟩
  · refine s8_sheet_n c0 ?_
    first | refine zf1 ?_ | refine zf2 ?_
    show W_X9_mark _ _ _ _ _
    unfold W_X9_mark
    refine s9_sheet_n c0 ?_
    first | refine zf1 ?_ | refine zf2 ?_
    exact ⟨rfl, h.up⟩
/-! reads -/
def reF (a y : Nat → Int32) : Nat → Nat → Int32
  | 0, _ => -1000000005
  | r + 1, k => if y k = -1000000005 then reF a y r (k + 1) else if k < nm a then (if y k = a (7 + 6 * k + 2) then reF a y r (k + 1) else nI k) else nI k
theorem l_reads8 {k0 n : Nat} {a y : Nat → Int32} {p0 : Int32} {mem : Mm} {K : Int32 → Mm → Prop} (hn : n ≤ 24) (hw : Wm a) (hA : AlM mem 1 a) (hsz : mem k0 1 = nI n) (hy : ∀ k, k < 24 → PlR (mem (k0 + 1) k) (y k)) : ∀ (r k : Nat), k + r = n → K (reF a y r k) mem → L_X8_reads_29 p0 K (r + 1) k0 (nI k) mem := by
  intro r
  have h9 := hw.2.1
  have ek : mem 1 1 = nI (nm a) := by rw [hA.1]; exact hw.1
  induction r with
  | zero =>
    intro k hk hK
    unfold L_X8_reads_29
    exact ct1 (by rw [hsz]; exact nI_le (by omega) (by omega)) hK
  | succ r ih =>
    intro k hk hK
    have nx := ih (k + 1) (by omega)
    unfold L_X8_reads_29
    refine cf1 (by rw [hsz]; exact nI_ge (by omega) (by omega)) (s_isNum hsz hn (by omega) ?_)
    unfold reF at hK
    have hp := hy k (by omega)
    rw [nI_1]
    by_cases c1 : mem (k0 + 1) k = -1000000005
    · rw [decide_eq_false (fun z => z c1)]
      rw [if_pos (hp.no c1)] at hK
      exact zf1 (nx hK)
    · obtain ⟨x1, x2⟩ := hp.yes c1
      rw [decide_eq_true c1]
      rw [if_neg x2] at hK
      refine zt1 ?_
      by_cases c2 : k < nm a
      · rw [if_pos c2] at hK
        refine s_has_y ek h9 c2 (zt1 ⟨k, rfl, by omega, k, rfl, by omega, ?_⟩)
        rw [x1, hA.2 k 2 c2 (by omega)]
        refine ⟨fun hc => ?_, fun hc => ?_⟩
        · rw [if_pos hc] at hK; exact nx hK
        · rw [if_neg hc] at hK; exact hK
      · rw [if_neg c2] at hK
        exact s_has_n ek (Or.inr (nI_le (by omega) (by omega))) (zf1 hK)
theorem l_reads9 {s n : Nat} {p0 : Int32} {mem : Mm} {K : Int32 → Mm → Prop} (hs : s < 4) (hn : n ≤ 24) (hw : Wm (mem 83)) (hsz : mem 98 s = nI n) : ∀ (r k : Nat), k + r = n → K (reF (mem 83) (fun k => mem 99 (24 * s + k)) r k) mem → L_X9_reads_24 p0 K (r + 1) (nI s) (nI k) mem := by
  intro r
  have h9 := hw.2.1
  induction r with
  | zero =>
    intro k hk hK
    unfold L_X9_reads_24
    exact ⟨s, rfl, hs, ct1 (by rw [hsz]; exact nI_le (by omega) (by omega)) hK⟩
  | succ r ih =>
    intro k hk hK
    have nx := ih (k + 1) (by omega)
    unfold L_X9_reads_24
    refine ⟨s, rfl, hs, cf1 (by rw [hsz]; exact nI_ge (by omega) (by omega)) ⟨24 * s + k, ix_24 s k, by omega, ?_⟩⟩
    unfold reF at hK
    rw [nI_1]
    refine ⟨fun c1 => ?_, fun c1 => ?_⟩
    · rw [if_pos c1] at hK
      exact nx hK
    · rw [if_neg c1] at hK
      by_cases c2 : k < nm (mem 83)
      · rw [if_pos c2] at hK
        refine s_isMan_y hw.1 h9 c2 (zt1 (s_X9_of (i := k) (j := 2) (by omega) (by omega) ⟨fun hc => ?_, fun hc => ?_⟩))
        · rw [if_pos hc] at hK; exact nx hK
        · rw [if_neg hc] at hK; exact hK
      · rw [if_neg c2] at hK
        exact s_isMan_n hw.1 h9 (Or.inr (nI_le (by omega) (by omega))) (zf1 hK)
theorem ak_reads {c : Nat} (w0 : Int32) (mem : Mm) (h : Iv c mem) : W_X8_reads w0 mem (fun v m => W_X9_reads w0 m (fun v2 m2 => v = v2 ∧ Iv (c + 1) m2)) := by
  obtain ⟨hA, hR⟩ := h.1
  have hw := hR.1
  have hW := hR.2.1
  have h9 := hw.2.1
  have ek : mem 1 1 = nI (nm (mem 83)) := by rw [hA.1.1]; exact hw.1
  have h4 := h.2.2.2.1
  unfold W_X8_reads
  by_cases c0 : 0 ≤ w0 ∧ w0 ≤ 3
  · have c0b := c0
    obtain ⟨s, hs, rfl⟩ := Rg.of (y := 3) (n := 3) rfl c0
    obtain ⟨g1, g2, g3, g4, g5⟩ := h4 s (by omega)
    refine s8_sheet_y c0b ?_
    first | refine zt1 ?_ | refine zt2 ?_
    refine ⟨s, rfl, by omega, ?_⟩
    rcases srt_or g3 with ⟨d1, d2, d3⟩ | ⟨d1, d2, d3⟩
    · refine s_miss_y (g1.trans d1) ?_
      first | refine zt1 ?_ | refine zt2 ?_
      show W_X9_reads _ _ _
      unfold W_X9_reads
      refine s9_sheet_y c0b ?_
      first | refine zt1 ?_ | refine zt2 ?_
      refine ⟨s, rfl, by omega, ?_⟩
      first | refine cf1 d2 ?_ | refine cf2 d2 ?_
      exact ⟨rfl, h.up⟩
    · refine s_miss_n (by rw [g1]; exact d1) ?_
      first | refine zf1 ?_ | refine zf2 ?_
      obtain ⟨n, hn, en⟩ := g4
      refine ⟨n + 1, l_reads8 (a := mem 83) (y := fun k => mem 99 (24 * s + k)) hn hw hA.1 (g2.trans en) g5 n 0 (by omega) ?_⟩
      show W_X9_reads _ _ _
      unfold W_X9_reads
      refine s9_sheet_y c0b ?_
      first | refine zt1 ?_ | refine zt2 ?_
      refine ⟨s, rfl, by omega, ?_⟩
      first | refine ct1 d2 ?_ | refine ct2 d2 ?_
      exact ⟨n + 1, l_reads9 (by omega) hn hw en n 0 (by omega) ⟨rfl, h.up⟩⟩
  · refine s8_sheet_n c0 ?_
    first | refine zf1 ?_ | refine zf2 ?_
    show W_X9_reads _ _ _
    unfold W_X9_reads
    refine s9_sheet_n c0 ?_
    first | refine zf1 ?_ | refine zf2 ?_
    exact ⟨rfl, h.up⟩
/-! pour -/
theorem upd_same (f : Nat → Int32) (k : Nat) : upd f k (f k) = f := by
  funext j
  unfold upd
  split
  · rename_i hj; rw [hj]
  · rfl
def pvS (a y : Nat → Int32) (k : Nat) : Int32 := if y k = -1000000005 then a (7 + 6 * k + 1) else clampI (y k) 0 99
def poR (a y : Nat → Int32) : Nat → Rw
  | 0 => a
  | k + 1 => upd (poR a y k) (7 + 6 * k + 1) (pvS a y k)
def poC (a y : Nat → Int32) : Nat → Int32
  | 0 => 0
  | k + 1 => if a (7 + 6 * k + 1) = pvS a y k then poC a y k else poC a y k + 1
theorem poR_k {a y : Nat → Int32} {n q : Nat} (hq : q < 7 ∨ n ≤ (q - 7) / 6 ∨ (q - 7) % 6 ≠ 1) : poR a y n q = a q := by
  induction n with
  | zero => rfl
  | succ n ih =>
    unfold poR
    rw [pk_un (by omega)]
    exact ih (by omega)
theorem poR_w {a y : Nat → Int32} (hw : WfR a) : ∀ n, n ≤ nm a → WfR (poR a y n) := by
  intro n
  have h9 := hw.1.2.1
  induction n with
  | zero => intro _; exact hw
  | succ n ih =>
    intro hn
    refine (ih (by omega)).set (by omega) (by omega) ?_
    unfold pvS
    split
    · exact hw.1.2.2 n 1 (by omega) (by omega)
    · exact clamp_rg _
theorem poR_n (a y : Nat → Int32) (n : Nat) : nm (poR a y n) = nm a := by
  unfold nm
  rw [poR_k (by omega)]
set_option maxHeartbeats 4000000 in
theorem l_pour8 {s n N : Nat} {a y : Nat → Int32} {p0 : Int32} {m0 : Mm} {K : Int32 → Mm → Prop} (hs : s < 4) (hn : n ≤ 24) (hN : N = min n (nm a)) (hw : Wm a) (hsz : m0 (54 + 2 * s) 1 = nI n) (hy : ∀ k, k < 24 → PlR (m0 (54 + 2 * s + 1) k) (y k)) (hK : ∀ m, Fr (PAl 1) m0 m → AlA m 1 (poR a y N) → K (poC a y N) m) : ∀ (r k : Nat) (m : Mm), k + r = N → Fr (PAl 1) m0 m → AlA m 1 (poR a y k) → L_X8_pour_32 p0 K (r + 1) (54 + 2 * s) (poC a y k) (nI k) m := by
  intro r
  have h9 := hw.2.1
  have hl1 : N ≤ n := by rw [hN]; exact Nat.min_le_left _ _
  have hl2 : N ≤ nm a := by rw [hN]; exact Nat.min_le_right _ _
  induction r with
  | zero =>
    intro k m hk hF hA
    have c0 : k = N := by omega
    subst c0
    have kk := hK m hF hA
    have e1 : m 1 1 = nI (nm a) := by rw [hA.1.1, poR_k (by omega)]; exact hw.1
    have e2 : m (54 + 2 * s) 1 = nI n := by rw [hF.c _ (by omega) (by omega)]; exact hsz
    unfold L_X8_pour_32
    rw [e1, e2]
    refine ⟨fun _ => kk, fun hc => ?_⟩
    refine ct1 (nI_le ?_ (by omega)) kk
    by_cases c1 : n ≤ k
    · exact c1
    · exfalso
      have c2 : nm a ≤ k := by
        rw [hN] at c1 ⊢
        have := Nat.le_total n (nm a)
        rcases this with t | t
        · rw [Nat.min_eq_left t] at c1; omega
        · rw [Nat.min_eq_right t]; exact Nat.le_refl _
      exact hc (nI_le c2 (by omega))
  | succ r ih =>
    intro k m hk hF hA
    have e1 : m 1 1 = nI (nm a) := by rw [hA.1.1, poR_k (by omega)]; exact hw.1
    have e2 : m (54 + 2 * s) 1 = nI n := by rw [hF.c _ (by omega) (by omega)]; exact hsz
    have e3 : m (54 + 2 * s + 1) = m0 (54 + 2 * s + 1) := hF.c _ (by omega) (by omega)
    have hp := hy k (by omega)
    have ev1 : m (1 + 4 + k) 1 = a (7 + 6 * k + 1) := by rw [hA.1.2 k 1 (by rw [poR_n]; omega) (by omega), poR_k (by omega)]
    unfold L_X8_pour_32
    refine cf1 (by rw [e1]; exact nI_ge (by omega) (by omega)) (cf1 (by rw [e2]; exact nI_ge (by omega) (by omega)) (s_isNum e2 hn (by omega) ?_))
    rw [e3, nI_1]
    by_cases c1 : m0 (54 + 2 * s + 1) k = -1000000005
    · rw [decide_eq_false (fun z => z c1)]
      have yv : pvS a y k = a (7 + 6 * k + 1) := by unfold pvS; rw [if_pos (hp.no c1)]
      have nx := ih (k + 1) m (by omega) hF (by
        show AlA m 1 (upd (poR a y k) (7 + 6 * k + 1) (pvS a y k))
        have z1 : poR a y k (7 + 6 * k + 1) = a (7 + 6 * k + 1) := poR_k (by omega)
        rw [yv, ← z1, upd_same]
        exact hA)
      unfold poC at nx
      rw [yv, if_pos rfl] at nx
      exact zf1 nx
    · obtain ⟨x1, x2⟩ := hp.yes c1
      rw [decide_eq_true c1]
      have yv : pvS a y k = clampI (y k) 0 99 := by unfold pvS; rw [if_neg x2]
      refine zt1 ⟨k, rfl, by omega, ?_⟩
      rw [x1]
      refine s_held ⟨k, rfl, by omega, ?_⟩
      rw [ev1]
      have nx : ∀ m2 : Mm, m2 = mu m (1 + 4 + k) 1 (clampI (y k) 0 99) → L_X8_pour_32 p0 K (r + 1) (54 + 2 * s) (poC a y (k + 1)) (nI (k + 1)) m2 := by
        intro m2 em2
        refine ih (k + 1) m2 (by omega) ?_ ?_
        · rw [em2]; exact hF.trans (Fr.m1 _ _ _ ⟨by omega, by omega⟩ (by omega))
        · rw [em2, ← yv]
          exact hA.man (by omega) (by omega) (by rw [poR_n]; exact h9) (by rw [poR_n]; omega) (by omega)
      unfold poC at nx
      rw [yv] at nx
      refine ⟨fun hc => ⟨k, rfl, by omega, fun m2 em2 => ?_⟩, fun hc => ⟨k, rfl, by omega, fun m2 em2 => ?_⟩⟩
      · rw [if_pos hc.symm] at nx; exact nx m2 em2
      · rw [if_neg (fun z => hc z.symm)] at nx; exact nx m2 em2
set_option maxHeartbeats 4000000 in
theorem l_pour9 {s n N : Nat} {a y : Nat → Int32} {p0 : Int32} {m0 : Mm} {K : Int32 → Mm → Prop} (hs : s < 4) (hn : n ≤ 24) (hN : N = min n (nm a)) (hw : Wm a) (hsz : m0 98 s = nI n) (hy : ∀ k, k < 24 → m0 99 (24 * s + k) = y k) (hK : ∀ m, Fr (fun q => q = 83) m0 m → m 83 = poR a y N → K (poC a y N) m) : ∀ (r k : Nat) (m : Mm), k + r = N → Fr (fun q => q = 83) m0 m → m 83 = poR a y k → L_X9_pour_26 p0 K (r + 1) (nI s) (poC a y k) (nI k) m := by
  intro r
  have h9 := hw.2.1
  have hl1 : N ≤ n := by rw [hN]; exact Nat.min_le_left _ _
  have hl2 : N ≤ nm a := by rw [hN]; exact Nat.min_le_right _ _
  induction r with
  | zero =>
    intro k m hk hF hA
    have c0 : k = N := by omega
    subst c0
    have kk := hK m hF hA
    have e1 : m 83 1 = nI (nm a) := by rw [hA, poR_k (by omega)]; exact hw.1
    have e2 : m 98 s = nI n := by rw [hF.c _ (by omega) (by omega)]; exact hsz
    unfold L_X9_pour_26
    refine ⟨s, rfl, hs, ?_⟩
    rw [e1, e2]
    refine ⟨fun _ => kk, fun hc => ?_⟩
    refine ct1 (nI_le ?_ (by omega)) kk
    by_cases c1 : nm a ≤ k
    · exact c1
    · exfalso
      have c2 : n ≤ k := by
        rw [hN] at c1 ⊢
        have := Nat.le_total n (nm a)
        rcases this with t | t
        · rw [Nat.min_eq_left t]; exact Nat.le_refl _
        · rw [Nat.min_eq_right t] at c1; omega
      exact hc (nI_le c2 (by omega))
  | succ r ih =>
    intro k m hk hF hA
    have e1 : m 83 1 = nI (nm a) := by rw [hA, poR_k (by omega)]; exact hw.1
    have e2 : m 98 s = nI n := by rw [hF.c _ (by omega) (by omega)]; exact hsz
    have e3 : m 99 (24 * s + k) = y k := by rw [hF.c 99 (by omega) (by omega)]; exact hy k (by omega)
    have ev1 : m 83 (7 + 6 * k + 1) = a (7 + 6 * k + 1) := by rw [hA, poR_k (by omega)]
    unfold L_X9_pour_26
    refine ⟨s, rfl, hs, cf1 (by rw [e2]; exact nI_ge (by omega) (by omega)) (cf1 (by rw [e1]; exact nI_ge (by omega) (by omega)) ⟨24 * s + k, ix_24 s k, by omega, ?_⟩)⟩
    rw [e3]
    have nx : ∀ v : Int32, v = pvS a y k → B_X9_pour_83 p0 (fun zl1 zl2 zl3 zm => L_X9_pour_26 p0 K (r + 1) zl1 zl2 zl3 zm) K (nI s) (poC a y k) (nI k) v m := by
      intro v ev2
      unfold B_X9_pour_83
      have ei : (7 + 6 * nI k) + 1 = nI (7 + 6 * k + 1) := ix_man k 1
      rw [ei]
      refine s_swaps (by omega) ?_
      rw [ev1, ev2, nI_1]
      have z := ih (k + 1) (mu m 83 (7 + 6 * k + 1) (pvS a y k)) (by omega) (hF.trans (Fr.m1 _ _ _ rfl (by omega))) (by rw [mu_row_s, hA]; rfl)
      unfold poC at z
      refine ⟨fun hc => ?_, fun hc => ?_⟩
      · rw [if_neg hc] at z; exact z
      · rw [if_pos hc] at z; rw [Int32.add_zero]; exact z
    refine ⟨fun hc => s_X9_within (nx _ ?_), fun hc => ?_⟩
    · unfold pvS; rw [if_neg hc]
    · refine s_X9_of (i := k) (j := 1) (by omega) (by omega) (nx _ ?_)
      rw [ev1]; unfold pvS; rw [if_pos hc]
theorem ak_pour {c : Nat} (w0 : Int32) (mem : Mm) (h : Iv c mem) : W_X8_pour w0 mem (fun v m => W_X9_pour w0 m (fun v2 m2 => v = v2 ∧ Iv (c + 1) m2)) := by
  obtain ⟨hA, hR⟩ := h.1
  have hw := hR.1
  have hW := hR.2.1
  have h9 := hw.2.1
  have ek : mem 1 1 = nI (nm (mem 83)) := by rw [hA.1.1]; exact hw.1
  have h4 := h.2.2.2.1
  unfold W_X8_pour
  by_cases c0 : 0 ≤ w0 ∧ w0 ≤ 3
  · have c0b := c0
    obtain ⟨s, hs, rfl⟩ := Rg.of (y := 3) (n := 3) rfl c0
    obtain ⟨g1, g2, g3, g4, g5⟩ := h4 s (by omega)
    refine s8_sheet_y c0b ?_
    first | refine zt1 ?_ | refine zt2 ?_
    refine ⟨s, rfl, by omega, ?_⟩
    rcases srt_or g3 with ⟨d1, d2, d3⟩ | ⟨d1, d2, d3⟩
    · refine s_miss_y (g1.trans d1) ?_
      first | refine zt1 ?_ | refine zt2 ?_
      show W_X9_pour _ _ _
      unfold W_X9_pour
      refine s9_sheet_y c0b ?_
      first | refine zt1 ?_ | refine zt2 ?_
      refine ⟨s, rfl, by omega, ?_⟩
      first | refine cf1 d2 ?_ | refine cf2 d2 ?_
      exact ⟨rfl, h.up⟩
    · refine s_miss_n (by rw [g1]; exact d1) ?_
      first | refine zf1 ?_ | refine zf2 ?_
      obtain ⟨n, hn, en⟩ := g4
      refine ⟨min n (nm (mem 83)) + 1, l_pour8 (a := mem 83) (y := fun k => mem 99 (24 * s + k)) (by omega) hn rfl hw (g2.trans en) g5 (fun m f1 A1 => ?_) (min n (nm (mem 83))) 0 mem (by omega) (Fr.refl _ _) hA⟩
      have q83 : m 83 = mem 83 := f1.c 83 (by omega) (by omega)
      have q97 : m 97 = mem 97 := f1.c 97 (by omega) (by omega)
      have q98 : m 98 = mem 98 := f1.c 98 (by omega) (by omega)
      have q99 : m 99 = mem 99 := f1.c 99 (by omega) (by omega)
      show W_X9_pour _ _ _
      unfold W_X9_pour
      refine s9_sheet_y c0b ?_
      first | refine zt1 ?_ | refine zt2 ?_
      refine ⟨s, rfl, by omega, ?_⟩
      rw [q97]
      first | refine ct1 d2 ?_ | refine ct2 d2 ?_
      refine ⟨min n (nm (mem 83)) + 1, l_pour9 (a := mem 83) (y := fun k => mem 99 (24 * s + k)) (by omega) hn rfl hw (by rw [q98]; exact en) (fun k hk => by rw [q99]) (fun m2 f2 e2 => ⟨rfl, ?_⟩) (min n (nm (mem 83))) 0 m (by omega) (Fr.refl _ _) q83⟩
      exact fin1 h (fC f1) A1 (f2.mono (fun q hq => by omega)) e2 (poR_w hR _ (Nat.min_le_right _ _))
  · refine s8_sheet_n c0 ?_
    first | refine zf1 ?_ | refine zf2 ?_
    show W_X9_pour _ _ _
    unfold W_X9_pour
    refine s9_sheet_n c0 ?_
    first | refine zf1 ?_ | refine zf2 ?_
    exact ⟨rfl, h.up⟩
