/-! counts, texts that count, images, what is behind some goes -/
theorem ak_count {c : Nat} (w0 : Int32) (mem : Mm) (h : Iv c mem) : W_X8_count w0 mem (fun v m => W_X9_count w0 m (fun v2 m2 => v = v2 ∧ Iv (c + 1) m2)) := by
  obtain ⟨hA, hR⟩ := h.1
  have hw := hR.1
  have hW := hR.2.1
  have h9 := hw.2.1
  have ek : mem 1 1 = nI (nm (mem 83)) := by rw [hA.1.1]; exact hw.1
  unfold W_X8_count W_X9_count
  by_cases e0q : w0 = 0
  · first | refine ct1 e0q ?_ | refine ct2 e0q ?_
    first | refine ct1 e0q ?_ | refine ct2 e0q ?_
    exact ⟨hA.1.1, h.up⟩
  by_cases e1q : w0 = 1
  · first | refine cf1 e0q ?_ | refine cf2 e0q ?_
    first | refine ct1 e1q ?_ | refine ct2 e1q ?_
    first | refine cf1 e0q ?_ | refine cf2 e0q ?_
    first | refine ct1 e1q ?_ | refine ct2 e1q ?_
    exact ⟨hA.2.1.2.2.2.1, h.up⟩
  by_cases e2q : w0 = 2
  · first | refine cf1 e0q ?_ | refine cf2 e0q ?_
    first | refine cf1 e1q ?_ | refine cf2 e1q ?_
    first | refine ct1 e2q ?_ | refine ct2 e2q ?_
    refine s_X0_standing hw hA.1 ?_
    first | refine cf1 e0q ?_ | refine cf2 e0q ?_
    first | refine cf1 e1q ?_ | refine cf2 e1q ?_
    first | refine ct1 e2q ?_ | refine ct2 e2q ?_
    exact s_X9_standing hw (s_bits (stS_lt hw) ⟨rfl, h.up⟩)
  by_cases e3q : w0 = 3
  · first | refine cf1 e0q ?_ | refine cf2 e0q ?_
    first | refine cf1 e1q ?_ | refine cf2 e1q ?_
    first | refine cf1 e2q ?_ | refine cf2 e2q ?_
    first | refine ct1 e3q ?_ | refine ct2 e3q ?_
    first | refine cf1 e0q ?_ | refine cf2 e0q ?_
    first | refine cf1 e1q ?_ | refine cf2 e1q ?_
    first | refine cf1 e2q ?_ | refine cf2 e2q ?_
    first | refine ct1 e3q ?_ | refine ct2 e3q ?_
    exact ⟨hA.2.2.1, h.up⟩
  by_cases e4q : w0 = 4
  · first | refine cf1 e0q ?_ | refine cf2 e0q ?_
    first | refine cf1 e1q ?_ | refine cf2 e1q ?_
    first | refine cf1 e2q ?_ | refine cf2 e2q ?_
    first | refine cf1 e3q ?_ | refine cf2 e3q ?_
    first | refine ct1 e4q ?_ | refine ct2 e4q ?_
    first | refine cf1 e0q ?_ | refine cf2 e0q ?_
    first | refine cf1 e1q ?_ | refine cf2 e1q ?_
    first | refine cf1 e2q ?_ | refine cf2 e2q ?_
    first | refine cf1 e3q ?_ | refine cf2 e3q ?_
    first | refine ct1 e4q ?_ | refine ct2 e4q ?_
    exact ⟨h.2.2.2.2.2.1.1, h.up⟩
  by_cases e5q : w0 = 5
  · first | refine cf1 e0q ?_ | refine cf2 e0q ?_
    first | refine cf1 e1q ?_ | refine cf2 e1q ?_
    first | refine cf1 e2q ?_ | refine cf2 e2q ?_
    first | refine cf1 e3q ?_ | refine cf2 e3q ?_
    first | refine cf1 e4q ?_ | refine cf2 e4q ?_
    first | refine ct1 e5q ?_ | refine ct2 e5q ?_
    first | refine cf1 e0q ?_ | refine cf2 e0q ?_
    first | refine cf1 e1q ?_ | refine cf2 e1q ?_
    first | refine cf1 e2q ?_ | refine cf2 e2q ?_
    first | refine cf1 e3q ?_ | refine cf2 e3q ?_
    first | refine cf1 e4q ?_ | refine cf2 e4q ?_
    first | refine ct1 e5q ?_ | refine ct2 e5q ?_
    exact ⟨h.2.2.1.1, h.up⟩
  by_cases e6q : w0 = 6
  · first | refine cf1 e0q ?_ | refine cf2 e0q ?_
    first | refine cf1 e1q ?_ | refine cf2 e1q ?_
    first | refine cf1 e2q ?_ | refine cf2 e2q ?_
    first | refine cf1 e3q ?_ | refine cf2 e3q ?_
    first | refine cf1 e4q ?_ | refine cf2 e4q ?_
    first | refine cf1 e5q ?_ | refine cf2 e5q ?_
    first | refine ct1 e6q ?_ | refine ct2 e6q ?_
    first | refine cf1 e0q ?_ | refine cf2 e0q ?_
    first | refine cf1 e1q ?_ | refine cf2 e1q ?_
    first | refine cf1 e2q ?_ | refine cf2 e2q ?_
    first | refine cf1 e3q ?_ | refine cf2 e3q ?_
    first | refine cf1 e4q ?_ | refine cf2 e4q ?_
    first | refine cf1 e5q ?_ | refine cf2 e5q ?_
    first | refine ct1 e6q ?_ | refine ct2 e6q ?_
    exact ⟨hA.2.1.2.2.2.2, h.up⟩
  first | refine cf1 e0q ?_ | refine cf2 e0q ?_
  first | refine cf1 e1q ?_ | refine cf2 e1q ?_
  first | refine cf1 e2q ?_ | refine cf2 e2q ?_
  first | refine cf1 e3q ?_ | refine cf2 e3q ?_
  first | refine cf1 e4q ?_ | refine cf2 e4q ?_
  first | refine cf1 e5q ?_ | refine cf2 e5q ?_
  first | refine cf1 e6q ?_ | refine cf2 e6q ?_
  first | refine cf1 e0q ?_ | refine cf2 e0q ?_
  first | refine cf1 e1q ?_ | refine cf2 e1q ?_
  first | refine cf1 e2q ?_ | refine cf2 e2q ?_
  first | refine cf1 e3q ?_ | refine cf2 e3q ?_
  first | refine cf1 e4q ?_ | refine cf2 e4q ?_
  first | refine cf1 e5q ?_ | refine cf2 e5q ?_
  first | refine cf1 e6q ?_ | refine cf2 e6q ?_
  exact ⟨rfl, h.up⟩
theorem ak_why {c : Nat} (w0 : Int32) (mem : Mm) (h : Iv c mem) : W_X8_why w0 mem (fun v m => W_X9_why w0 m (fun v2 m2 => v = v2 ∧ Iv (c + 1) m2)) := by
  obtain ⟨hA, hR⟩ := h.1
  have hw := hR.1
  have hW := hR.2.1
  have h9 := hw.2.1
  have ek : mem 1 1 = nI (nm (mem 83)) := by rw [hA.1.1]; exact hw.1
  have h14 := hW.2.1
  unfold W_X8_why W_X9_why
  by_cases c0 : 0 ≤ w0 ∧ w0 ≤ 2
  · have c0b := c0
    obtain ⟨z, hz, rfl⟩ := Rg.of (y := 2) (n := 2) rfl c0
    refine s_iw_y c0b ?_
    first | refine zt1 ?_ | refine zt2 ?_
    refine ⟨z, rfl, by omega, ?_⟩
    refine s_in_y c0b ?_
    first | refine zt1 ?_ | refine zt2 ?_
    refine s_counts hW ?_
    have ew : mem (1 + 3) z = whN (ctS (mem 83) z) := hA.2.2.2.2 z (by omega)
    rw [ew]
    unfold whN
    refine ⟨fun hc => ⟨?_, h.up⟩, fun hc => ⟨?_, h.up⟩⟩
    · rw [if_neg (Int32.not_lt.mpr hc)]
    · rw [if_pos (Int32.not_le.mp hc)]
  · refine s_iw_n c0 ?_
    first | refine zf1 ?_ | refine zf2 ?_
    refine s_in_n c0 ?_
    first | refine zf1 ?_ | refine zf2 ?_
    exact ⟨rfl, h.up⟩
theorem rng_y {n i : Nat} (hn : n ≤ 1000) (hi : i < n) : 0 ≤ nI i ∧ nI i ≤ nI n - 1 := by
  refine ⟨nI_pos' (by omega), ?_⟩
  rw [show (1 : Int32) = nI 1 from rfl, pk_sub (by omega)]
  exact nI_le (by omega) (by omega)
theorem rng_n {n : Nat} {p : Int32} (hn : n ≤ 1000) (hp : p < 0 ∨ nI n ≤ p) : ¬ (0 ≤ p ∧ p ≤ nI n - 1) := by
  intro z
  have z0 : (0 : Int32).toInt = 0 := rfl
  have z1 := z.1
  have z2 := z.2
  rw [Int32.le_iff_toInt_le, z0] at z1
  rw [Int32.le_iff_toInt_le, show (1 : Int32) = nI 1 from rfl, pk_sub_toInt (by omega) (by omega)] at z2
  rcases hp with hp | hp
  · rw [Int32.lt_iff_toInt_lt, z0] at hp
    omega
  · rw [Int32.le_iff_toInt_le, nI_toInt (by omega)] at hp
    omega
theorem ak_textTold {c : Nat} (w0 w1 : Int32) (mem : Mm) (h : Iv c mem) : W_X8_textTold w0 w1 mem (fun v m => W_X9_textTold w0 w1 m (fun v2 m2 => v = v2 ∧ Iv (c + 1) m2)) := by
  obtain ⟨hA, hR⟩ := h.1
  have hw := hR.1
  have hW := hR.2.1
  have h9 := hw.2.1
  have ek : mem 1 1 = nI (nm (mem 83)) := by rw [hA.1.1]; exact hw.1
  have h14 := hW.2.1
  unfold W_X8_textTold
  rw [hA.2.2.1, hW.1]
  have ho : (w0 < 0 ∨ nI (nt (mem 83)) ≤ w0) ∨ ∃ t, t < nt (mem 83) ∧ w0 = nI t := by
    rcases pk_ix w0 (n := nt (mem 83)) (by omega) with q | q | q
    · exact Or.inl (Or.inl q)
    · exact Or.inl (Or.inr q)
    · exact Or.inr q
  rcases ho with hn | ⟨t, ht, rfl⟩
  · refine s_iw_n (rng_n (by omega) hn) ?_
    first | refine zf1 ?_ | refine zf2 ?_
    show W_X9_textTold _ _ _ _
    unfold W_X9_textTold
    rw [hW.1]
    refine s_in_n (rng_n (by omega) hn) ?_
    first | refine zf1 ?_ | refine zf2 ?_
    exact ⟨rfl, h.up⟩
  · refine s_iw_y (rng_y (by omega) ht) ?_
    first | refine zt1 ?_ | refine zt2 ?_
    by_cases c1 : 0 ≤ w1 ∧ w1 ≤ 1
    · refine s_iw_y c1 ?_
      first | refine zt1 ?_ | refine zt2 ?_
      refine ⟨t, rfl, by omega, ?_⟩
      obtain ⟨jj, t1, t2, t3, t4, t5, t6⟩ := hA.2.2.2.1 t ht
      have t1b : mem (1 + 2) t = nI jj := t1
      rw [t1b, nI_clamp (by omega)]
      first | refine cf1 (nI_pos (by omega)) ?_ | refine cf2 (nI_pos (by omega)) ?_
      refine ⟨fun e1 => ⟨t2, ?_⟩, fun e1 => ⟨t2, ?_⟩⟩
      · show W_X9_textTold _ _ _ _
        unfold W_X9_textTold
        rw [hW.1]
        refine s_in_y (rng_y (by omega) ht) ?_
        first | refine zt1 ?_ | refine zt2 ?_
        refine s_in_y c1 ?_
        first | refine zt1 ?_ | refine zt2 ?_
        first | refine cf1 e1 ?_ | refine cf2 e1 ?_
        refine ⟨62 + 2 * t, ?_, by omega, t5, h.up⟩
        rw [ix_2, nI_1]
        exact congrArg nI (by omega)
      · show W_X9_textTold _ _ _ _
        unfold W_X9_textTold
        rw [hW.1]
        refine s_in_y (rng_y (by omega) ht) ?_
        first | refine zt1 ?_ | refine zt2 ?_
        refine s_in_y c1 ?_
        first | refine zt1 ?_ | refine zt2 ?_
        first | refine ct1 e1 ?_ | refine ct2 e1 ?_
        exact ⟨61 + 2 * t, ix_2 t, by omega, t4, h.up⟩
    · refine s_iw_n c1 ?_
      first | refine zf1 ?_ | refine zf2 ?_
      show W_X9_textTold _ _ _ _
      unfold W_X9_textTold
      rw [hW.1]
      refine s_in_y (rng_y (by omega) ht) ?_
      first | refine zt1 ?_ | refine zt2 ?_
      refine s_in_n c1 ?_
      first | refine zf1 ?_ | refine zf2 ?_
      exact ⟨rfl, h.up⟩
theorem ak_fee {c : Nat} (mem : Mm) (h : Iv c mem) : W_X8_fee mem (fun v m => W_X9_fee m (fun v2 m2 => v = v2 ∧ Iv (c + 1) m2)) := by
  obtain ⟨hA, hR⟩ := h.1
  have hw := hR.1
  have hW := hR.2.1
  have h9 := hw.2.1
  have ek : mem 1 1 = nI (nm (mem 83)) := by rw [hA.1.1]; exact hw.1
  have h14 := hW.2.1
  have ref : ∀ (v : Int32) (m : Mm), Fr (fun _ => False) mem m → (v = if ctS (mem 83) 1 < 0 then mem 83 3 else evT (mem 83) (ctS (mem 83) 1).toNatClampNeg (ch4 (mem 83 3) (mem 83 4) 0 0)) → W_X9_fee m (fun v2 m2 => v = v2 ∧ Iv (c + 1) m2) := by
    intro v m f1 ev1
    have q1 : m 83 = mem 83 := f1.c 83 (by omega) (fun z => z)
    unfold W_X9_fee
    refine s_counts (key := 1) (by rw [q1]; exact hW) (fun m1 e1 m2 e2 => ?_)
    have g1 : m1 83 = mem 83 := by rw [e1, mu_row_n _ _ _ (by omega)]; exact q1
    have g2 : m2 83 = mem 83 := by rw [e2, mu_row_n _ _ _ (by omega)]; exact g1
    have f2 : Fr P956 m m2 := by rw [e2, e1]; exact (Fr.m1 _ _ _ (Or.inr rfl) (by omega)).trans (Fr.m1 _ _ _ (Or.inr rfl) (by omega))
    have r0 : m2 96 0 = mem 83 3 := by rw [e2, mu_row_s, pk_un (by omega), e1, mu_row_s, pk_us, q1]
    have r1 : m2 96 1 = mem 83 4 := by rw [e2, mu_row_s, pk_us, g1]
    rw [q1]
    rcases ctN_or (mem 83) 1 (nt (mem 83)) with hc | ⟨t, ht, hc, hkey⟩
    · have hc2 : ctS (mem 83) 1 = -1 := hc
      rw [hc2] at ev1 ⊢
      refine cf1 (by decide) ⟨?_, h.sc ((f1.mono (fun q hq => hq.elim)).trans (f2.mono (fun q hq => by omega)))⟩
      rw [ev1, if_pos (by decide), g2]
    · have hc2 : ctS (mem 83) 1 = nI t := hc
      rw [hc2] at ev1 ⊢
      refine ct1 (nI_pos' (by omega)) (s_worksOut (by rw [g2]; exact hW) (by rw [g2]; exact ht) (fun m3 f3 => ⟨?_, h.sc ((f1.mono (fun q hq => hq.elim)).trans ((f2.mono (fun q hq => by omega)).trans (f3.mono (fun q hq => by omega))))⟩))
      rw [ev1, if_neg (nI_pos (by omega)), nI_clamp (by omega), g2]
      refine evT_f hW ht hkey (by omega) (fun z hz => ?_)
      have hz2 : z < 2 := hz
      have c2 : z = 0 ∨ z = 1 := by omega
      rcases c2 with rfl | rfl
      · rw [r0]; rfl
      · rw [r1]; rfl
  unfold W_X8_fee
  rcases ctN_or (mem 83) 1 (nt (mem 83)) with hc | ⟨t, ht, hc, hkey⟩
  · have hc2 : ctS (mem 83) 1 < 0 := by show ctN (mem 83) 1 (nt (mem 83)) < 0; rw [hc]; decide
    refine s_counted_n (key := 1) hA.2.2 (by omega) hc2 (ct1 (by decide) (ref _ mem (Fr.refl _ _) ?_))
    rw [if_pos hc2]
    exact hA.2.1.1
  · have hc2 : ctS (mem 83) 1 = nI t := hc
    refine s_counted_y (key := 1) hW hA.2.2 (by omega) ht hc2 ?_
    rw [hA.2.1.1, hA.2.1.2.1]
    obtain ⟨g1, g2, g3⟩ := s_gives (x0 := mem 83 3) (x1 := mem 83 4) (x2 := 0) (x3 := 0) (K := fun v m => W_X9_fee m (fun v2 m2 => v = v2 ∧ Iv (c + 1) m2)) hW hA.2.2 ht (fun m hm => ref _ m hm (by rw [hc2, if_neg (nI_pos (by omega)), nI_clamp (by omega)]))
    exact cf1 g1 ⟨g2, g3⟩
theorem ak_fine {c : Nat} (w0 : Int32) (mem : Mm) (h : Iv c mem) : W_X8_fine w0 mem (fun v m => W_X9_fine w0 m (fun v2 m2 => v = v2 ∧ Iv (c + 1) m2)) := by
  obtain ⟨hA, hR⟩ := h.1
  have hw := hR.1
  have hW := hR.2.1
  have h9 := hw.2.1
  have ek : mem 1 1 = nI (nm (mem 83)) := by rw [hA.1.1]; exact hw.1
  have h14 := hW.2.1
  rcases man_or hw w0 with hn | ⟨i, hi, rfl⟩
  · unfold W_X8_fine W_X9_fine
    refine s_has_n ek hn ?_
    first | refine zf1 ?_ | refine zf2 ?_
    refine s_isMan_n hw.1 h9 hn ?_
    first | refine zf1 ?_ | refine zf2 ?_
    exact ⟨rfl, h.up⟩
  have ref : ∀ (v : Int32) (m : Mm), Fr (fun _ => False) mem m → (v = if ctS (mem 83) 2 < 0 then mem 83 (7 + 6 * i + 1) else evT (mem 83) (ctS (mem 83) 2).toNatClampNeg (ch4 (mem 83 (7 + 6 * i + 1)) (mem 83 (7 + 6 * i + 2)) 0 0)) → W_X9_fine (nI i) m (fun v2 m2 => v = v2 ∧ Iv (c + 1) m2) := by
    intro v m f1 ev1
    have q1 : m 83 = mem 83 := f1.c 83 (by omega) (fun z => z)
    unfold W_X9_fine
    refine s_isMan_y (n := nm (mem 83)) (by rw [q1]; exact hw.1) h9 hi ?_
    first | refine zt1 ?_ | refine zt2 ?_
    refine s_counts (key := 2) (by rw [q1]; exact hW) ?_
    refine s_X9_of (i := i) (j := 1) (by omega) (by omega) (fun m1 e1 => ?_)
    have g1 : m1 83 = mem 83 := by rw [e1, mu_row_n _ _ _ (by omega)]; exact q1
    refine s_X9_of (i := i) (j := 2) (by omega) (by omega) (fun m2 e2 => ?_)
    have g2 : m2 83 = mem 83 := by rw [e2, mu_row_n _ _ _ (by omega)]; exact g1
    have f2 : Fr P956 m m2 := by rw [e2, e1]; exact (Fr.m1 _ _ _ (Or.inr rfl) (by omega)).trans (Fr.m1 _ _ _ (Or.inr rfl) (by omega))
    have r0 : m2 96 0 = mem 83 (7 + 6 * i + 1) := by rw [e2, mu_row_s, pk_un (by omega), e1, mu_row_s, pk_us, q1]
    have r1 : m2 96 1 = mem 83 (7 + 6 * i + 2) := by rw [e2, mu_row_s, pk_us, g1]
    rw [q1]
    rcases ctN_or (mem 83) 2 (nt (mem 83)) with hc | ⟨t, ht, hc, hkey⟩
    · have hc2 : ctS (mem 83) 2 = -1 := hc
      rw [hc2] at ev1 ⊢
      refine cf1 (by decide) ?_
      refine s_X9_of (i := i) (j := 1) (by omega) (by omega) ⟨?_, h.sc ((f1.mono (fun q hq => hq.elim)).trans (f2.mono (fun q hq => by omega)))⟩
      rw [ev1, if_pos (by decide), g2]
    · have hc2 : ctS (mem 83) 2 = nI t := hc
      rw [hc2] at ev1 ⊢
      refine ct1 (nI_pos' (by omega)) (s_worksOut (by rw [g2]; exact hW) (by rw [g2]; exact ht) (fun m3 f3 => ⟨?_, h.sc ((f1.mono (fun q hq => hq.elim)).trans ((f2.mono (fun q hq => by omega)).trans (f3.mono (fun q hq => by omega))))⟩))
      rw [ev1, if_neg (nI_pos (by omega)), nI_clamp (by omega), g2]
      refine evT_f hW ht hkey (by omega) (fun z hz => ?_)
      have hz2 : z < 2 := hz
      have c2 : z = 0 ∨ z = 1 := by omega
      rcases c2 with rfl | rfl
      · rw [r0]; rfl
      · rw [r1]; rfl
  unfold W_X8_fine
  refine s_has_y ek h9 hi ?_
  first | refine zt1 ?_ | refine zt2 ?_
  refine ⟨i, rfl, by omega, ?_⟩
  rcases ctN_or (mem 83) 2 (nt (mem 83)) with hc | ⟨t, ht, hc, hkey⟩
  · have hc2 : ctS (mem 83) 2 < 0 := by show ctN (mem 83) 2 (nt (mem 83)) < 0; rw [hc]; decide
    refine s_counted_n (key := 2) hA.2.2 (by omega) hc2 (ct1 (by decide) (ref _ mem (Fr.refl _ _) ?_))
    rw [if_pos hc2]
    exact hA.1.2 i 1 hi (by omega)
  · have hc2 : ctS (mem 83) 2 = nI t := hc
    refine s_counted_y (key := 2) hW hA.2.2 (by omega) ht hc2 ?_
    rw [hA.1.2 i 1 hi (by omega), hA.1.2 i 2 hi (by omega)]
    obtain ⟨g1, g2, g3⟩ := s_gives (x0 := mem 83 (7 + 6 * i + 1)) (x1 := mem 83 (7 + 6 * i + 2)) (x2 := 0) (x3 := 0) (K := fun v m => W_X9_fine (nI i) m (fun v2 m2 => v = v2 ∧ Iv (c + 1) m2)) hW hA.2.2 ht (fun m hm => ref _ m hm (by rw [hc2, if_neg (nI_pos (by omega)), nI_clamp (by omega)]))
    exact cf1 g1 ⟨g2, g3⟩
/-! images -/
theorem ak_keep {c : Nat} (mem : Mm) (h : Iv c mem) : W_X8_keep mem (fun v m => W_X9_keep m (fun v2 m2 => v = v2 ∧ Iv (c + 1) m2)) := by
  obtain ⟨hA, hR⟩ := h.1
  have hw := hR.1
  have hW := hR.2.1
  have h9 := hw.2.1
  have ek : mem 1 1 = nI (nm (mem 83)) := by rw [hA.1.1]; exact hw.1
  obtain ⟨g1, g2, g3, g4, g5, g6, g7, g8⟩ := h
  unfold W_X8_keep W_X9_keep
  refine s_becomeAs (by omega) (by omega) (fun q a1 a2 => by omega) (by omega) hw hW hA (fun m f1 A1 m1 e1 => ?_)
  have q1 : m1 83 = mem 83 := by rw [e1, mu_row_n _ _ _ (by omega)]; exact f1.c 83 (by omega) (by omega)
  have q4 : m1 84 = mem 84 := by rw [e1, mu_row_n _ _ _ (by omega)]; exact f1.c 84 (by omega) (by omega)
  refine s_copyAll (by omega) (by omega) (fun m2 f2 e2 m3 e3 => ?_)
  rw [q1, q4, cp_hi hR.2.2.1 g2.1] at e2
  have F : Fr (fun q => q = 0 ∨ q = 82 ∨ q = 84 ∨ (14 ≤ q ∧ q ≤ 26)) mem m3 := by
    rw [e3]
    have z1 : Fr (fun q => q = 0 ∨ q = 82 ∨ q = 84 ∨ (14 ≤ q ∧ q ≤ 26)) mem m1 := by
      rw [e1]
      exact (f1.mono (fun q hq => by omega)).trans (Fr.m1 _ _ _ (Or.inl rfl) (by omega))
    exact (z1.trans (f2.mono (fun q hq => by omega))).trans (Fr.m1 _ _ _ (Or.inr (Or.inl rfl)) (by omega))
  have q83 : m3 83 = mem 83 := F.c 83 (by omega) (by omega)
  have q84 : m3 84 = mem 83 := by rw [e3, mu_row_n _ _ _ (by omega)]; exact e2
  have c0 : ∀ j, j ≠ 3 → m3 0 j = mem 0 j := by
    intro j nj
    rw [e3, mu_row_n _ _ _ (by omega), f2.c 0 (by omega) (by omega), e1, mu_j _ _ _ nj, f1.c 0 (by omega) (by omega)]
  have c03 : m3 0 3 = 1 := by rw [e3, mu_row_n _ _ _ (by omega), f2.c 0 (by omega) (by omega), e1, mu_s]
  have c82 : ∀ j, j ≠ 3 → m3 82 j = mem 82 j := by
    intro j nj
    rw [e3, mu_j _ _ _ nj, f2.c 82 (by omega) (by omega), e1, mu_row_n _ _ _ (by omega), f1.c 82 (by omega) (by omega)]
  have c823 : m3 82 3 = 1 := by rw [e3, mu_s]
  have en : nTx m3 = nTx mem := by unfold nTx; rw [c0 1000 (by omega)]
  refine ⟨?_, ⟨?_, ?_⟩, ⟨?_, ?_, ?_⟩, ?_, ?_, ?_, ?_, ?_, ?_⟩
  · rw [q83, e1, mu_row_n _ _ _ (by omega), f1.c 1 (by omega) (by omega)]; exact hA.1.1
  · rw [q83]
    refine ⟨hA.1.fr F h9 (by omega) (fun q a1 a2 => by omega), ?_, ?_⟩
    · unfold AlN; rw [F.c 1 (by omega) (by omega)]; exact hA.2.1
    · refine ⟨by rw [F.c 1 (by omega) (by omega)]; exact hA.2.2.1, fun t ht => ?_, fun key hkey => by rw [F.c (1 + 3) (by omega) (by omega)]; exact hA.2.2.2.2 key hkey⟩
      rw [F.c (1 + 2) (by omega) (by omega)]
      obtain ⟨jj, t1, t2, t3, t4, t5, t6, t7, t8⟩ := hA.2.2.2.1 t ht
      obtain ⟨x1, x2, x3⟩ := F.tx jj (fun q hq => by omega)
      exact ⟨jj, t1, by rw [en]; exact t2, by rw [en]; exact t3, by rw [x1]; exact t4, by rw [x1]; exact t5, by rw [x2]; exact t6, fun z hz => by rw [x2]; exact t7 z hz, by rw [x3]; exact t8⟩
  · rw [q83]; exact hR
  · rw [q84]; exact hR.2.2.1
  · rw [c03, c823]
  · refine Or.inr ⟨c03, ?_, by rw [q84]; exact hR⟩
    rw [q84]
    have f3 : Fr (fun q => q = 0 ∨ q = 82 ∨ q = 84) m m3 := by
      rw [e3]
      have z1 : Fr (fun q => q = 0 ∨ q = 82 ∨ q = 84) m m1 := by rw [e1]; exact Fr.m1 _ _ _ (Or.inl rfl) (by omega)
      exact (z1.trans (f2.mono (fun q hq => by omega))).trans (Fr.m1 _ _ _ (Or.inr (Or.inl rfl)) (by omega))
    refine ⟨A1.1.fr f3 h9 (by omega) (fun q a1 a2 => by omega), ?_, ?_⟩
    · unfold AlN; rw [f3.c 14 (by omega) (by omega)]; exact A1.2.1
    · refine ⟨by rw [f3.c 14 (by omega) (by omega)]; exact A1.2.2.1, fun t ht => ?_, fun key hkey => by rw [f3.c (14 + 3) (by omega) (by omega)]; exact A1.2.2.2.2 key hkey⟩
      rw [f3.c (14 + 2) (by omega) (by omega)]
      obtain ⟨jj, t1, t2, t3, t4, t5, t6, t7, t8⟩ := A1.2.2.2.1 t ht
      have em : nTx m3 = nTx m := by rw [en]; exact (nTx_c (f1.c 0 (by omega) (by omega))).symm
      obtain ⟨x1, x2, x3⟩ := f3.tx jj (fun q hq => by omega)
      exact ⟨jj, t1, by rw [em]; exact t2, by rw [em]; exact t3, by rw [x1]; exact t4, by rw [x1]; exact t5, by rw [x2]; exact t6, fun z hz => by rw [x2]; exact t7 z hz, by rw [x3]; exact t8⟩
  · exact g3.fr F ⟨by omega, by omega, by omega⟩ (c82 9 (by omega))
  · exact g4.fr F (fun q a1 a2 => by omega) ⟨by omega, by omega, by omega⟩
  · exact g5.fr F (fun q a1 a2 => by omega) ⟨by omega, by omega, by omega, by omega⟩
  · unfold Iv6
    rw [c0 10 (by omega), c82 35 (by omega), F.c 52 (by omega) (by omega), F.c 105 (by omega) (by omega)]
    exact g6
  · rw [en]; omega
  · exact g8.fr F ⟨by omega, by omega⟩
theorem ak_back {c : Nat} (mem : Mm) (h : Iv c mem) : W_X8_back mem (fun v m => W_X9_back m (fun v2 m2 => v = v2 ∧ Iv (c + 1) m2)) := by
  obtain ⟨hA, hR⟩ := h.1
  have hw := hR.1
  have hW := hR.2.1
  have h9 := hw.2.1
  have ek : mem 1 1 = nI (nm (mem 83)) := by rw [hA.1.1]; exact hw.1
  unfold W_X8_back
  obtain ⟨b1, b2, b3⟩ := h.2.1
  rcases b3 with b3 | ⟨b3, b4, b5⟩
  · first | refine ct1 b3 ?_ | refine ct2 b3 ?_
    show W_X9_back _ _
    unfold W_X9_back
    first | refine ct1 (b2.symm.trans b3) ?_ | refine ct2 (b2.symm.trans b3) ?_
    exact ⟨rfl, h.up⟩
  · have n0 : ¬ mem 0 3 = 0 := by rw [b3]; decide
    first | refine cf1 n0 ?_ | refine cf2 n0 ?_
    refine s_becomeAs (by omega) (by omega) (fun q a1 a2 => by omega) (by omega) b5.1 b5.2.1 b4 (fun m f1 A1 => ?_)
    have q83 : m 83 = mem 83 := f1.c 83 (by omega) (by omega)
    have q84 : m 84 = mem 84 := f1.c 84 (by omega) (by omega)
    have q82 : m 82 = mem 82 := f1.c 82 (by omega) (by omega)
    show W_X9_back _ _
    unfold W_X9_back
    rw [q82]
    first | refine cf1 (by rw [← b2]; exact n0) ?_ | refine cf2 (by rw [← b2]; exact n0) ?_
    refine s_copyAll (by omega) (by omega) (fun m2 f2 e2 => ?_)
    rw [q83, q84, cp_hi b5.2.2.1 hR.2.2.1] at e2
    refine ⟨?_, fin1 h (fC f1) A1 (f2.mono (fun q hq => by omega)) e2 b5⟩
    rw [e2]
    exact A1.1.1
/-! thought: the row comes back -/
theorem Iv.th {c : Nat} {m m' : Mm} (h : Iv c m) (hf : Fr (fun q => (27 ≤ q ∧ q ≤ 44) ∨ q = 53 ∨ q = 83 ∨ (85 ≤ q ∧ q ≤ 88) ∨ (92 ≤ q ∧ q ≤ 96) ∨ q = 104) m m') (e83 : m' 83 = m 83) : Iv (c + 1) m' := by
  refine h.al2 (hf.mono (fun q hq => by omega)) ?_
  unfold Iv1
  rw [e83]
  exact ⟨h.1.1.fr hf h.1.2.1.2.1 (by omega) (by omega) (fun q a1 a2 => by omega) (fun q a1 => by omega), h.1.2⟩
abbrev PTh : Nat → Prop := fun q => (27 ≤ q ∧ q ≤ 44) ∨ q = 53 ∨ q = 83 ∨ (85 ≤ q ∧ q ≤ 88) ∨ (92 ≤ q ∧ q ≤ 96) ∨ q = 104
theorem fT {m m' : Mm} (h : Fr P83 m m') : Fr PTh m m' := h.mono (fun q hq => by omega)
theorem fT27 {m m' : Mm} (h : Fr (PAl 27) m m') : Fr PTh m m' := h.mono (fun q hq => by omega)
set_option maxHeartbeats 4000000 in
theorem ak_behind {c : Nat} (w0 w1 : Int32) (mem : Mm) (h : Iv c mem) : W_X8_behind w0 w1 mem (fun v m => W_X9_behind w0 w1 m (fun v2 m2 => v = v2 ∧ Iv (c + 1) m2)) := by
  obtain ⟨hA, hR⟩ := h.1
  have hw := hR.1
  have hW := hR.2.1
  have h9 := hw.2.1
  have ek : mem 1 1 = nI (nm (mem 83)) := by rw [hA.1.1]; exact hw.1
  unfold W_X8_behind
  by_cases c0 : 0 ≤ w0 ∧ w0 ≤ 100
  · have c0b := c0
    obtain ⟨n, hn, rfl⟩ := Rg.of (y := 100) (n := 100) rfl c0
    refine s_iw_y c0b ?_
    first | refine zt1 ?_ | refine zt2 ?_
    have e2 : 2 + nI (nm (mem 83)) = nI (2 + nm (mem 83)) := nI_add 2 _
    rw [ek, e2]
    by_cases c1 : 0 ≤ w1 ∧ w1 ≤ nI (2 + nm (mem 83))
    · have c1b := c1
      obtain ⟨wh, hwh, rfl⟩ := Rg.of (nI_toInt (n := 2 + nm (mem 83)) (by omega)) c1
      refine s_iw_y c1b ?_
      first | refine zt1 ?_ | refine zt2 ?_
      refine s_becomeAs (by omega) (by omega) (fun q a1 a2 => by omega) (by omega) hw hW hA (fun m f1 A1 => ?_)
      refine s_goOn (by omega) (by omega) (by omega) hw hW A1 (fun m1 f2 A2 => ?_)
      have f12 : Fr PTh mem m1 := (fT27 f1).trans (fT27 f2)
      have q1 : m1 83 = mem 83 := (f1.trans f2).c 83 (by omega) (by omega)
      obtain ⟨b1, b2, b3⟩ := goN_w n (mem 83) hw
      have ref : ∀ v : Int32, (v = if wh < 2 then goN n (mem 83) (3 + wh) else if wh = 2 then nI (pc9 (stS (goN n (mem 83)))) else goN n (mem 83) (7 + 6 * (wh - 3) + 4)) → W_X9_behind (nI n) (nI wh) m1 (fun v2 m2 => v = v2 ∧ Iv (c + 1) m2) := by
        intro v ev1
        unfold W_X9_behind
        refine s_in_y c0b ?_
        first | refine zt1 ?_ | refine zt2 ?_
        rw [q1, hw.1, e2]
        refine s_in_y c1b ?_
        first | refine zt1 ?_ | refine zt2 ?_
        refine s_thinks (fun m2 f3 e3 => ?_)
        have q2 : m2 83 = mem 83 := by rw [f3.c 83 (by omega) (by omega)]; exact q1
        refine s_goesOn (by omega) (by rw [q2]; exact hw) (by rw [q2]; exact hW) (fun m3 f4 e4 => ?_)
        rw [q2] at e4
        have k85 : ∀ j, j < 1433 → m3 85 j = mem 83 j := fun j hj => by rw [f4.c 85 (by omega) (by omega), e3 j hj, q1]
        have k83 : ∀ j, 1433 ≤ j → m3 83 j = mem 83 j := fun j hj => by rw [e4]; exact b3 j (by omega)
        have done : ∀ x : Int32, v = x → W_X9_putsBack m3 (fun m_79 => (fun v2 m2 => v = v2 ∧ Iv (c + 1) m2) x m_79) := by
          intro x ex1
          refine s_putsBack k85 k83 (fun m4 f5 e5 => ⟨ex1, h.th ?_ e5⟩)
          exact ((f12.trans (f3.mono (fun q hq => by omega))).trans (fT f4)).trans (f5.mono (fun q hq => by omega))
        have w83 : Wm (m3 83) := by rw [e4]; exact b1
        by_cases cw : wh < 2
        · rw [if_pos cw] at ev1
          first | refine cf1 (nI_ge (a := wh) (b := 2) (by omega) (by omega)) ?_ | refine cf2 (nI_ge (a := wh) (b := 2) (by omega) (by omega)) ?_
          refine ⟨3 + wh, nI_add 3 wh, by omega, done _ ?_⟩
          rw [e4]; exact ev1
        · rw [if_neg cw] at ev1
          first | refine ct1 (nI_le (a := 2) (b := wh) (by omega) (by omega)) ?_ | refine ct2 (nI_le (a := 2) (b := wh) (by omega) (by omega)) ?_
          by_cases cw2 : wh = 2
          · rw [if_pos cw2] at ev1
            first | refine ct1 (by rw [cw2]; rfl) ?_ | refine ct2 (by rw [cw2]; rfl) ?_
            refine s_X9_standing w83 (s_bits (stS_lt w83) (done _ ?_))
            rw [e4]; exact ev1
          · rw [if_neg cw2] at ev1
            first | refine cf1 (fun z => cw2 ((nI_eq (a := wh) (b := 2) (by omega) (by omega)).mp z)) ?_ | refine cf2 (fun z => cw2 ((nI_eq (a := wh) (b := 2) (by omega) (by omega)).mp z)) ?_
            have e33 : nI wh - 3 = nI (wh - 3) := pk_sub (b := 3) (by omega)
            rw [e33]
            refine s_X9_of (i := wh - 3) (j := 4) (by omega) (by omega) (done _ ?_)
            rw [e4]; exact ev1
      refine ⟨fun z0 => ref _ ?_, fun z0 => ⟨fun z1 => ref _ ?_, fun z1 => ⟨fun z2 => ?_, fun z2 => ?_⟩⟩⟩
      · have cw : wh = 0 := (nI_eq (a := wh) (b := 0) (by omega) (by omega)).mp z0
        rw [cw, if_pos (by omega)]
        exact A2.2.1.1
      · have cw : wh = 1 := (nI_eq (a := wh) (b := 1) (by omega) (by omega)).mp z1
        rw [cw, if_pos (by omega)]
        exact A2.2.1.2.1
      · have cw : wh = 2 := (nI_eq (a := wh) (b := 2) (by omega) (by omega)).mp z2
        refine s_X0_standing b1 A2.1 (ref _ ?_)
        rw [cw, if_neg (by omega), if_pos rfl]
      · have y0 : wh ≠ 0 := fun z => z0 (by rw [z]; rfl)
        have y1 : wh ≠ 1 := fun z => z1 (by rw [z]; rfl)
        have y2 : wh ≠ 2 := fun z => z2 (by rw [z]; rfl)
        refine ⟨wh - 3, pk_sub (b := 3) (by omega), by omega, ref _ ?_⟩
        rw [if_neg (by omega), if_neg y2]
        exact A2.1.2 (wh - 3) 4 (by rw [b2]; omega) (by omega)
    · refine s_iw_n c1 ?_
      first | refine zf1 ?_ | refine zf2 ?_
      show W_X9_behind _ _ _ _
      unfold W_X9_behind
      refine s_in_y c0b ?_
      first | refine zt1 ?_ | refine zt2 ?_
      rw [hw.1, e2]
      refine s_in_n c1 ?_
      first | refine zf1 ?_ | refine zf2 ?_
      exact ⟨rfl, h.up⟩
  · refine s_iw_n c0 ?_
    first | refine zf1 ?_ | refine zf2 ?_
    show W_X9_behind _ _ _ _
    unfold W_X9_behind
    refine s_in_n c0 ?_
    first | refine zf1 ?_ | refine zf2 ?_
    exact ⟨rfl, h.up⟩
