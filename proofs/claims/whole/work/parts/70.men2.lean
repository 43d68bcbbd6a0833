/-! more calls about men -/
theorem ix_man (i j : Nat) : (7 + 6 * nI i) + nI j = nI (7 + 6 * i + j) := by
  rw [show (7 : Int32) = nI 7 from rfl, show (6 : Int32) = nI 6 from rfl, pk_mul, nI_add, nI_add]
theorem ix_man0 (i : Nat) : 7 + 6 * nI i = nI (7 + 6 * i + 0) := by
  rw [show (7 : Int32) = nI 7 from rfl, show (6 : Int32) = nI 6 from rfl, pk_mul, nI_add]
  rfl
theorem s_swaps {q : Nat} {v : Int32} {mem : Mm} {K : Int32 → Mm → Prop} (hq : q < 1433) (h : K (mem 83 q) (mu mem 83 q v)) : W_X9_swaps (nI q) v mem K := by
  unfold W_X9_swaps
  exact ⟨q, rfl, hq, q, rfl, hq, fun m e1 => by rw [e1]; exact h⟩
theorem WfR.set {a : Rw} {i j : Nat} {v : Int32} (h : WfR a) (hi : i < 9) (hj : j < 6) (hv : Rg v (mx j)) : WfR (upd a (7 + 6 * i + j) v) :=
  ⟨h.1.set hj hv, h.2.1.eq (fun q hq => pk_un (by omega)), fun q hq => by rw [pk_un (by omega)]; exact h.2.2.1 q hq, by rw [pk_un (by omega)]; exact h.2.2.2⟩
theorem s_told {i j : Nat} {mem : Mm} {a : Rw} {K : Int32 → Mm → Prop} (hw : Wm a) (hA : AlM mem 1 a) (hi : i < nm a) (hj : j < 6) (h : K (a (7 + 6 * i + j)) mem) : W_X8_told (nI i) (nI j) mem K := by
  have h9 := hw.2.1
  have ek : mem 1 1 = nI (nm a) := by rw [hA.1]; exact hw.1
  unfold W_X8_told
  refine s_has_y ek h9 hi ?_
  first | refine zt1 ?_ | refine zt2 ?_
  refine ⟨i, rfl, by omega, ?_⟩
  have c6 : j = 0 ∨ j = 1 ∨ j = 2 ∨ j = 3 ∨ j = 4 ∨ j = 5 := by omega
  rcases c6 with rfl | rfl | rfl | rfl | rfl | rfl
  · first | refine ct1 (by decide) ?_ | refine ct2 (by decide) ?_
    rw [hA.2 i 0 hi (by omega)]
    exact h
  · first | refine cf1 (by decide) ?_ | refine cf2 (by decide) ?_
    first | refine ct1 (by decide) ?_ | refine ct2 (by decide) ?_
    rw [hA.2 i 1 hi (by omega)]
    exact h
  · first | refine cf1 (by decide) ?_ | refine cf2 (by decide) ?_
    first | refine cf1 (by decide) ?_ | refine cf2 (by decide) ?_
    first | refine ct1 (by decide) ?_ | refine ct2 (by decide) ?_
    rw [hA.2 i 2 hi (by omega)]
    exact h
  · first | refine cf1 (by decide) ?_ | refine cf2 (by decide) ?_
    first | refine cf1 (by decide) ?_ | refine cf2 (by decide) ?_
    first | refine cf1 (by decide) ?_ | refine cf2 (by decide) ?_
    first | refine ct1 (by decide) ?_ | refine ct2 (by decide) ?_
    rw [hA.2 i 3 hi (by omega)]
    exact h
  · first | refine cf1 (by decide) ?_ | refine cf2 (by decide) ?_
    first | refine cf1 (by decide) ?_ | refine cf2 (by decide) ?_
    first | refine cf1 (by decide) ?_ | refine cf2 (by decide) ?_
    first | refine cf1 (by decide) ?_ | refine cf2 (by decide) ?_
    first | refine ct1 (by decide) ?_ | refine ct2 (by decide) ?_
    rw [hA.2 i 4 hi (by omega)]
    exact h
  · first | refine cf1 (by decide) ?_ | refine cf2 (by decide) ?_
    first | refine cf1 (by decide) ?_ | refine cf2 (by decide) ?_
    first | refine cf1 (by decide) ?_ | refine cf2 (by decide) ?_
    first | refine cf1 (by decide) ?_ | refine cf2 (by decide) ?_
    first | refine cf1 (by decide) ?_ | refine cf2 (by decide) ?_
    first | refine ct1 (by decide) ?_ | refine ct2 (by decide) ?_
    rw [hA.2 i 5 hi (by omega)]
    rcases rg1 (hw.2.2 i 5 hi (by omega)) with z0 | z1
    · rw [z0] at h ⊢
      exact ct1 rfl h
    · rw [z1] at h ⊢
      exact cf1 (by decide) h
theorem ak_told {c : Nat} (w0 w1 : Int32) (mem : Mm) (h : Iv c mem) : W_X8_told w0 w1 mem (fun v m => W_X9_told w0 w1 m (fun v2 m2 => v = v2 ∧ Iv (c + 1) m2)) := by
  obtain ⟨hA, hR⟩ := h.1
  have hw := hR.1
  have hW := hR.2.1
  have h9 := hw.2.1
  have ek : mem 1 1 = nI (nm (mem 83)) := by rw [hA.1.1]; exact hw.1
  unfold W_X9_told
  rcases man_or hw w0 with hn | ⟨i, hi, rfl⟩
  · unfold W_X8_told
    refine s_has_n ek hn ?_
    first | refine zf1 ?_ | refine zf2 ?_
    refine s_isMan_n hw.1 h9 hn ?_
    first | refine zf1 ?_ | refine zf2 ?_
    exact ⟨rfl, h.up⟩
  · by_cases c1 : 0 ≤ w1 ∧ w1 ≤ 7
    · have c7 := c1
      obtain ⟨z, hz, rfl⟩ := Rg.of (y := 7) (n := 7) rfl c1
      by_cases z6 : z < 6
      · refine s_told hw hA.1 hi z6 ?_
        refine s_isMan_y hw.1 h9 hi ?_
        first | refine zt1 ?_ | refine zt2 ?_
        refine s_in_y c7 ?_
        first | refine zt1 ?_ | refine zt2 ?_
        first | refine cf1 (nI_ge (a := z) (b := 6) (by omega) (by omega)) ?_ | refine cf2 (nI_ge (a := z) (b := 6) (by omega) (by omega)) ?_
        exact s_X9_of (by omega) (by omega) ⟨rfl, h.up⟩
      · unfold W_X8_told
        refine s_has_y ek h9 hi ?_
        first | refine zt1 ?_ | refine zt2 ?_
        refine ⟨i, rfl, by omega, ?_⟩
        have c2 : z = 6 ∨ z = 7 := by omega
        rcases c2 with rfl | rfl
        · first | refine cf1 (by decide) ?_ | refine cf2 (by decide) ?_
          first | refine cf1 (by decide) ?_ | refine cf2 (by decide) ?_
          first | refine cf1 (by decide) ?_ | refine cf2 (by decide) ?_
          first | refine cf1 (by decide) ?_ | refine cf2 (by decide) ?_
          first | refine cf1 (by decide) ?_ | refine cf2 (by decide) ?_
          first | refine cf1 (by decide) ?_ | refine cf2 (by decide) ?_
          first | refine ct1 (by decide) ?_ | refine ct2 (by decide) ?_
          refine s_X1_pushing ?_
          refine s_isMan_y hw.1 h9 hi ?_
          first | refine zt1 ?_ | refine zt2 ?_
          refine s_in_y c7 ?_
          first | refine zt1 ?_ | refine zt2 ?_
          first | refine ct1 (by decide) ?_ | refine ct2 (by decide) ?_
          first | refine ct1 (by decide) ?_ | refine ct2 (by decide) ?_
          refine s_pushesOf (by omega) ⟨?_, h.up⟩
          rw [hA.1.2 i 0 hi (by omega), hA.1.2 i 2 hi (by omega)]
        · first | refine cf1 (by decide) ?_ | refine cf2 (by decide) ?_
          first | refine cf1 (by decide) ?_ | refine cf2 (by decide) ?_
          first | refine cf1 (by decide) ?_ | refine cf2 (by decide) ?_
          first | refine cf1 (by decide) ?_ | refine cf2 (by decide) ?_
          first | refine cf1 (by decide) ?_ | refine cf2 (by decide) ?_
          first | refine cf1 (by decide) ?_ | refine cf2 (by decide) ?_
          first | refine cf1 (by decide) ?_ | refine cf2 (by decide) ?_
          first | refine ct1 (by decide) ?_ | refine ct2 (by decide) ?_
          refine s_X1_worth ?_
          refine s_isMan_y hw.1 h9 hi ?_
          first | refine zt1 ?_ | refine zt2 ?_
          refine s_in_y c7 ?_
          first | refine zt1 ?_ | refine zt2 ?_
          first | refine ct1 (by decide) ?_ | refine ct2 (by decide) ?_
          first | refine cf1 (by decide) ?_ | refine cf2 (by decide) ?_
          refine s_worthOf (by omega) ⟨?_, h.up⟩
          rw [hA.1.2 i 0 hi (by omega), hA.1.2 i 1 hi (by omega), hA.1.2 i 2 hi (by omega), hA.1.2 i 4 hi (by omega)]
    · have no : ∀ z : Int32, 0 ≤ z ∧ z ≤ 7 → ¬ w1 = z := fun z hz ez => c1 (by rw [ez]; exact hz)
      unfold W_X8_told
      refine s_has_y ek h9 hi ?_
      first | refine zt1 ?_ | refine zt2 ?_
      refine ⟨i, rfl, by omega, ?_⟩
      first | refine cf1 (no _ (by decide)) ?_ | refine cf2 (no _ (by decide)) ?_
      first | refine cf1 (no _ (by decide)) ?_ | refine cf2 (no _ (by decide)) ?_
      first | refine cf1 (no _ (by decide)) ?_ | refine cf2 (no _ (by decide)) ?_
      first | refine cf1 (no _ (by decide)) ?_ | refine cf2 (no _ (by decide)) ?_
      first | refine cf1 (no _ (by decide)) ?_ | refine cf2 (no _ (by decide)) ?_
      first | refine cf1 (no _ (by decide)) ?_ | refine cf2 (no _ (by decide)) ?_
      first | refine cf1 (no _ (by decide)) ?_ | refine cf2 (no _ (by decide)) ?_
      first | refine cf1 (no _ (by decide)) ?_ | refine cf2 (no _ (by decide)) ?_
      refine s_isMan_y hw.1 h9 hi ?_
      first | refine zt1 ?_ | refine zt2 ?_
      refine s_in_n c1 ?_
      first | refine zf1 ?_ | refine zf2 ?_
      exact ⟨rfl, h.up⟩
theorem ak_bears {c : Nat} (w0 w1 : Int32) (mem : Mm) (h : Iv c mem) : W_X8_bears w0 w1 mem (fun v m => W_X9_bears w0 w1 m (fun v2 m2 => v = v2 ∧ Iv (c + 1) m2)) := by
  obtain ⟨hA, hR⟩ := h.1
  have hw := hR.1
  have hW := hR.2.1
  have h9 := hw.2.1
  have ek : mem 1 1 = nI (nm (mem 83)) := by rw [hA.1.1]; exact hw.1
  unfold W_X8_bears W_X9_bears
  rcases man_or hw w0 with hn | ⟨i, hi, rfl⟩
  · refine s_has_n ek hn ?_
    first | refine zf1 ?_ | refine zf2 ?_
    refine s_isMan_n hw.1 h9 hn ?_
    first | refine zf1 ?_ | refine zf2 ?_
    exact ⟨rfl, h.up⟩
  · refine s_has_y ek h9 hi ?_
    first | refine zt1 ?_ | refine zt2 ?_
    by_cases c1 : 0 ≤ w1 ∧ w1 ≤ 7
    · refine s_iw_y c1 ?_
      first | refine zt1 ?_ | refine zt2 ?_
      refine s_X0_bearing (by omega) hw hW hA.1 hA.2.2 hi (fun m f1 => ?_)
      have q1 : m 83 = mem 83 := f1.c 83 (by omega) (fun z => z)
      refine s_isMan_y (n := nm (mem 83)) (by rw [q1]; exact hw.1) h9 hi ?_
      first | refine zt1 ?_ | refine zt2 ?_
      refine s_isTopic_y c1 ?_
      first | refine zt1 ?_ | refine zt2 ?_
      refine s_bearsOf (by rw [q1]; exact hw) (by rw [q1]; exact hW) (by rw [q1]; exact hi) (fun m2 f2 => ⟨by rw [q1], ?_⟩)
      exact h.sc ((f1.mono (fun q hq => hq.elim)).trans (f2.mono (fun q hq => by omega)))
    · refine s_iw_n c1 ?_
      first | refine zf1 ?_ | refine zf2 ?_
      refine s_isMan_y hw.1 h9 hi ?_
      first | refine zt1 ?_ | refine zt2 ?_
      refine s_isTopic_n c1 ?_
      first | refine zf1 ?_ | refine zf2 ?_
      exact ⟨rfl, h.up⟩
theorem ak_as {c : Nat} (w0 w1 : Int32) (mem : Mm) (h : Iv c mem) : W_X8_as w0 w1 mem (fun v m => W_X9_as w0 w1 m (fun v2 m2 => v = v2 ∧ Iv (c + 1) m2)) := by
  obtain ⟨hA, hR⟩ := h.1
  have hw := hR.1
  have hW := hR.2.1
  have h9 := hw.2.1
  have ek : mem 1 1 = nI (nm (mem 83)) := by rw [hA.1.1]; exact hw.1
  unfold W_X8_as W_X9_as
  rcases man_or hw w0 with hn | ⟨i, hi, rfl⟩
  · refine s_has_n ek hn ?_
    first | refine zf1 ?_ | refine zf2 ?_
    refine s_isMan_n hw.1 h9 hn ?_
    first | refine zf1 ?_ | refine zf2 ?_
    exact ⟨rfl, h.up⟩
  · refine s_has_y ek h9 hi ?_
    first | refine zt1 ?_ | refine zt2 ?_
    by_cases c1 : 0 ≤ w1 ∧ w1 ≤ 5
    · have c5 := c1
      obtain ⟨z, hz, rfl⟩ := Rg.of (y := 5) (n := 5) rfl c1
      obtain ⟨kd, hkd, ekd⟩ : Rg (mem 83 (7 + 6 * i + 0)) 5 := hw.2.2 i 0 hi (by omega)
      refine s_iw_y c5 ?_
      first | refine zt1 ?_ | refine zt2 ?_
      refine ⟨i, rfl, by omega, s_isOf hkd hz ((hA.1.2 i 0 hi (by omega)).trans ekd) ?_⟩
      by_cases hu : undB kd z = true
      · rw [hu]
        first | refine zt1 ?_ | refine zt2 ?_
        refine ⟨i, rfl, by omega, ?_⟩
        refine s_isMan_y hw.1 h9 hi ?_
        first | refine zt1 ?_ | refine zt2 ?_
        refine s_in_y c5 ?_
        first | refine zt1 ?_ | refine zt2 ?_
        refine s_X9_of (i := i) (j := 0) (by omega) (by omega) ?_
        rw [ekd]
        refine s_isUnder hkd hz ?_
        rw [hu]
        first | refine zt1 ?_ | refine zt2 ?_
        refine s_X9_of (i := i) (j := 1) (by omega) (by omega) ⟨hA.1.2 i 1 hi (by omega), h.up⟩
      · have hu2 : undB kd z = false := by cases hb : undB kd z; rfl; exact absurd hb hu
        rw [hu2]
        first | refine zf1 ?_ | refine zf2 ?_
        refine s_isMan_y hw.1 h9 hi ?_
        first | refine zt1 ?_ | refine zt2 ?_
        refine s_in_y c5 ?_
        first | refine zt1 ?_ | refine zt2 ?_
        refine s_X9_of (i := i) (j := 0) (by omega) (by omega) ?_
        rw [ekd]
        refine s_isUnder hkd hz ?_
        rw [hu2]
        first | refine zf1 ?_ | refine zf2 ?_
        exact ⟨rfl, h.up⟩
    · refine s_iw_n c1 ?_
      first | refine zf1 ?_ | refine zf2 ?_
      refine s_isMan_y hw.1 h9 hi ?_
      first | refine zt1 ?_ | refine zt2 ?_
      refine s_in_n c1 ?_
      first | refine zf1 ?_ | refine zf2 ?_
      exact ⟨rfl, h.up⟩
theorem set_fin {c i j : Nat} {v : Int32} {mem : Mm} (h : Iv c mem) (hi : i < nm (mem 83)) (hj : j < 6) (hv : Rg v (mx j)) : Iv (c + 1) (mu (mu mem (1 + 4 + i) j v) 83 (7 + 6 * i + j) v) := by
  obtain ⟨hA, hR⟩ := h.1
  have hw := hR.1
  have hW := hR.2.1
  have h9 := hw.2.1
  have ek : mem 1 1 = nI (nm (mem 83)) := by rw [hA.1.1]; exact hw.1
  have e83 : mu mem (1 + 4 + i) j v 83 = mem 83 := mu_row_n _ _ _ (by omega)
  refine fin1 h (fC (Fr.m1 _ _ _ ⟨by omega, by omega⟩ (by omega))) (hA.man (by omega) (by omega) h9 hi hj) (Fr.m1 _ _ _ (Or.inl rfl) (by omega)) ?_ (hR.set (by omega) hj hv)
  rw [mu_row_s, e83]
theorem ak_turns {c : Nat} (w0 w1 : Int32) (mem : Mm) (h : Iv c mem) : W_X8_turns w0 w1 mem (fun v m => W_X9_turns w0 w1 m (fun v2 m2 => v = v2 ∧ Iv (c + 1) m2)) := by
  obtain ⟨hA, hR⟩ := h.1
  have hw := hR.1
  have hW := hR.2.1
  have h9 := hw.2.1
  have ek : mem 1 1 = nI (nm (mem 83)) := by rw [hA.1.1]; exact hw.1
  unfold W_X8_turns W_X9_turns
  rcases man_or hw w0 with hn | ⟨i, hi, rfl⟩
  · refine s_has_n ek hn ?_
    first | refine zf1 ?_ | refine zf2 ?_
    refine s_isMan_n hw.1 h9 hn ?_
    first | refine zf1 ?_ | refine zf2 ?_
    exact ⟨rfl, h.up⟩
  · refine s_has_y ek h9 hi ?_
    first | refine zt1 ?_ | refine zt2 ?_
    by_cases c1 : 0 ≤ w1 ∧ w1 ≤ 5
    · refine s_iw_y c1 ?_
      first | refine zt1 ?_ | refine zt2 ?_
      refine ⟨i, rfl, by omega, i, rfl, by omega, fun m e1 => ?_⟩
      rw [e1]
      have e83 : mu mem (1 + 4 + i) 0 w1 83 = mem 83 := mu_row_n _ _ _ (by omega)
      refine s_isMan_y (n := nm (mem 83)) (by rw [e83]; exact hw.1) h9 hi ?_
      first | refine zt1 ?_ | refine zt2 ?_
      refine s_in_y c1 ?_
      first | refine zt1 ?_ | refine zt2 ?_
      rw [ix_man0]
      refine s_swaps (by omega) ⟨?_, set_fin h hi (by omega) (Rg.of (y := 5) rfl c1)⟩
      rw [e83]
      exact hA.1.2 i 0 hi (by omega)
    · refine s_iw_n c1 ?_
      first | refine zf1 ?_ | refine zf2 ?_
      refine s_isMan_y hw.1 h9 hi ?_
      first | refine zt1 ?_ | refine zt2 ?_
      refine s_in_n c1 ?_
      first | refine zf1 ?_ | refine zf2 ?_
      exact ⟨rfl, h.up⟩
theorem s_mostOf8 {j : Nat} {mem : Mm} {K : Int32 → Mm → Prop} (h1 : 1 ≤ j) (h5 : j ≤ 5) (h : K (nI (mx j)) mem) : W_X8_mostOf (nI j) mem K := by
  unfold W_X8_mostOf
  have c5 : j = 1 ∨ j = 2 ∨ j = 3 ∨ j = 4 ∨ j = 5 := by omega
  rcases c5 with rfl | rfl | rfl | rfl | rfl
  · exact ct1 (by decide) h
  · exact cf1 (by decide) (ct1 (by decide) h)
  · exact cf1 (by decide) (cf1 (by decide) (ct1 (by decide) h))
  · exact cf1 (by decide) (cf1 (by decide) (cf1 (by decide) (ct1 (by decide) h)))
  · exact cf1 (by decide) (cf1 (by decide) (cf1 (by decide) (cf1 (by decide) h)))
theorem s_mostOf9 {j : Nat} {mem : Mm} {K : Int32 → Mm → Prop} (h1 : 1 ≤ j) (h5 : j ≤ 5) (h : K (nI (mx j)) mem) : W_X9_mostOf (nI j) mem K := by
  unfold W_X9_mostOf
  have c5 : j = 1 ∨ j = 2 ∨ j = 3 ∨ j = 4 ∨ j = 5 := by omega
  rcases c5 with rfl | rfl | rfl | rfl | rfl
  · exact cf2 (by decide) (cf2 (by decide) (cf2 (by decide) h))
  · exact cf2 (by decide) (cf2 (by decide) (cf2 (by decide) h))
  · exact ct2 (by decide) h
  · exact cf2 (by decide) (ct2 (by decide) h)
  · exact cf2 (by decide) (cf2 (by decide) (ct2 (by decide) h))
theorem Rg.of1 {x : Int32} (h : 1 ≤ x ∧ x ≤ 5) : ∃ k : Nat, 1 ≤ k ∧ k ≤ 5 ∧ x = nI k := by
  have h0 : 0 ≤ x := by
    rw [Int32.le_iff_toInt_le] at h ⊢
    have z1 : (1 : Int32).toInt = 1 := rfl
    have z0 : (0 : Int32).toInt = 0 := rfl
    rw [z1] at h
    rw [z0]
    omega
  obtain ⟨k, hk, e1⟩ := Rg.of (y := 5) (n := 5) rfl ⟨h0, h.2⟩
  refine ⟨k, ?_, hk, e1⟩
  by_cases c0 : k = 0
  · rw [e1, c0] at h
    exact absurd h.1 (by decide)
  · omega
theorem mx_le : ∀ j, j < 6 → mx j ≤ 9999 := by decide
theorem ak_set {c : Nat} (w0 w1 w2 : Int32) (mem : Mm) (h : Iv c mem) : W_X8_set w0 w1 w2 mem (fun v m => W_X9_set w0 w1 w2 m (fun v2 m2 => v = v2 ∧ Iv (c + 1) m2)) := by
  obtain ⟨hA, hR⟩ := h.1
  have hw := hR.1
  have hW := hR.2.1
  have h9 := hw.2.1
  have ek : mem 1 1 = nI (nm (mem 83)) := by rw [hA.1.1]; exact hw.1
  unfold W_X8_set
  rcases man_or hw w0 with hn | ⟨i, hi, rfl⟩
  · refine s_has_n ek hn ?_
    first | refine zf1 ?_ | refine zf2 ?_
    show W_X9_set _ _ _ _ _
    unfold W_X9_set
    refine s_isMan_n hw.1 h9 hn ?_
    first | refine zf1 ?_ | refine zf2 ?_
    exact ⟨rfl, h.up⟩
  · refine s_has_y ek h9 hi ?_
    first | refine zt1 ?_ | refine zt2 ?_
    by_cases c1 : 1 ≤ w1 ∧ w1 ≤ 5
    · have c5 := c1
      obtain ⟨z, hz1, hz5, rfl⟩ := Rg.of1 c1
      have hm9 := mx_le z (by omega)
      refine s_iw_y c5 ?_
      first | refine zt1 ?_ | refine zt2 ?_
      refine s_mostOf8 hz1 hz5 ?_
      by_cases c2 : 0 ≤ w2 ∧ w2 ≤ nI (mx z)
      · have r2 : Rg w2 (mx z) := Rg.of (nI_toInt (by omega)) c2
        refine s_iw_y c2 ?_
        first | refine zt1 ?_ | refine zt2 ?_
        refine s_told hw hA.1 hi (by omega) ⟨i, rfl, by omega, ?_⟩
        have fin : ∀ m : Mm, m = mu mem (1 + 4 + i) z w2 → W_X9_set (nI i) (nI z) w2 m (fun v2 m2 => mem 83 (7 + 6 * i + z) = v2 ∧ Iv (c + 1) m2) := by
          intro m e1
          rw [e1]
          unfold W_X9_set
          have e83 : mu mem (1 + 4 + i) z w2 83 = mem 83 := mu_row_n _ _ _ (by omega)
          refine s_isMan_y (n := nm (mem 83)) (by rw [e83]; exact hw.1) h9 hi ?_
          first | refine zt1 ?_ | refine zt2 ?_
          refine s_in_y c5 ?_
          first | refine zt1 ?_ | refine zt2 ?_
          refine s_mostOf9 hz1 hz5 ?_
          refine s_in_y c2 ?_
          first | refine zt1 ?_ | refine zt2 ?_
          rw [ix_man]
          refine s_swaps (by omega) ⟨?_, set_fin h hi (by omega) r2⟩
          rw [e83]
        have c5b : z = 1 ∨ z = 2 ∨ z = 3 ∨ z = 4 ∨ z = 5 := by omega
        rcases c5b with rfl | rfl | rfl | rfl | rfl
        · first | refine ct1 (by decide) ?_ | refine ct2 (by decide) ?_
          exact fin
        · first | refine cf1 (by decide) ?_ | refine cf2 (by decide) ?_
          first | refine ct1 (by decide) ?_ | refine ct2 (by decide) ?_
          exact fin
        · first | refine cf1 (by decide) ?_ | refine cf2 (by decide) ?_
          first | refine cf1 (by decide) ?_ | refine cf2 (by decide) ?_
          first | refine ct1 (by decide) ?_ | refine ct2 (by decide) ?_
          exact fin
        · first | refine cf1 (by decide) ?_ | refine cf2 (by decide) ?_
          first | refine cf1 (by decide) ?_ | refine cf2 (by decide) ?_
          first | refine cf1 (by decide) ?_ | refine cf2 (by decide) ?_
          first | refine ct1 (by decide) ?_ | refine ct2 (by decide) ?_
          exact fin
        · first | refine cf1 (by decide) ?_ | refine cf2 (by decide) ?_
          first | refine cf1 (by decide) ?_ | refine cf2 (by decide) ?_
          first | refine cf1 (by decide) ?_ | refine cf2 (by decide) ?_
          first | refine cf1 (by decide) ?_ | refine cf2 (by decide) ?_
          rcases rg1 r2 with z0 | z1
          · rw [z0] at fin ⊢
            first | refine cf1 (by decide) ?_ | refine cf2 (by decide) ?_
            exact fin
          · rw [z1] at fin ⊢
            first | refine ct1 (by decide) ?_ | refine ct2 (by decide) ?_
            exact fin
      · refine s_iw_n c2 ?_
        first | refine zf1 ?_ | refine zf2 ?_
        show W_X9_set _ _ _ _ _
        unfold W_X9_set
        refine s_isMan_y hw.1 h9 hi ?_
        first | refine zt1 ?_ | refine zt2 ?_
        refine s_in_y c5 ?_
        first | refine zt1 ?_ | refine zt2 ?_
        refine s_mostOf9 hz1 hz5 ?_
        refine s_in_n c2 ?_
        first | refine zf1 ?_ | refine zf2 ?_
        exact ⟨rfl, h.up⟩
    · refine s_iw_n c1 ?_
      first | refine zf1 ?_ | refine zf2 ?_
      show W_X9_set _ _ _ _ _
      unfold W_X9_set
      refine s_isMan_y hw.1 h9 hi ?_
      first | refine zt1 ?_ | refine zt2 ?_
      refine s_in_n c1 ?_
      first | refine zf1 ?_ | refine zf2 ?_
      exact ⟨rfl, h.up⟩
