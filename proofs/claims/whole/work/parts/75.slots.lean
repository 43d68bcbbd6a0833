/-! slots -/
theorem s8_slot_y {v : Int32} {mem : Mm} {K : Bool → Mm → Prop} (hc : 0 ≤ v ∧ v ≤ 4) (h : K true mem) : W_X8_isSlot v mem K := s_X8_isSlot (by rw [decide_eq_true hc]; exact h)
theorem s8_slot_n {v : Int32} {mem : Mm} {K : Bool → Mm → Prop} (hc : ¬ (0 ≤ v ∧ v ≤ 4)) (h : K false mem) : W_X8_isSlot v mem K := s_X8_isSlot (by rw [decide_eq_false hc]; exact h)
theorem s9_slot_y {v : Int32} {mem : Mm} {K : Bool → Mm → Prop} (hc : 0 ≤ v ∧ v ≤ 4) (h : K true mem) : W_X9_isSlot v mem K := s_X9_isSlot (by rw [decide_eq_true hc]; exact h)
theorem s9_slot_n {v : Int32} {mem : Mm} {K : Bool → Mm → Prop} (hc : ¬ (0 ≤ v ∧ v ≤ 4)) (h : K false mem) : W_X9_isSlot v mem K := s_X9_isSlot (by rw [decide_eq_false hc]; exact h)
theorem ak_ask {c : Nat} (w0 w1 : Int32) (mem : Mm) (h : Iv c mem) : W_X8_ask w0 w1 mem (fun v m => W_X9_ask w0 w1 m (fun v2 m2 => v = v2 ∧ Iv (c + 1) m2)) := by
  obtain ⟨hA, hR⟩ := h.1
  have hw := hR.1
  have hW := hR.2.1
  have h9 := hw.2.1
  have ek : mem 1 1 = nI (nm (mem 83)) := by rw [hA.1.1]; exact hw.1
  have h4 := h.2.2.2.1
  have h5 := h.2.2.2.2.1
  unfold W_X8_ask
  by_cases c0 : 0 ≤ w0 ∧ w0 ≤ 4
  · have c0b := c0
    obtain ⟨s, hs, rfl⟩ := Rg.of (y := 4) (n := 4) rfl c0
    obtain ⟨g1, g2, g3, g4, g5⟩ := h5 s (by omega)
    refine s8_slot_y c0b ?_
    first | refine zt1 ?_ | refine zt2 ?_
    by_cases c1 : 0 ≤ w1 ∧ w1 ≤ 5
    · have c1b := c1
      obtain ⟨z, hz, rfl⟩ := Rg.of (y := 5) (n := 5) rfl c1
      refine s_iw_y c1b ?_
      first | refine zt1 ?_ | refine zt2 ?_
      refine ⟨s, rfl, by omega, ?_⟩
      rw [g1]
      by_cases e0 : mem 100 s = 0
      · first | refine ct1 e0 ?_ | refine ct2 e0 ?_
        show W_X9_ask _ _ _ _
        unfold W_X9_ask
        refine s9_slot_y c0b ?_
        first | refine zt1 ?_ | refine zt2 ?_
        refine s_in_y c1b ?_
        first | refine zt1 ?_ | refine zt2 ?_
        refine ⟨s, rfl, by omega, ?_⟩
        first | refine ct1 e0 ?_ | refine ct2 e0 ?_
        exact ⟨rfl, h.up⟩
      · first | refine cf1 e0 ?_ | refine cf2 e0 ?_
        by_cases e1 : mem 100 s = 1
        · first | refine ct1 e1 ?_ | refine ct2 e1 ?_
          obtain ⟨x1, ⟨kd, hkd, ekd⟩, x3⟩ := g3 e1
          refine s_isOf hkd hz (x1.trans ekd) ?_
          cases hu : undB kd z
          · first | refine zf1 ?_ | refine zf2 ?_
            show W_X9_ask _ _ _ _
            unfold W_X9_ask
            refine s9_slot_y c0b ?_
            first | refine zt1 ?_ | refine zt2 ?_
            refine s_in_y c1b ?_
            first | refine zt1 ?_ | refine zt2 ?_
            refine ⟨s, rfl, by omega, ?_⟩
            first | refine cf1 e0 ?_ | refine cf2 e0 ?_
            refine ⟨s, rfl, by omega, ?_⟩
            first | refine ct1 e1 ?_ | refine ct2 e1 ?_
            refine ⟨s, rfl, by omega, ?_⟩
            rw [ekd]
            refine s_isUnder hkd hz ?_
            rw [hu]
            first | refine zf1 ?_ | refine zf2 ?_
            exact ⟨rfl, h.up⟩
          · first | refine zt1 ?_ | refine zt2 ?_
            refine s_X1_worth ?_
            show W_X9_ask _ _ _ _
            unfold W_X9_ask
            refine s9_slot_y c0b ?_
            first | refine zt1 ?_ | refine zt2 ?_
            refine s_in_y c1b ?_
            first | refine zt1 ?_ | refine zt2 ?_
            refine ⟨s, rfl, by omega, ?_⟩
            first | refine cf1 e0 ?_ | refine cf2 e0 ?_
            refine ⟨s, rfl, by omega, ?_⟩
            first | refine ct1 e1 ?_ | refine ct2 e1 ?_
            refine ⟨s, rfl, by omega, ?_⟩
            rw [ekd]
            refine s_isUnder hkd hz ?_
            rw [hu]
            first | refine zt1 ?_ | refine zt2 ?_
            exact ⟨s, rfl, by omega, x3, h.up⟩
        · first | refine cf1 e1 ?_ | refine cf2 e1 ?_
          show W_X9_ask _ _ _ _
          unfold W_X9_ask
          refine s9_slot_y c0b ?_
          first | refine zt1 ?_ | refine zt2 ?_
          refine s_in_y c1b ?_
          first | refine zt1 ?_ | refine zt2 ?_
          refine ⟨s, rfl, by omega, ?_⟩
          first | refine cf1 e0 ?_ | refine cf2 e0 ?_
          refine ⟨s, rfl, by omega, ?_⟩
          first | refine cf1 e1 ?_ | refine cf2 e1 ?_
          exact ⟨rfl, h.up⟩
    · refine s_iw_n c1 ?_
      first | refine zf1 ?_ | refine zf2 ?_
      show W_X9_ask _ _ _ _
      unfold W_X9_ask
      refine s9_slot_y c0b ?_
      first | refine zt1 ?_ | refine zt2 ?_
      refine s_in_n c1 ?_
      first | refine zf1 ?_ | refine zf2 ?_
      exact ⟨rfl, h.up⟩
  · refine s8_slot_n c0 ?_
    first | refine zf1 ?_ | refine zf2 ?_
    show W_X9_ask _ _ _ _
    unfold W_X9_ask
    refine s9_slot_n c0 ?_
    first | refine zf1 ?_ | refine zf2 ?_
    exact ⟨rfl, h.up⟩
theorem ak_item {c : Nat} (w0 w1 : Int32) (mem : Mm) (h : Iv c mem) : W_X8_item w0 w1 mem (fun v m => W_X9_item w0 w1 m (fun v2 m2 => v = v2 ∧ Iv (c + 1) m2)) := by
  obtain ⟨hA, hR⟩ := h.1
  have hw := hR.1
  have hW := hR.2.1
  have h9 := hw.2.1
  have ek : mem 1 1 = nI (nm (mem 83)) := by rw [hA.1.1]; exact hw.1
  have h4 := h.2.2.2.1
  have h5 := h.2.2.2.2.1
  unfold W_X8_item
  by_cases c0 : 0 ≤ w0 ∧ w0 ≤ 4
  · have c0b := c0
    obtain ⟨s, hs, rfl⟩ := Rg.of (y := 4) (n := 4) rfl c0
    obtain ⟨g1, g2, g3, g4, g5⟩ := h5 s (by omega)
    refine s8_slot_y c0b ?_
    first | refine zt1 ?_ | refine zt2 ?_
    refine ⟨s, rfl, by omega, ?_⟩
    rw [g1]
    by_cases e0 : mem 100 s = 0
    · first | refine ct1 e0 ?_ | refine ct2 e0 ?_
      show W_X9_item _ _ _ _
      unfold W_X9_item
      refine s9_slot_y c0b ?_
      first | refine zt1 ?_ | refine zt2 ?_
      refine ⟨s, rfl, by omega, ?_⟩
      first | refine ct1 e0 ?_ | refine ct2 e0 ?_
      exact ⟨rfl, h.up⟩
    · first | refine cf1 e0 ?_ | refine cf2 e0 ?_
      by_cases e1 : mem 100 s = 2
      · first | refine ct1 e1 ?_ | refine ct2 e1 ?_
        obtain ⟨x1, ⟨n, hn, en⟩, x3⟩ := g4 e1
        have esz : mem (62 + 4 * s + 2) 1 = nI n := x1.trans en
        have ho : (w1 < 0 ∨ nI n ≤ w1) ∨ ∃ k, k < n ∧ w1 = nI k := by
          rcases pk_ix w1 (n := n) (by omega) with q | q | q
          · exact Or.inl (Or.inl q)
          · exact Or.inl (Or.inr q)
          · exact Or.inr q
        rcases ho with hno | ⟨k, hk, rfl⟩
        · refine s3_has_n esz hno ?_
          first | refine zf1 ?_ | refine zf2 ?_
          show W_X9_item _ _ _ _
          unfold W_X9_item
          refine s9_slot_y c0b ?_
          first | refine zt1 ?_ | refine zt2 ?_
          refine ⟨s, rfl, by omega, ?_⟩
          first | refine cf1 e0 ?_ | refine cf2 e0 ?_
          refine ⟨s, rfl, by omega, ?_⟩
          first | refine ct1 e1 ?_ | refine ct2 e1 ?_
          refine ⟨s, rfl, by omega, ?_⟩
          rw [en]
          refine s_in_n (rng_n (by omega) hno) ?_
          first | refine zf1 ?_ | refine zf2 ?_
          exact ⟨rfl, h.up⟩
        · refine s3_has_y esz hn hk ?_
          first | refine zt1 ?_ | refine zt2 ?_
          refine s_isNum esz hn hk ?_
          have hp := x3 k (by omega)
          by_cases e2 : mem (62 + 4 * s + 2 + 1) k = -1000000005
          · rw [decide_eq_false (fun z => z e2)]
            first | refine zf1 ?_ | refine zf2 ?_
            show W_X9_item _ _ _ _
            unfold W_X9_item
            refine s9_slot_y c0b ?_
            first | refine zt1 ?_ | refine zt2 ?_
            refine ⟨s, rfl, by omega, ?_⟩
            first | refine cf1 e0 ?_ | refine cf2 e0 ?_
            refine ⟨s, rfl, by omega, ?_⟩
            first | refine ct1 e1 ?_ | refine ct2 e1 ?_
            refine ⟨s, rfl, by omega, ?_⟩
            rw [en]
            refine s_in_y (rng_y (by omega) hk) ?_
            first | refine zt1 ?_ | refine zt2 ?_
            refine ⟨24 * s + k, ix_24 s k, by omega, ?_⟩
            first | refine ct1 (hp.no e2) ?_ | refine ct2 (hp.no e2) ?_
            exact ⟨rfl, h.up⟩
          · obtain ⟨y1, y2⟩ := hp.yes e2
            rw [decide_eq_true e2]
            first | refine zt1 ?_ | refine zt2 ?_
            refine ⟨k, rfl, by omega, ?_⟩
            show W_X9_item _ _ _ _
            unfold W_X9_item
            refine s9_slot_y c0b ?_
            first | refine zt1 ?_ | refine zt2 ?_
            refine ⟨s, rfl, by omega, ?_⟩
            first | refine cf1 e0 ?_ | refine cf2 e0 ?_
            refine ⟨s, rfl, by omega, ?_⟩
            first | refine ct1 e1 ?_ | refine ct2 e1 ?_
            refine ⟨s, rfl, by omega, ?_⟩
            rw [en]
            refine s_in_y (rng_y (by omega) hk) ?_
            first | refine zt1 ?_ | refine zt2 ?_
            refine ⟨24 * s + k, ix_24 s k, by omega, ?_⟩
            first | refine cf1 y2 ?_ | refine cf2 y2 ?_
            exact ⟨y1, h.up⟩
      · first | refine cf1 e1 ?_ | refine cf2 e1 ?_
        show W_X9_item _ _ _ _
        unfold W_X9_item
        refine s9_slot_y c0b ?_
        first | refine zt1 ?_ | refine zt2 ?_
        refine ⟨s, rfl, by omega, ?_⟩
        first | refine cf1 e0 ?_ | refine cf2 e0 ?_
        refine ⟨s, rfl, by omega, ?_⟩
        first | refine cf1 e1 ?_ | refine cf2 e1 ?_
        exact ⟨rfl, h.up⟩
  · refine s8_slot_n c0 ?_
    first | refine zf1 ?_ | refine zf2 ?_
    show W_X9_item _ _ _ _
    unfold W_X9_item
    refine s9_slot_n c0 ?_
    first | refine zf1 ?_ | refine zf2 ?_
    exact ⟨rfl, h.up⟩
theorem rest_m1 (x : Int32) : x - x / (-1) * (-1) = 0 := by
  have e1 : x / (-1) = -x := by
    apply Int32.toInt_inj.mp
    rw [Int32.toInt_div, show (-1 : Int32).toInt = -1 from rfl, Int.tdiv_neg, Int.tdiv_one, Int32.toInt_neg]
  rw [e1, Int32.neg_mul_neg, Int32.mul_one, Int32.sub_self]
theorem ak_rest {c : Nat} (w0 w1 : Int32) (mem : Mm) (h : Iv c mem) : W_X8_rest w0 w1 mem (fun v m => W_X9_rest w0 w1 m (fun v2 m2 => v = v2 ∧ Iv (c + 1) m2)) := by
  obtain ⟨hA, hR⟩ := h.1
  have hw := hR.1
  have hW := hR.2.1
  have h9 := hw.2.1
  have ek : mem 1 1 = nI (nm (mem 83)) := by rw [hA.1.1]; exact hw.1
  have h4 := h.2.2.2.1
  have h5 := h.2.2.2.2.1
  unfold W_X8_rest
  by_cases c0 : 0 ≤ w0 ∧ w0 ≤ 4
  · have c0b := c0
    obtain ⟨s, hs, rfl⟩ := Rg.of (y := 4) (n := 4) rfl c0
    obtain ⟨g1, g2, g3, g4, g5⟩ := h5 s (by omega)
    refine s8_slot_y c0b ?_
    first | refine zt1 ?_ | refine zt2 ?_
    refine ⟨s, rfl, by omega, ?_⟩
    rw [g1]
    by_cases e0 : mem 100 s = 0
    · first | refine ct1 e0 ?_ | refine ct2 e0 ?_
      show W_X9_rest _ _ _ _
      unfold W_X9_rest
      refine s9_slot_y c0b ?_
      first | refine zt1 ?_ | refine zt2 ?_
      refine ⟨s, rfl, by omega, ?_⟩
      first | refine ct1 e0 ?_ | refine ct2 e0 ?_
      exact ⟨rfl, h.up⟩
    · first | refine cf1 e0 ?_ | refine cf2 e0 ?_
      by_cases e1 : mem 100 s = 3
      · first | refine ct1 e1 ?_ | refine ct2 e1 ?_
        by_cases e2 : w1 = 0
        · first | refine ct1 e2 ?_ | refine ct2 e2 ?_
          show W_X9_rest _ _ _ _
          unfold W_X9_rest
          refine s9_slot_y c0b ?_
          first | refine zt1 ?_ | refine zt2 ?_
          refine ⟨s, rfl, by omega, ?_⟩
          first | refine cf1 e0 ?_ | refine cf2 e0 ?_
          refine ⟨s, rfl, by omega, ?_⟩
          first | refine ct1 e1 ?_ | refine ct2 e1 ?_
          first | refine ct1 e2 ?_ | refine ct2 e2 ?_
          exact ⟨rfl, h.up⟩
        · first | refine cf1 e2 ?_ | refine cf2 e2 ?_
          refine ⟨e2, ?_⟩
          show W_X9_rest _ _ _ _
          unfold W_X9_rest
          refine s9_slot_y c0b ?_
          first | refine zt1 ?_ | refine zt2 ?_
          refine ⟨s, rfl, by omega, ?_⟩
          first | refine cf1 e0 ?_ | refine cf2 e0 ?_
          refine ⟨s, rfl, by omega, ?_⟩
          first | refine ct1 e1 ?_ | refine ct2 e1 ?_
          first | refine cf1 e2 ?_ | refine cf2 e2 ?_
          by_cases e3 : w1 = -1
          · first | refine ct1 e3 ?_ | refine ct2 e3 ?_
            refine ⟨?_, h.up⟩
            rw [e3]
            exact rest_m1 _
          · first | refine cf1 e3 ?_ | refine cf2 e3 ?_
            refine ⟨s, rfl, by omega, e2, ?_, h.up⟩
            rw [g5 e1]
      · first | refine cf1 e1 ?_ | refine cf2 e1 ?_
        show W_X9_rest _ _ _ _
        unfold W_X9_rest
        refine s9_slot_y c0b ?_
        first | refine zt1 ?_ | refine zt2 ?_
        refine ⟨s, rfl, by omega, ?_⟩
        first | refine cf1 e0 ?_ | refine cf2 e0 ?_
        refine ⟨s, rfl, by omega, ?_⟩
        first | refine cf1 e1 ?_ | refine cf2 e1 ?_
        exact ⟨rfl, h.up⟩
  · refine s8_slot_n c0 ?_
    first | refine zf1 ?_ | refine zf2 ?_
    show W_X9_rest _ _ _ _
    unfold W_X9_rest
    refine s9_slot_n c0 ?_
    first | refine zf1 ?_ | refine zf2 ?_
    exact ⟨rfl, h.up⟩
theorem Iv.sl {c : Nat} {m m' : Mm} (h : Iv c m) (hf : Fr (fun q => (62 ≤ q ∧ q < 82) ∨ (100 ≤ q ∧ q ≤ 103)) m m') (h5 : Iv5 m') : Iv (c + 1) m' := by
  obtain ⟨g1, g2, g3, g4, g5, g6, g7, g8⟩ := h
  have e82 := hf.c 82 (by omega) (by omega)
  refine ⟨g1.fr hf (by omega) (fun q a1 a2 => by omega) (by omega) (fun q a1 => by omega), g2.fr hf (by omega) (fun q a1 a2 => by omega) (by omega) (by rw [e82]) (fun q a1 => by omega), g3.fr hf ⟨by omega, by omega, by omega⟩ (by rw [e82]), g4.fr hf (fun q a1 a2 => by omega) ⟨by omega, by omega, by omega⟩, h5, g6.fr hf ⟨by omega, by omega, by omega⟩ (by rw [e82]), ?_, g8.fr hf ⟨by omega, by omega⟩⟩
  rw [nTx_c (hf.c 0 (by omega) (by omega))]
  omega
theorem lay_fin {c s z : Nat} {A B : Int32} {mem m2 : Mm} (h : Iv c mem) (hs : s < 5) (hz : z ≤ 3) (r0 : ∀ q, q < 62 + 4 * s ∨ 66 + 4 * s ≤ q → q ≠ 100 → q ≠ 101 → q ≠ 102 → q ≠ 103 → m2 q = mem q) (r1 : m2 100 = upd (mem 100) s (nI z)) (r2 : m2 101 = upd (mem 101) s A) (r3 : m2 102 = upd (mem 102) s B) (r4 : ∀ i, i < 24 * s ∨ 24 * s + 24 ≤ i → m2 103 i = mem 103 i) (r5 : m2 (62 + 4 * s) 0 = nI z)
    (p1 : z = 1 → m2 (62 + 4 * s + 1) 0 = A ∧ Rg A 5 ∧ worthS (m2 (62 + 4 * s + 1) 0) (m2 (62 + 4 * s + 1) 1) (m2 (62 + 4 * s + 1) 2) (m2 (62 + 4 * s + 1) 4) = B) (p2 : z = 2 → m2 (62 + 4 * s + 2) 1 = A ∧ Rg A 24 ∧ ∀ k, k < 24 → PlR (m2 (62 + 4 * s + 2 + 1) k) (m2 103 (24 * s + k))) (p3 : z = 3 → m2 (62 + 4 * s) 3 = A) : Iv (c + 1) m2 := by
  have h5 := h.2.2.2.2.1
  refine h.sl ⟨fun q a1 a2 => r0 q (by omega) (by omega) (by omega) (by omega) (by omega), fun q a1 => by unfold iSt at a1; rw [r0 q (by omega) (by omega) (by omega) (by omega) (by omega)]⟩ (fun s2 hs2 => ?_)
  rw [r1, r2, r3]
  by_cases c1 : s2 = s
  · subst c1
    rw [pk_us, pk_us, pk_us]
    refine ⟨r5, ⟨z, hz, rfl⟩, fun e1 => p1 ((nI_eq (b := 1) (by omega) (by omega)).mp e1), fun e1 => p2 ((nI_eq (b := 2) (by omega) (by omega)).mp e1), fun e1 => p3 ((nI_eq (b := 3) (by omega) (by omega)).mp e1)⟩
  · obtain ⟨g1, g2, g3, g4, g5⟩ := h5 s2 hs2
    rw [pk_un c1, pk_un c1, pk_un c1, r0 (62 + 4 * s2) (by omega) (by omega) (by omega) (by omega) (by omega), r0 (62 + 4 * s2 + 1) (by omega) (by omega) (by omega) (by omega) (by omega), r0 (62 + 4 * s2 + 2) (by omega) (by omega) (by omega) (by omega) (by omega), r0 (62 + 4 * s2 + 2 + 1) (by omega) (by omega) (by omega) (by omega) (by omega)]
    refine ⟨g1, g2, g3, fun e1 => ?_, g5⟩
    obtain ⟨x1, x2, x3⟩ := g4 e1
    refine ⟨x1, x2, fun k hk => ?_⟩
    rw [r4 _ (by omega)]
    exact x3 k hk
theorem l_lay {s i : Nat} {p0 p1 p2 l4 : Int32} {m0 : Mm} {K : Int32 → Mm → Prop} (hs : s < 5) (hi : i < 4) (hK : ∀ m, (∀ q, q ≠ 103 → m q = m0 q) → (∀ k, k < 24 → m 103 (24 * s + k) = m0 99 (24 * i + k)) → (∀ k, k < 24 * s ∨ 24 * s + 24 ≤ k → m 103 k = m0 103 k) → K l4 m) : ∀ (d k : Nat) (m : Mm), k + d = 24 → (∀ q, q ≠ 103 → m q = m0 q) → (∀ k2, k2 < k → m 103 (24 * s + k2) = m0 99 (24 * i + k2)) → (∀ k2, k2 < 24 * s ∨ 24 * s + k ≤ k2 → m 103 k2 = m0 103 k2) → L_X9_lay_134 p0 p1 p2 K (d + 1) (nI s) 2 (nI i) l4 (nI k) m := by
  intro d
  induction d with
  | zero =>
    intro k m hk h1 h2 h3
    have c0 : k = 24 := by omega
    subst c0
    unfold L_X9_lay_134
    exact ct1 (by decide) (hK m h1 h2 h3)
  | succ d ih =>
    intro k m hk h1 h2 h3
    unfold L_X9_lay_134
    refine cf1 (nI_ge (a := k) (b := 24) (by omega) (by omega)) (ct2 rfl ⟨24 * i + k, ix_24 i k, by omega, 24 * s + k, ix_24 s k, by omega, fun m2 e2 => ?_⟩)
    rw [h1 99 (by omega)] at e2
    rw [nI_1]
    refine ih (k + 1) m2 (by omega) (fun q nq => ?_) (fun k2 hk2 => ?_) (fun k2 hk2 => ?_)
    · rw [e2, mu_row_n _ _ _ nq]; exact h1 q nq
    · rw [e2, mu_row_s]
      by_cases c1 : k2 = k
      · rw [c1, pk_us]
      · rw [pk_un (by omega)]; exact h2 k2 (by omega)
    · rw [e2, mu_row_s, pk_un (by omega)]; exact h3 k2 (by omega)
theorem s_X3_becomeAs {k0 k1 : Nat} {mem : Mm} {K : Mm → Prop} (n1 : k1 ≠ k0) (n2 : k1 ≠ k0 + 1) (n3 : k1 + 1 ≠ k0) (n4 : k1 + 1 ≠ k0 + 1) (hK : ∀ m, (∀ q, q ≠ k0 → q ≠ k0 + 1 → m q = mem q) → m k0 1 = mem k1 1 → (∀ i, i < 24 → m (k0 + 1) i = mem (k1 + 1) i) → K m) : W_X3_becomeAs k0 k1 mem K := by
  unfold W_X3_becomeAs
  intro m1 e1 m2 e2
  refine ⟨0, 0, 24, rfl, rfl, rfl, by omega, by omega, fun m3 e3 => hK m3 (fun q a1 a2 => ?_) ?_ (fun i hi => ?_)⟩
  · rw [e3, muC_n _ a2, e2, mu_row_n _ _ _ a1, e1, mu_row_n _ _ _ a1]
  · rw [e3, muC_n _ (by omega), e2, mu_s, e1, mu_row_n _ _ _ n1]
  · rw [e3, muC_s, pk_cpy_in (by omega) (by omega), e2, mu_row_n _ _ _ n3, e1, mu_row_n _ _ _ n3]
    exact congrArg _ (by omega)
set_option maxHeartbeats 4000000 in
theorem ak_lay {c : Nat} (w0 w1 w2 : Int32) (mem : Mm) (h : Iv c mem) : W_X8_lay w0 w1 w2 mem (fun v m => W_X9_lay w0 w1 w2 m (fun v2 m2 => v = v2 ∧ Iv (c + 1) m2)) := by
  obtain ⟨hA, hR⟩ := h.1
  have hw := hR.1
  have hW := hR.2.1
  have h9 := hw.2.1
  have ek : mem 1 1 = nI (nm (mem 83)) := by rw [hA.1.1]; exact hw.1
  have h4 := h.2.2.2.1
  have h5 := h.2.2.2.2.1
  unfold W_X8_lay
  by_cases c0 : 0 ≤ w0 ∧ w0 ≤ 4
  · have c0b := c0
    obtain ⟨s, hs, rfl⟩ := Rg.of (y := 4) (n := 4) rfl c0
    obtain ⟨g1, g2, g3, g4, g5⟩ := h5 s (by omega)
    refine s8_slot_y c0b ?_
    first | refine zt1 ?_ | refine zt2 ?_
    by_cases c1 : 0 ≤ w1 ∧ w1 ≤ 3
    · have c1b := c1
      obtain ⟨z, hz, rfl⟩ := Rg.of (y := 3) (n := 3) rfl c1
      refine s_iw_y c1b ?_
      first | refine zt1 ?_ | refine zt2 ?_
      have c4 : (z = 0 ∨ z = 3) ∨ z = 1 ∨ z = 2 := by omega
      rcases c4 with c4 | rfl | rfl
      · have z1 : ¬ nI z = 1 := fun e1 => by have := (nI_eq (a := z) (b := 1) (by omega) (by omega)).mp e1; omega
        have z2 : ¬ nI z = 2 := fun e1 => by have := (nI_eq (a := z) (b := 2) (by omega) (by omega)).mp e1; omega
        first | refine cf1 z1 ?_ | refine cf2 z1 ?_
        unfold B_X8_lay_32
        first | refine cf1 z2 ?_ | refine cf2 z2 ?_
        first | refine cf1 z2 ?_ | refine cf2 z2 ?_
        unfold B_X8_lay_67
        refine ⟨s, rfl, by omega, fun m1 e1 => ?_⟩
        first | refine cf1 z1 ?_ | refine cf2 z1 ?_
        first | refine cf1 z2 ?_ | refine cf2 z2 ?_
        intro m2 e2
        show W_X9_lay _ _ _ _ _
        unfold W_X9_lay
        refine s9_slot_y c0b ?_
        first | refine zt1 ?_ | refine zt2 ?_
        refine s_in_y c1b ?_
        first | refine zt1 ?_ | refine zt2 ?_
        first | refine cf1 z1 ?_ | refine cf2 z1 ?_
        unfold B_X9_lay_29
        first | refine cf1 z2 ?_ | refine cf2 z2 ?_
        first | refine cf1 z2 ?_ | refine cf2 z2 ?_
        unfold B_X9_lay_61
        have q0 : ∀ q, q ≠ 62 + 4 * s → m2 q = mem q := fun q nq => by rw [e2, mu_row_n _ _ _ nq, e1, mu_row_n _ _ _ nq]
        refine ⟨s, rfl, by omega, s, rfl, by omega, fun m3 e3 => ?_⟩
        first | refine cf1 z1 ?_ | refine cf2 z1 ?_
        first | refine cf1 z2 ?_ | refine cf2 z2 ?_
        unfold B_X9_lay_110
        refine ⟨s, rfl, by omega, fun m4 e4 => ?_⟩
        first | refine cf1 z1 ?_ | refine cf2 z1 ?_
        refine ⟨s, rfl, by omega, fun m5 e5 => ⟨1, ?_⟩⟩
        unfold L_X9_lay_134
        first | refine cf1 (by decide) ?_ | refine cf2 (by decide) ?_
        first | refine cf1 z2 ?_ | refine cf2 z2 ?_
        refine ⟨by rw [g1, q0 100 (by omega)], ?_⟩
        refine lay_fin (s := s) (z := z) (A := w2) (B := 0) h (by omega) hz (fun q a1 n0 n1 n2 n3 => ?_) ?_ ?_ ?_ (fun i hi => ?_) ?_ (fun e9 => by omega) (fun e9 => by omega) (fun e9 => ?_)
        · rw [e5, mu_row_n _ _ _ n2, e4, mu_row_n _ _ _ n1, e3, mu_row_n _ _ _ n0]; exact q0 q (by omega)
        · rw [e5, mu_row_n _ _ _ (by omega), e4, mu_row_n _ _ _ (by omega), e3, mu_row_s, q0 100 (by omega)]
        · rw [e5, mu_row_n _ _ _ (by omega), e4, mu_row_s, e3, mu_row_n _ _ _ (by omega), q0 101 (by omega)]
        · rw [e5, mu_row_s, e4, mu_row_n _ _ _ (by omega), e3, mu_row_n _ _ _ (by omega), q0 102 (by omega)]
        · rw [e5, mu_row_n _ _ _ (by omega), e4, mu_row_n _ _ _ (by omega), e3, mu_row_n _ _ _ (by omega), q0 103 (by omega)]
        · rw [e5, mu_row_n _ _ _ (by omega), e4, mu_row_n _ _ _ (by omega), e3, mu_row_n _ _ _ (by omega), e2, mu_j _ _ _ (by omega), e1, mu_s]
        · rw [e5, mu_row_n _ _ _ (by omega), e4, mu_row_n _ _ _ (by omega), e3, mu_row_n _ _ _ (by omega), e2, mu_s]
      · first | refine ct1 rfl ?_ | refine ct2 rfl ?_
        rcases man_or hw w2 with hn | ⟨i, hi, rfl⟩
        · refine s_has_n ek hn ?_
          first | refine zf1 ?_ | refine zf2 ?_
          show W_X9_lay _ _ _ _ _
          unfold W_X9_lay
          refine s9_slot_y c0b ?_
          first | refine zt1 ?_ | refine zt2 ?_
          refine s_in_y c1b ?_
          first | refine zt1 ?_ | refine zt2 ?_
          first | refine ct1 rfl ?_ | refine ct2 rfl ?_
          refine s_isMan_n hw.1 h9 hn ?_
          first | refine zf1 ?_ | refine zf2 ?_
          exact ⟨rfl, h.up⟩
        · refine s_has_y ek h9 hi ?_
          first | refine zt1 ?_ | refine zt2 ?_
          unfold B_X8_lay_32
          first | refine cf1 (by decide) ?_ | refine cf2 (by decide) ?_
          first | refine cf1 (by decide) ?_ | refine cf2 (by decide) ?_
          unfold B_X8_lay_67
          refine ⟨s, rfl, by omega, fun m1 e1 => ?_⟩
          first | refine ct1 rfl ?_ | refine ct2 rfl ?_
          have u0 : ∀ q, q ≠ 62 + 4 * s → m1 q = mem q := fun q nq => by rw [e1, mu_row_n _ _ _ nq]
          refine ⟨i, rfl, by omega, s_X1_becomeAs (by omega) (by rw [u0 _ (by omega), hA.1.2 i 5 hi (by omega)]; exact rg1 (hw.2.2 i 5 hi (by omega))) (fun m2 v0 v1 => ?_)⟩
          have q0 : ∀ q, q ≠ 62 + 4 * s → q ≠ 62 + 4 * s + 1 → m2 q = mem q := fun q n1 n2 => by rw [v0 q n2]; exact u0 q n1
          have v2 : ∀ j, j < 6 → m2 (62 + 4 * s + 1) j = mem 83 (7 + 6 * i + j) := fun j hj => by rw [v1 j hj, u0 _ (by omega)]; exact hA.1.2 i j hi hj
          have q83 : m2 83 = mem 83 := q0 83 (by omega) (by omega)
          show W_X9_lay _ _ _ _ _
          unfold W_X9_lay
          refine s9_slot_y c0b ?_
          first | refine zt1 ?_ | refine zt2 ?_
          refine s_in_y c1b ?_
          first | refine zt1 ?_ | refine zt2 ?_
          first | refine ct1 rfl ?_ | refine ct2 rfl ?_
          refine s_isMan_y (n := nm (mem 83)) (by rw [q83]; exact hw.1) h9 hi ?_
          first | refine zt1 ?_ | refine zt2 ?_
          unfold B_X9_lay_29
          first | refine cf1 (by decide) ?_ | refine cf2 (by decide) ?_
          first | refine cf1 (by decide) ?_ | refine cf2 (by decide) ?_
          unfold B_X9_lay_61
          refine ⟨s, rfl, by omega, s, rfl, by omega, fun m3 e3 => ?_⟩
          first | refine ct1 rfl ?_ | refine ct2 rfl ?_
          have q3 : m3 83 = mem 83 := by rw [e3, mu_row_n _ _ _ (by omega)]; exact q83
          refine s_X9_of (i := i) (j := 0) (by omega) (by omega) ?_
          unfold B_X9_lay_110
          refine ⟨s, rfl, by omega, fun m4 e4 => ?_⟩
          have q4 : m4 83 = mem 83 := by rw [e4, mu_row_n _ _ _ (by omega)]; exact q3
          first | refine ct1 rfl ?_ | refine ct2 rfl ?_
          refine s_worthOf (by omega) ⟨s, rfl, by omega, fun m5 e5 => ⟨1, ?_⟩⟩
          unfold L_X9_lay_134
          first | refine cf1 (by decide) ?_ | refine cf2 (by decide) ?_
          first | refine cf1 (by decide) ?_ | refine cf2 (by decide) ?_
          refine ⟨by rw [g1, q0 100 (by omega) (by omega)], ?_⟩
          rw [q3] at e4
          rw [q4] at e5
          have own : m5 (62 + 4 * s + 1) = m2 (62 + 4 * s + 1) := by rw [e5, mu_row_n _ _ _ (by omega), e4, mu_row_n _ _ _ (by omega), e3, mu_row_n _ _ _ (by omega)]
          refine lay_fin (s := s) (z := 1) (A := mem 83 (7 + 6 * i + 0)) (B := worthS (mem 83 (7 + 6 * i + 0)) (mem 83 (7 + 6 * i + 1)) (mem 83 (7 + 6 * i + 2)) (mem 83 (7 + 6 * i + 4))) h (by omega) hz (fun q a1 n0 n1 n2 n3 => ?_) ?_ ?_ ?_ (fun i2 hi2 => ?_) ?_ (fun e9 => ⟨?_, hw.2.2 i 0 hi (by omega), ?_⟩) (fun e9 => by omega) (fun e9 => by omega)
          · rw [e5, mu_row_n _ _ _ n2, e4, mu_row_n _ _ _ n1, e3, mu_row_n _ _ _ n0]; exact q0 q (by omega) (by omega)
          · rw [e5, mu_row_n _ _ _ (by omega), e4, mu_row_n _ _ _ (by omega), e3, mu_row_s, q0 100 (by omega) (by omega)]
          · rw [e5, mu_row_n _ _ _ (by omega), e4, mu_row_s, e3, mu_row_n _ _ _ (by omega), q0 101 (by omega) (by omega)]
          · rw [e5, mu_row_s, e4, mu_row_n _ _ _ (by omega), e3, mu_row_n _ _ _ (by omega), q0 102 (by omega) (by omega)]
          · rw [e5, mu_row_n _ _ _ (by omega), e4, mu_row_n _ _ _ (by omega), e3, mu_row_n _ _ _ (by omega), q0 103 (by omega) (by omega)]
          · rw [e5, mu_row_n _ _ _ (by omega), e4, mu_row_n _ _ _ (by omega), e3, mu_row_n _ _ _ (by omega), v0 _ (by omega), e1, mu_s]
          · rw [own]; exact v2 0 (by omega)
          · rw [own, v2 0 (by omega), v2 1 (by omega), v2 2 (by omega), v2 4 (by omega)]
      · first | refine cf1 (by decide) ?_ | refine cf2 (by decide) ?_
        unfold B_X8_lay_32
        first | refine ct1 rfl ?_ | refine ct2 rfl ?_
        by_cases c2 : 0 ≤ w2 ∧ w2 ≤ 3
        · have c2b := c2
          obtain ⟨i, hi, rfl⟩ := Rg.of (y := 3) (n := 3) rfl c2
          obtain ⟨f1, f2, f3, f4, f5⟩ := h4 i (by omega)
          refine s8_sheet_y c2b ?_
          first | refine zt1 ?_ | refine zt2 ?_
          first | refine ct1 rfl ?_ | refine ct2 rfl ?_
          refine ⟨i, rfl, by omega, ?_⟩
          rcases srt_or f3 with ⟨d1, d2, d3⟩ | ⟨d1, d2, d3⟩
          · refine s_miss_y (f1.trans d1) ?_
            first | refine zt1 ?_ | refine zt2 ?_
            show W_X9_lay _ _ _ _ _
            unfold W_X9_lay
            refine s9_slot_y c0b ?_
            first | refine zt1 ?_ | refine zt2 ?_
            refine s_in_y c1b ?_
            first | refine zt1 ?_ | refine zt2 ?_
            first | refine cf1 (by decide) ?_ | refine cf2 (by decide) ?_
            unfold B_X9_lay_29
            first | refine ct1 rfl ?_ | refine ct2 rfl ?_
            refine s9_sheet_y c2b ?_
            first | refine zt1 ?_ | refine zt2 ?_
            first | refine ct1 rfl ?_ | refine ct2 rfl ?_
            refine ⟨i, rfl, by omega, ?_⟩
            first | refine cf1 d2 ?_ | refine cf2 d2 ?_
            exact ⟨rfl, h.up⟩
          · refine s_miss_n (by rw [f1]; exact d1) ?_
            first | refine zf1 ?_ | refine zf2 ?_
            unfold B_X8_lay_67
            refine ⟨s, rfl, by omega, fun m1 e1 => ?_⟩
            first | refine cf1 (by decide) ?_ | refine cf2 (by decide) ?_
            first | refine ct1 rfl ?_ | refine ct2 rfl ?_
            have u0 : ∀ q, q ≠ 62 + 4 * s → m1 q = mem q := fun q nq => by rw [e1, mu_row_n _ _ _ nq]
            refine ⟨i, rfl, by omega, s_X3_becomeAs (by omega) (by omega) (by omega) (by omega) (fun m2 v0 v1 v2 => ?_)⟩
            have q0 : ∀ q, q ≠ 62 + 4 * s → q ≠ 62 + 4 * s + 2 → q ≠ 62 + 4 * s + 2 + 1 → m2 q = mem q := fun q n1 n2 n3 => by rw [v0 q n2 n3]; exact u0 q n1
            show W_X9_lay _ _ _ _ _
            unfold W_X9_lay
            refine s9_slot_y c0b ?_
            first | refine zt1 ?_ | refine zt2 ?_
            refine s_in_y c1b ?_
            first | refine zt1 ?_ | refine zt2 ?_
            first | refine cf1 (by decide) ?_ | refine cf2 (by decide) ?_
            unfold B_X9_lay_29
            first | refine ct1 rfl ?_ | refine ct2 rfl ?_
            refine s9_sheet_y c2b ?_
            first | refine zt1 ?_ | refine zt2 ?_
            first | refine ct1 rfl ?_ | refine ct2 rfl ?_
            refine ⟨i, rfl, by omega, ?_⟩
            rw [q0 97 (by omega) (by omega) (by omega)]
            first | refine ct1 d2 ?_ | refine ct2 d2 ?_
            unfold B_X9_lay_61
            refine ⟨s, rfl, by omega, s, rfl, by omega, fun m3 e3 => ?_⟩
            first | refine cf1 (by decide) ?_ | refine cf2 (by decide) ?_
            first | refine ct1 rfl ?_ | refine ct2 rfl ?_
            refine ⟨i, rfl, by omega, ?_⟩
            unfold B_X9_lay_110
            refine ⟨s, rfl, by omega, fun m4 e4 => ?_⟩
            first | refine cf1 (by decide) ?_ | refine cf2 (by decide) ?_
            refine ⟨s, rfl, by omega, fun m5 e5 => ⟨24 + 1, l_lay (by omega) (by omega) (fun m6 x1 x2 x3 => ?_) 24 0 m5 (by omega) (fun _ _ => rfl) (fun k2 hk2 => by omega) (fun _ _ => rfl)⟩⟩
            have e98 : m3 98 = mem 98 := by rw [e3, mu_row_n _ _ _ (by omega)]; exact q0 98 (by omega) (by omega) (by omega)
            rw [e98] at e4
            have far : ∀ q, q ≠ 100 → q ≠ 101 → q ≠ 102 → m5 q = m2 q := fun q n0 n1 n2 => by rw [e5, mu_row_n _ _ _ n2, e4, mu_row_n _ _ _ n1, e3, mu_row_n _ _ _ n0]
            refine ⟨by rw [g1, q0 100 (by omega) (by omega) (by omega)], ?_⟩
            refine lay_fin (s := s) (z := 2) (A := mem 98 i) (B := 0) h (by omega) hz (fun q a1 n0 n1 n2 n3 => ?_) ?_ ?_ ?_ (fun i2 hi2 => ?_) ?_ (fun e9 => by omega) (fun e9 => ⟨?_, f4, fun k hk => ?_⟩) (fun e9 => by omega)
            · rw [x1 q n3, far q n0 n1 n2]; exact q0 q (by omega) (by omega) (by omega)
            · rw [x1 100 (by omega), e5, mu_row_n _ _ _ (by omega), e4, mu_row_n _ _ _ (by omega), e3, mu_row_s, q0 100 (by omega) (by omega) (by omega)]
            · rw [x1 101 (by omega), e5, mu_row_n _ _ _ (by omega), e4, mu_row_s, e3, mu_row_n _ _ _ (by omega), q0 101 (by omega) (by omega) (by omega)]
            · rw [x1 102 (by omega), e5, mu_row_s, e4, mu_row_n _ _ _ (by omega), e3, mu_row_n _ _ _ (by omega), q0 102 (by omega) (by omega) (by omega)]
            · rw [x3 i2 hi2, far 103 (by omega) (by omega) (by omega), q0 103 (by omega) (by omega) (by omega)]
            · rw [x1 _ (by omega), far _ (by omega) (by omega) (by omega), v0 _ (by omega) (by omega), e1, mu_s]
            · rw [x1 _ (by omega), far _ (by omega) (by omega) (by omega), v1, u0 _ (by omega)]; exact f2
            · rw [x1 (62 + 4 * s + 2 + 1) (by omega), far _ (by omega) (by omega) (by omega), v2 k hk, u0 _ (by omega), x2 k hk, far 99 (by omega) (by omega) (by omega), q0 99 (by omega) (by omega) (by omega)]
              exact f5 k hk
        · refine s8_sheet_n c2 ?_
          first | refine zf1 ?_ | refine zf2 ?_
          show W_X9_lay _ _ _ _ _
          unfold W_X9_lay
          refine s9_slot_y c0b ?_
          first | refine zt1 ?_ | refine zt2 ?_
          refine s_in_y c1b ?_
          first | refine zt1 ?_ | refine zt2 ?_
          first | refine cf1 (by decide) ?_ | refine cf2 (by decide) ?_
          unfold B_X9_lay_29
          first | refine ct1 rfl ?_ | refine ct2 rfl ?_
          refine s9_sheet_n c2 ?_
          first | refine zf1 ?_ | refine zf2 ?_
          exact ⟨rfl, h.up⟩
    · refine s_iw_n c1 ?_
      first | refine zf1 ?_ | refine zf2 ?_
      show W_X9_lay _ _ _ _ _
      unfold W_X9_lay
      refine s9_slot_y c0b ?_
      first | refine zt1 ?_ | refine zt2 ?_
      refine s_in_n c1 ?_
      first | refine zf1 ?_ | refine zf2 ?_
      exact ⟨rfl, h.up⟩
  · refine s8_slot_n c0 ?_
    first | refine zf1 ?_ | refine zf2 ?_
    show W_X9_lay _ _ _ _ _
    unfold W_X9_lay
    refine s9_slot_n c0 ?_
    first | refine zf1 ?_ | refine zf2 ?_
    exact ⟨rfl, h.up⟩
