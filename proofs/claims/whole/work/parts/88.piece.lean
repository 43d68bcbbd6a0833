section
/-! THE CLASS TAKES A TEXT -/
theorem exw_all (T : Nat → Nat) (n s : Nat) : ∀ k p j, p ≤ j → j < exw T n s k p → srt T n j = s := by
  intro k
  induction k with
  | zero => intro p j h1 h2; exact absurd h2 (by show ¬ j < p; omega)
  | succ k ih =>
    intro p j h1 h2
    unfold exw at h2
    by_cases c1 : srt T n p = s
    · rw [if_pos c1] at h2
      by_cases c2 : j = p
      · rw [c2]; exact c1
      · exact ih (p + 1) j (by omega) h2
    · rw [if_neg c1] at h2; omega
theorem wTo_all {T : Nat → Nat} {n f : Nat} (hs : srt T n f = 1 ∨ srt T n f = 2) : ∀ j, f ≤ j → j < wTo T n f → srt T n j = srt T n f := by
  intro j h1 h2
  unfold wTo at h2
  rw [if_neg (by omega), if_neg (by omega)] at h2
  by_cases c2 : j = f
  · rw [c2]
  · exact exw_all T n _ _ _ j (by omega) h2
theorem nvl_lt {T : Nat → Nat} {f : Nat} : ∀ k, (∀ j, j < k → T (f + j) ≤ 57) → nvl T f k < 10 ^ k := by
  intro k
  induction k with
  | zero => intro _; exact Nat.one_pos
  | succ k ih =>
    intro h
    have z := ih (fun j hj => h j (by omega))
    have z2 := h k (by omega)
    show 10 * nvl T f k + (T (f + k) - 48) < 10 ^ (k + 1)
    rw [Nat.pow_succ]
    omega
theorem nvl_4 {T : Nat → Nat} {f k : Nat} (hk : k ≤ 4) (h : ∀ j, j < k → T (f + j) ≤ 57) : nvl T f k < 10000 := by
  have z := nvl_lt k h
  have z2 : 10 ^ k ≤ 10 ^ 4 := Nat.pow_le_pow_right (by decide) hk
  have z3 : (10 : Nat) ^ 4 = 10000 := rfl
  omega
theorem l7_num {T : Nat → Nat} {n f t : Nat} {m : Mm} {K : Int32 → Mm → Prop} (hT : TpC T n m) (h3 : m 45 3 = nI t) (ht : t ≤ n) (hd : ∀ j, f ≤ j → j < t → 48 ≤ T j ∧ T j ≤ 57) (hK : K (nI (nvl T f (t - f))) m) : ∀ (k j : Nat), f + j + k = t → L_X7_numberRead_7 K (k + 1) (nI (nvl T f j)) (nI (f + j)) m := by
  have hn := hT.2.1
  intro k
  induction k with
  | zero =>
    intro j hj
    unfold L_X7_numberRead_7
    first | refine ct1 (by rw [h3]; exact nI_le (by omega) (by omega)) ?_ | refine ct2 (by rw [h3]; exact nI_le (by omega) (by omega)) ?_
    rw [show t - f = j by omega] at hK
    exact hK
  | succ k ih =>
    intro j hj
    unfold L_X7_numberRead_7
    first | refine cf1 (by rw [h3]; exact nI_ge (by omega) (by omega)) ?_ | refine cf2 (by rw [h3]; exact nI_ge (by omega) (by omega)) ?_
    refine s7_byteAt hT (by omega) ?_
    have hb := hd (f + j) (by omega) (by omega)
    rw [cb_lo _ (by omega), show (10 : Int32) = nI 10 from rfl, pk_mul, nI_add, show (48 : Int32) = nI 48 from rfl, pk_sub (by omega), nI_1]
    have z := ih (j + 1) (by omega)
    rw [show nvl T f (j + 1) = nvl T f j * 10 + T (f + j) - 48 by show 10 * nvl T f j + (T (f + j) - 48) = _; omega] at z
    exact z
theorem s7_number {T : Nat → Nat} {n f t : Nat} {m : Mm} {K : Int32 → Mm → Prop} (hT : TpC T n m) (h2 : m 45 2 = nI f) (h3 : m 45 3 = nI t) (hft : f ≤ t) (ht : t ≤ n) (hd : ∀ j, f ≤ j → j < t → 48 ≤ T j ∧ T j ≤ 57) (hK : K (nI (nvl T f (t - f))) m) : W_X7_numberRead m K := by
  unfold W_X7_numberRead
  rw [h2]
  exact ⟨t - f + 1, l7_num hT h3 ht hd hK (t - f) 0 (by omega)⟩
/-! one of the names -/
theorem c16 : ∀ b, b < 128 → ((nI b).toUInt32 % 65536).toInt32 = nI b := by decide +kernel
theorem l7_ix {j L b : Nat} {p1 p2 p3 : Int32} {m : Mm} {K : Int32 → Mm → Prop} (hL : ss_L.getD j 0 = L) (hL9 : L ≤ 9) (hy : ∀ i, i < L → (ss_B.getD j []).getD i 0 = nI b → (∀ i2, i2 < i → (ss_B.getD j []).getD i2 0 ≠ nI b) → K (nI i) m) (hn : (∀ i2, i2 < L → (ss_B.getD j []).getD i2 0 ≠ nI b) → K (-1) m) : ∀ (k i : Nat), i + k = L → (∀ i2, i2 < i → (ss_B.getD j []).getD i2 0 ≠ nI b) → L_J1_indexOfChar_4cfef_7 j p1 p2 p3 K (k + 1) (nI L) (nI b) (nI i) m := by
  intro k
  induction k with
  | zero =>
    intro i hi hb
    unfold L_J1_indexOfChar_4cfef_7
    first | refine ct1 (nI_le (by omega) (by omega)) ?_ | refine ct2 (nI_le (by omega) (by omega)) ?_
    have e : i = L := by omega
    rw [e] at hb
    exact hn hb
  | succ k ih =>
    intro i hi hb
    unfold L_J1_indexOfChar_4cfef_7
    first | refine cf1 (nI_ge (by omega) (by omega)) ?_ | refine cf2 (nI_ge (by omega) (by omega)) ?_
    refine ⟨i, rfl, by omega, ?_⟩
    by_cases c1 : (ss_B.getD j []).getD i 0 = nI b
    · first | refine ct1 c1 ?_ | refine ct2 c1 ?_
      exact hy i (by omega) c1 hb
    · first | refine cf1 c1 ?_ | refine cf2 c1 ?_
      rw [nI_1]
      refine ih (i + 1) (by omega) (fun i2 hi2 => ?_)
      by_cases c2 : i2 = i
      · rw [c2]; exact c1
      · exact hb i2 (by omega)
theorem tb_nm : ∀ key, key < 3 → ∀ b, b < 128 → (∀ i, i < ss_L.getD (3 + key) 0 → (ss_B.getD (3 + key) []).getD i 0 = nI b → nmK key b = i) ∧ ((∀ i, i < ss_L.getD (3 + key) 0 → (ss_B.getD (3 + key) []).getD i 0 ≠ nI b) → nmK key b = 9) := by decide +kernel
theorem s7_index {key b : Nat} {m : Mm} {K : Int32 → Mm → Prop} (hk : key < 3) (hb : b < 128) (h : K (if nmK key b = 9 then -1 else nI (nmK key b)) m) : W_J0_indexOf_0f7a4 (3 + key) (nI b) m K := by
  have hL : ∃ L, ss_L.getD (3 + key) 0 = L ∧ L ≤ 4 ∧ 1 ≤ L ∧ (nI L >>> ((0 : Int32) &&& 31)) = nI L := by
    have e : key = 0 ∨ key = 1 ∨ key = 2 := by omega
    rcases e with rfl | rfl | rfl
    · exact ⟨4, rfl, by decide, by decide, by decide⟩
    · exact ⟨2, rfl, by decide, by decide, by decide⟩
    · exact ⟨2, rfl, by decide, by decide, by decide⟩
  obtain ⟨L, eL, hL4, hL1, esh⟩ := hL
  unfold W_J0_indexOf_0f7a4 W_J0_indexOf_7cf53 W_J0_isLatin1_aae02
  first | refine zt1 ?_ | refine zt2 ?_
  unfold W_J0_length_8abf5 W_J0_coder_7d493
  show W_J1_indexOf_4cfef (3 + key) (nI b) 0 (nI (ss_L.getD (3 + key) 0) >>> ((0 : Int32) &&& 31)) m _
  rw [eL, esh]
  unfold W_J1_indexOf_4cfef W_J1_canEncode_9a6ad
  first | refine cf1 (nI_pos (by omega)) ?_ | refine cf2 (nI_pos (by omega)) ?_
  first | refine cf1 (Int32.not_lt.mpr (nI_le (b := 255) (by omega) (by omega))) ?_ | refine cf2 (Int32.not_lt.mpr (nI_le (b := 255) (by omega) (by omega))) ?_
  first | refine zt1 ?_ | refine zt2 ?_
  rw [eL]
  intro y ey
  have ey2 : y = nI L := by rw [ey]; split <;> rfl
  rw [if_neg (by decide), ey2]
  first | refine ct1 (nI_lt (a := 0) (by omega) (by omega)) ?_ | refine ct2 (nI_lt (a := 0) (by omega) (by omega)) ?_
  unfold W_J1_indexOfChar_4cfef
  refine ⟨L + 1, ?_⟩
  rw [show (nI b).toInt8.toInt32 = nI b from cb_lo b hb]
  obtain ⟨t1, t2⟩ := tb_nm key hk b hb
  rw [eL] at t1 t2
  refine l7_ix eL (by omega) (fun i hi e1 _ => ?_) (fun e1 => ?_) L 0 (by omega) (fun i2 hi2 => by omega)
  · have z := t1 i hi e1
    rw [z, if_neg (by omega)] at h
    exact h
  · have z := t2 e1
    rw [z, if_pos rfl] at h
    exact h
theorem s7_names {key : Nat} {m : Mm} {K : Nat → Mm → Prop} (hk : key < 3) (h : K (3 + key) m) : W_X7_namesOf (nI key) m K := by
  unfold W_X7_namesOf
  have e : key = 0 ∨ key = 1 ∨ key = 2 := by omega
  rcases e with rfl | rfl | rfl
  · exact ct1 (by decide) h
  · exact cf1 (by decide) (ct1 (by decide) h)
  · exact cf1 (by decide) (cf1 (by decide) h)
/-- a piece: what the parser says of one -/
theorem b7_82 {key a b : Nat} {w : List Nat} {rc : List Int32} {m : Mm} {K : Bool → Mm → Prop} (ho : okw 7 w) (hS : CSt key true w rc a m) (hl : rc.length + w.length < 95) (hy : nmK key b < 9 → ∀ m2 : Mm, CSt key false (pnW w) (pnC w (nI (10000 + nmK key b) :: rc)) (a + 1) m2 → Fcl m m2 → K true m2) (hn : nmK key b = 9 → K false m) : B_X7_takesPiece_82 K (if nmK key b = 9 then -1 else nI (nmK key b)) m := by
  unfold B_X7_takesPiece_82
  by_cases c1 : nmK key b = 9
  · rw [if_pos c1]
    first | refine ct1 (by decide) ?_ | refine ct2 (by decide) ?_
    exact hn c1
  · have c2 : nmK key b < 9 := by
      have := nmK_f key b
      have := nfK_le key
      omega
    rw [if_neg c1]
    first | refine cf1 (nI_pos (by omega)) ?_ | refine cf2 (nI_pos (by omega)) ?_
    rw [show (10000 : Int32) = nI 10000 from rfl, nI_add]
    refine s7_takesValue ho hS hl (by omega) (fun m2 a1 a2 => ?_)
    first | refine zt1 ?_ | refine zt2 ?_
    exact hy c2 m2 a1 a2
def pie (T : Nat → Nat) (n key e : Nat) (w : List Nat) : Prop := (srt T n (wFm T n e) = 1 ∧ wTo T n (wFm T n e) = wFm T n e + 1 ∧ nmK key (T (wFm T n e)) < 9) ∨ (srt T n (wFm T n e) = 2 ∧ wTo T n (wFm T n e) ≤ wFm T n e + 4)
theorem s7_piece {T : Nat → Nat} {n key e ps a : Nat} {w : List Nat} {rc : List Int32} {m : Mm} {K : Bool → Mm → Prop} (hT : TpC T n m) (hk : key < 3) (he : e ≤ n) (hc : CWd T n e ps m) (h0 : srt T n (wFm T n e) ≠ 0) (ho : okw 7 w) (hS : CSt key true w rc a m) (hl : rc.length + w.length < 95) (hx : c11 w ≤ 8) (hx2 : c10 w ≤ 8)
  (h1 : srt T n (wFm T n e) = 1 → wTo T n (wFm T n e) = wFm T n e + 1 → nmK key (T (wFm T n e)) < 9 → ∀ m2 : Mm, CSt key false (pnW w) (pnC w (nI (10000 + nmK key (T (wFm T n e))) :: rc)) (a + 1) m2 → Fcl m m2 → K true m2)
  (h2 : srt T n (wFm T n e) = 2 → wTo T n (wFm T n e) ≤ wFm T n e + 4 → ∀ m2 : Mm, CSt key false (pnW w) (pnC w (nI (nvl T (wFm T n e) (wTo T n (wFm T n e) - wFm T n e)) :: rc)) (a + 1) m2 → Fcl m m2 → K true m2)
  (h3 : srt T n (wFm T n e) = 3 → T (wFm T n e) = 40 → c11 w < 8 → ∀ m2 : Mm, CSt key true (11 :: w) rc a m2 → Fcl m m2 → K true m2)
  (h4 : srt T n (wFm T n e) = 3 → T (wFm T n e) = 33 → c10 w < 8 → ∀ m2 : Mm, CSt key true (10 :: w) rc a m2 → Fcl m m2 → K true m2)
  (h5 : ¬ (srt T n (wFm T n e) = 1 ∧ wTo T n (wFm T n e) = wFm T n e + 1 ∧ nmK key (T (wFm T n e)) < 9) → ¬ (srt T n (wFm T n e) = 2 ∧ wTo T n (wFm T n e) ≤ wFm T n e + 4) → ¬ (srt T n (wFm T n e) = 3 ∧ T (wFm T n e) = 40 ∧ c11 w < 8) → ¬ (srt T n (wFm T n e) = 3 ∧ T (wFm T n e) = 33 ∧ c10 w < 8) → ∀ m2 : Mm, Fcl m m2 → K false m2) : W_X7_takesPiece m K := by
  have hn := hT.2.1
  have hfl := wFm_le (T := T) he
  have hsl := srt_le T n (wFm T n e)
  have hfn : wFm T n e < n := by
    have : ¬ n ≤ wFm T n e := fun z => h0 (srt_0.mpr z)
    omega
  have htl := wTo_le (T := T) hfn
  obtain ⟨k1, k2, k3, _⟩ := hc
  have hall := fun h => wTo_all (T := T) (n := n) (f := wFm T n e) h
  generalize wFm T n e = f at *
  have hb := (hT.2.2 f (by omega)).1
  have FR : Fcl m m := ⟨fun _ _ => rfl, fun _ _ => rfl⟩
  unfold W_X7_takesPiece
  rw [k1, k2, k3]
  have es : srt T n f = 1 ∨ srt T n f = 2 ∨ srt T n f = 3 := by omega
  rcases es with s1 | s1 | s1
  · rw [s1]
    first | refine cf1 (by decide) ?_ | refine cf2 (by decide) ?_
    first | refine ct1 (by decide) ?_ | refine ct2 (by decide) ?_
    rw [pk_sub (by omega)]
    by_cases c1 : wTo T n f = f + 1
    · rw [show wTo T n f - f = 1 by omega]
      first | refine ct1 (by decide) ?_ | refine ct2 (by decide) ?_
      rw [hS.2.1]
      refine s7_names hk (fun _ => ?_)
      rw [k2]
      have hlet := (srt_1.mp s1).2
      refine s7_byteAt hT (by omega) ?_
      rw [cb_lo _ (by omega), c16 _ (by omega)]
      refine s7_index hk (by omega) ?_
      refine b7_82 ho hS hl (fun c2 m2 a1 a2 => h1 s1 c1 c2 m2 a1 a2) (fun c2 => h5 (fun z => ?_) (fun z => ?_) (fun z => ?_) (fun z => ?_) m FR)
      · have := z.2.2; omega
      · have := z.1; omega
      · have := z.1; omega
      · have := z.1; omega
    · first | refine cf1 (fun z => c1 (by have := (nI_eq (b := 1) (show wTo T n f - f < 2 ^ 31 by omega) (by omega)).mp z; omega)) ?_ | refine cf2 (fun z => c1 (by have := (nI_eq (b := 1) (show wTo T n f - f < 2 ^ 31 by omega) (by omega)).mp z; omega)) ?_
      unfold B_X7_takesPiece_82
      first | refine ct1 (by decide) ?_ | refine ct2 (by decide) ?_
      exact h5 (fun z => c1 z.2.1) (fun z => by have := z.1; omega) (fun z => by have := z.1; omega) (fun z => by have := z.1; omega) m FR
  · rw [s1]
    first | refine ct1 (by decide) ?_ | refine ct2 (by decide) ?_
    rw [pk_sub (by omega)]
    have hdig : ∀ j, f ≤ j → j < wTo T n f → 48 ≤ T j ∧ T j ≤ 57 := fun j q1 q2 => (srt_2.mp ((hall (Or.inr s1) j q1 q2).trans s1)).2
    by_cases c1 : wTo T n f ≤ f + 4
    · first | refine cf1 (Int32.not_lt.mpr (nI_le (b := 4) (by omega) (by omega))) ?_ | refine cf2 (Int32.not_lt.mpr (nI_le (b := 4) (by omega) (by omega))) ?_
      refine s7_number hT k2 k3 (by omega) (by omega) hdig ?_
      have hv := nvl_4 (T := T) (f := f) (k := wTo T n f - f) (by omega) (fun j hj => (hdig (f + j) (by omega) (by omega)).2)
      refine s7_takesValue ho hS hl (by omega) (fun m2 a1 a2 => ?_)
      first | refine zt1 ?_ | refine zt2 ?_
      exact h2 s1 c1 m2 a1 a2
    · first | refine ct1 (nI_lt (a := 4) (by omega) (by omega)) ?_ | refine ct2 (nI_lt (a := 4) (by omega) (by omega)) ?_
      exact h5 (fun z => by have := z.1; omega) (fun z => c1 z.2) (fun z => by have := z.1; omega) (fun z => by have := z.1; omega) m FR
  · rw [s1]
    first | refine cf1 (by decide) ?_ | refine cf2 (by decide) ?_
    first | refine cf1 (by decide) ?_ | refine cf2 (by decide) ?_
    obtain ⟨g5, g6, g7, g8, g9, gk⟩ := hS
    refine s7_byteAt hT (by omega) ?_
    have b144 : ¬ (srt T n f = 3 ∧ T f = 40 ∧ c11 w < 8) → B_X7_takesPiece_144 K m := by
      intro no
      unfold B_X7_takesPiece_144
      rw [k2]
      refine s7_byteAt hT (by omega) ?_
      by_cases d1 : T f = 33
      · first | refine ct1 ((cb_eq (x := 33) hb (by omega)).mpr d1) ?_ | refine ct2 ((cb_eq (x := 33) hb (by omega)).mpr d1) ?_
        rw [g9]
        by_cases d2 : c10 w < 8
        · first | refine cf1 (nI_ge (b := 8) d2 (by omega)) ?_ | refine cf2 (nI_ge (b := 8) d2 (by omega)) ?_
          rw [nI_1]
          intro m1 e1
          refine s7_pushes (s := 10) (gk.f e1 (by omega) (by omega)) (by omega) (fun m2 a1 a2 a3 => h4 s1 d1 d2 m2 ⟨?_, ?_, ?_, ?_, ?_, a1⟩ ((Fcl.f e1 (by omega)).tr a2))
          · rw [a3 5 (by omega), e1, mu_j _ _ _ (by omega)]; exact g5
          · rw [a3 6 (by omega), e1, mu_j _ _ _ (by omega)]; exact g6
          · rw [a3 7 (by omega), e1, mu_j _ _ _ (by omega)]; exact g7
          · rw [a3 8 (by omega), e1, mu_j _ _ _ (by omega)]; exact g8
          · rw [a3 9 (by omega), e1, mu_s]; rfl
        · first | refine ct1 (nI_le (a := 8) (b := c10 w) (by omega) (by omega)) ?_ | refine ct2 (nI_le (a := 8) (b := c10 w) (by omega) (by omega)) ?_
          exact h5 (fun z => by have := z.1; omega) (fun z => by have := z.1; omega) no (fun z => d2 z.2.2) m FR
      · first | refine cf1 (fun z => d1 ((cb_eq (x := 33) hb (by omega)).mp z)) ?_ | refine cf2 (fun z => d1 ((cb_eq (x := 33) hb (by omega)).mp z)) ?_
        exact h5 (fun z => by have := z.1; omega) (fun z => by have := z.1; omega) no (fun z => d1 z.2.1) m FR
    by_cases d1 : T f = 40
    · first | refine ct1 ((cb_eq (x := 40) hb (by omega)).mpr d1) ?_ | refine ct2 ((cb_eq (x := 40) hb (by omega)).mpr d1) ?_
      rw [g8]
      by_cases d2 : c11 w < 8
      · first | refine cf1 (nI_ge (b := 8) d2 (by omega)) ?_ | refine cf2 (nI_ge (b := 8) d2 (by omega)) ?_
        rw [nI_1]
        intro m1 e1
        refine s7_pushes (s := 11) (gk.f e1 (by omega) (by omega)) (by omega) (fun m2 a1 a2 a3 => h3 s1 d1 d2 m2 ⟨?_, ?_, ?_, ?_, ?_, a1⟩ ((Fcl.f e1 (by omega)).tr a2))
        · rw [a3 5 (by omega), e1, mu_j _ _ _ (by omega)]; exact g5
        · rw [a3 6 (by omega), e1, mu_j _ _ _ (by omega)]; exact g6
        · rw [a3 7 (by omega), e1, mu_j _ _ _ (by omega)]; exact g7
        · rw [a3 8 (by omega), e1, mu_s]; rfl
        · rw [a3 9 (by omega), e1, mu_j _ _ _ (by omega)]; exact g9
      · first | refine ct1 (nI_le (a := 8) (b := c11 w) (by omega) (by omega)) ?_ | refine ct2 (nI_le (a := 8) (b := c11 w) (by omega) (by omega)) ?_
        exact b144 (fun z => d2 z.2.2)
    · first | refine cf1 (fun z => d1 ((cb_eq (x := 40) hb (by omega)).mp z)) ?_ | refine cf2 (fun z => d1 ((cb_eq (x := 40) hb (by omega)).mp z)) ?_
      exact b144 (fun z => d1 z.2.1)
end
