/-! rows told are checked -/
def chF (t : Nat → Int32) (many : Nat) : Nat → Nat → Rw → Int32
  | 0, i, _ => if many ≤ 2 * i then 0 else nI (1 + 2 * i)
  | r + 1, i, b => if 2 * i < many ∧ t (2 * i) = goS b 3 then (if 2 * i + 1 < many ∧ t (2 * i + 1) = nvN (goS b) (nm (goS b)) then chF t many r (i + 1) (goS b) else nI (1 + (2 * i + 1))) else nI (1 + 2 * i)
theorem s_isTold {k many : Nat} {v : Int32} {mem : Mm} {K : Bool → Mm → Prop} (hk : k ≤ 60) (hm : many ≤ 60) (h : K (decide (k < many ∧ mem 52 k = v)) mem) : W_X8_isTold (nI k) (nI many) v mem K := by
  unfold W_X8_isTold
  by_cases c1 : k < many
  · refine cf1 (nI_ge c1 (by omega)) (cf1 (nI_ge (a := k) (b := 60) (by omega) (by omega)) ⟨k, rfl, by omega, fun hc => ?_, fun hc => ?_⟩)
    · rw [decide_eq_false (fun z => hc z.2)] at h; exact h
    · rw [decide_eq_true ⟨c1, hc⟩] at h; exact h
  · refine ct1 (nI_le (by omega) (by omega)) ?_
    rw [decide_eq_false (fun z => c1 z.1)] at h; exact h
theorem one_add (n : Nat) : 1 + nI n = nI (1 + n) := nI_add 1 n
set_option maxHeartbeats 4000000 in
theorem l_check8 {N many : Nat} {p0 : Int32} {K : Int32 → Mm → Prop} (hN : N ≤ 30) (hm : many ≤ 60) : ∀ (r i : Nat) (b : Rw) (mem : Mm), i + r = N → Wm b → Wt b → AlA mem 27 b → (∀ m, Fr (PAl 27) mem m → K (chF (mem 52) many r i b) m) → L_X8_check_66 p0 K (r + 1) (nI many) (nI N) (nI (2 * i)) (nI i) mem := by
  intro r
  induction r with
  | zero =>
    intro i b mem hi hw hW hA hK
    have kk := hK mem (Fr.refl _ _)
    unfold chF at kk
    unfold L_X8_check_66
    refine ct1 (nI_le (by omega) (by omega)) ?_
    by_cases c1 : many ≤ 2 * i
    · rw [if_pos c1] at kk
      exact ct1 (nI_le c1 (by omega)) kk
    · rw [if_neg c1] at kk
      refine cf1 (nI_ge (by omega) (by omega)) ?_
      rw [one_add]
      exact kk
  | succ r ih =>
    intro i b mem hi hw hW hA hK
    obtain ⟨a1, a2, a3⟩ := goS_w hw
    unfold L_X8_check_66
    refine cf1 (nI_ge (by omega) (by omega)) (s_goOnce (by omega) (by omega) hw hW hA (fun m f1 A1 => ?_))
    have q52 : m 52 = mem 52 := f1.c 52 (by omega) (by omega)
    rw [A1.2.1.1]
    refine s_isTold (by omega) hm ?_
    rw [q52]
    unfold chF at hK
    by_cases c1 : 2 * i < many ∧ mem 52 (2 * i) = goS b 3
    · rw [decide_eq_true c1]
      rw [if_pos c1] at hK
      refine zt2 (s_nerves8 a1 A1.1 ?_)
      rw [nI_1 (2 * i)]
      refine s_isTold (by omega) hm ?_
      rw [q52]
      by_cases c2 : 2 * i + 1 < many ∧ mem 52 (2 * i + 1) = nvN (goS b) (nm (goS b))
      · rw [decide_eq_true c2]
        rw [if_pos c2] at hK
        rw [nI_1 (2 * i + 1), nI_1 i]
        refine zt2 (ih (i + 1) (goS b) m (by omega) a1 (hW.eq a3) A1 (fun m2 f2 => ?_))
        rw [q52]
        exact hK m2 (f1.trans f2)
      · rw [decide_eq_false c2]
        rw [if_neg c2] at hK
        rw [one_add]
        exact zf2 (hK m f1)
    · rw [decide_eq_false c1]
      rw [if_neg c1] at hK
      rw [one_add]
      exact zf2 (hK m f1)
theorem two_mul9 (n : Nat) : 2 * nI n = nI (2 * n) := pk_mul 2 n
theorem s_check179 {R N many : Nat} {p0 : Int32} {a : Rw} {mem : Mm} {K : Int32 → Mm → Prop} (hR : R ≤ 100) (hm : many ≤ 60) (hN : N ≤ 30) (h85 : ∀ j, j < 1433 → mem 85 j = a j) (h83 : ∀ j, 1433 ≤ j → mem 83 j = a j) (hK : ∀ m, Fr (fun q => q = 83) mem m → m 83 = a → K (if R = many ∧ R = 2 * N then 0 else nI (1 + R)) m) : B_X9_check_179 p0 K (nI many) (nI (2 * N)) (nI R) mem := by
  unfold B_X9_check_179
  refine s_copyAll (by omega) (by omega) (fun m f1 e1 => ?_)
  have e2 : m 83 = a := by
    rw [e1]
    funext j
    by_cases c1 : j < 1433
    · rw [if_pos c1]; exact h85 j c1
    · rw [if_neg c1]; exact h83 j (by omega)
  have kk := hK m f1 e2
  rw [one_add]
  refine ⟨fun hc => ?_, fun hc => ⟨fun hc2 => ?_, fun hc2 => ?_⟩⟩
  · rw [if_neg (fun z => hc (by rw [z.1]))] at kk; exact kk
  · rw [if_neg (fun z => hc2 (by rw [← z.2]))] at kk; exact kk
  · have x1 : R = many := (nI_eq (by omega) (by omega)).mp hc
    have x2 : R = 2 * N := (nI_eq (by omega) (by omega)).mp hc2
    rw [if_pos ⟨x1, x2⟩] at kk; exact kk
set_option maxHeartbeats 4000000 in
theorem l_check9 {N many : Nat} {p0 : Int32} {a t : Rw} {K : Int32 → Mm → Prop} (hN : N ≤ 30) (hm : many ≤ 60) : ∀ (r i : Nat) (mem : Mm), i + r = N → 2 * i ≤ many → Wm (mem 83) → Wt (mem 83) → (∀ k, k < many → mem 105 k = t k) → (∀ j, j < 1433 → mem 85 j = a j) → (∀ j, 1433 ≤ j → mem 83 j = a j) → (∀ m, Fr P83 mem m → m 83 = a → K (chF t many r i (mem 83)) m) → L_X9_check_79 p0 K (r + 2) (nI many) (nI (2 * N)) (nI (2 * i)) (nI i) mem := by
  intro r
  induction r with
  | zero =>
    intro i mem hi h2i hw hW ht h85 h83 hK
    unfold L_X9_check_79
    rw [two_mul9]
    refine ct1 (nI_le (by omega) (by omega)) (s_check179 (a := a) (by omega) hm hN h85 h83 (fun m f1 e1 => ?_))
    have kk := hK m (f1.mono (fun q hq => by omega)) e1
    unfold chF at kk
    by_cases c1 : many ≤ 2 * i
    · rw [if_pos c1] at kk
      rw [if_pos (by omega)]
      exact kk
    · rw [if_neg c1] at kk
      rw [if_neg (by omega)]
      exact kk
  | succ r ih =>
    intro i mem hi h2i hw hW ht h85 h83 hK
    obtain ⟨a1, a2, a3⟩ := goS_w hw
    unfold L_X9_check_79
    rw [two_mul9]
    refine cf1 (nI_ge (by omega) (by omega)) (ct2 rfl (s_aGo hw hW (fun m f1 e1 => ?_)))
    have g85 : ∀ j, j < 1433 → m 85 j = a j := fun j hj => by rw [f1.c 85 (by omega) (by omega)]; exact h85 j hj
    have g83 : ∀ j, 1433 ≤ j → m 83 j = a j := fun j hj => by rw [e1, a3 j (by omega)]; exact h83 j hj
    have q105 : m 105 = mem 105 := f1.c 105 (by omega) (by omega)
    have out : ∀ (R : Nat) (m2 : Mm), R < 2 * N → R ≠ 2 * (i + 1) → Fr P83 mem m2 → (∀ j, j < 1433 → m2 85 j = a j) → (∀ j, 1433 ≤ j → m2 83 j = a j) → (∀ m3, Fr P83 mem m3 → m3 83 = a → K (nI (1 + R)) m3) → L_X9_check_79 p0 K (r + 2) (nI many) (nI (2 * N)) (nI R) (nI (i + 1)) m2 := by
      intro R m2 hR1 hR2 f2 k85 k83 hK2
      unfold L_X9_check_79
      rw [two_mul9]
      have done : B_X9_check_179 p0 K (nI many) (nI (2 * N)) (nI R) m2 := by
        refine s_check179 (a := a) (by omega) hm hN k85 k83 (fun m3 f3 e3 => ?_)
        rw [if_neg (by omega)]
        exact hK2 m3 (f2.trans (f3.mono (fun q hq => by omega))) e3
      refine ⟨fun _ => done, fun _ => cf2 (fun z => hR2 ((nI_eq (by omega) (by omega)).mp z)) done⟩
    unfold chF at hK
    have miss1 : ¬ (2 * i < many ∧ t (2 * i) = goS (mem 83) 3) → B_X9_check_129 p0 (fun zl2 zl3 zl4 zl5 zm => L_X9_check_79 p0 K (r + 2) zl2 zl3 zl4 zl5 zm) K (nI many) (nI (2 * N)) (nI i) 0 (nI (2 * i)) m := by
      intro hc
      rw [if_neg hc] at hK
      unfold B_X9_check_129
      rw [Int32.add_zero, Int32.add_zero, two_mul9, nI_1, nI_1]
      refine cf2 (fun z => by have := (nI_eq (by omega) (by omega)).mp z; omega) ?_
      exact out (2 * i) m (by omega) (by omega) f1 g85 g83 hK
    refine ⟨fun hc => miss1 (fun z => ?_), fun hc => ?_⟩
    · have := (nI_leI (a := many) (b := 2 * i) (by omega) (by omega)).mp hc
      omega
    · have c0 : 2 * i < many := by
        by_cases c0 : 2 * i < many
        · exact c0
        · exact absurd (nI_le (by omega) (by omega)) hc
      refine ⟨2 * i, rfl, by omega, ?_⟩
      rw [q105, ht _ c0, e1]
      refine ⟨fun hx => miss1 (fun z => hx z.2), fun hx => ?_⟩
      rw [if_pos ⟨c0, hx⟩] at hK
      unfold B_X9_check_129
      rw [nI_1 (2 * i), two_mul9, nI_1 (2 * i), Int32.add_zero, nI_1 i]
      refine ct2 rfl ?_
      have miss2 : ∀ m2 : Mm, Fr P83 mem m2 → (∀ j, j < 1433 → m2 85 j = a j) → (∀ j, 1433 ≤ j → m2 83 j = a j) → ¬ (2 * i + 1 < many ∧ t (2 * i + 1) = nvN (goS (mem 83)) (nm (goS (mem 83)))) → L_X9_check_79 p0 K (r + 2) (nI many) (nI (2 * N)) (nI (2 * i + 1)) (nI (i + 1)) m2 := by
        intro m2 f2 k85 k83 hc2
        rw [if_neg hc2] at hK
        exact out (2 * i + 1) m2 (by omega) (by omega) f2 k85 k83 hK
      refine ⟨fun hy => miss2 m f1 g85 g83 (fun z => ?_), fun hy => ?_⟩
      · have := (nI_leI (a := many) (b := 2 * i + 1) (by omega) (by omega)).mp hy
        omega
      · have c1 : 2 * i + 1 < many := by
          by_cases c1 : 2 * i + 1 < many
          · exact c1
          · exact absurd (nI_le (by omega) (by omega)) hy
        refine ⟨2 * i + 1, rfl, by omega, s_nerves9 (by rw [e1]; exact a1) ?_⟩
        rw [q105, ht _ c1, e1]
        refine ⟨fun hz => miss2 m f1 g85 g83 (fun z => hz z.2), fun hz => ?_⟩
        rw [if_pos ⟨c1, hz⟩] at hK
        rw [nI_1 (2 * i + 1)]
        refine ih (i + 1) m (by omega) (by omega) (by rw [e1]; exact a1) (by rw [e1]; exact hW.eq a3) (fun k hk => by rw [q105]; exact ht k hk) g85 g83 (fun m3 f3 e3 => ?_)
        rw [e1]
        exact hK m3 (f1.trans f3) e3
theorem Iv.ck {c : Nat} {m m' : Mm} (h : Iv c m) (hf : Fr (fun q => q = 0 ∨ (27 ≤ q ∧ q < 40) ∨ q = 82 ∨ q = 83 ∨ q = 85 ∨ q = 95 ∨ q = 96) m m') (e83 : m' 83 = m 83) (h0 : ∀ j, j ≠ 10 → m' 0 j = m 0 j) (h82 : ∀ j, j ≠ 35 → m' 82 j = m 82 j) (h10 : m' 0 10 = 0) (h35 : m' 82 35 = 0) : Iv (c + 1) m' := by
  obtain ⟨g1, g2, g3, g4, g5, g6, g7, g8⟩ := h
  have e0 : nTx m' = nTx m := by unfold nTx; rw [h0 1000 (by omega)]
  have e84 := hf.c 84 (by omega) (by omega)
  refine ⟨⟨?_, by rw [e83]; exact g1.2⟩, ⟨by rw [e84]; exact g2.1, by rw [h0 3 (by omega), h82 3 (by omega)]; exact g2.2.1, ?_⟩, g3.fr hf ⟨by omega, by omega, by omega⟩ (h82 9 (by omega)), g4.fr hf (fun q a1 a2 => by omega) ⟨by omega, by omega, by omega⟩, g5.fr hf (fun q a1 a2 => by omega) ⟨by omega, by omega, by omega, by omega⟩, ?_, by rw [e0]; omega, g8.fr hf ⟨by omega, by omega⟩⟩
  · rw [e83]
    exact g1.1.f0 hf g1.2.1.2.1 (by omega) e0 (fun q a1 a2 => by omega) (fun q a1 => by omega)
  · rw [h0 3 (by omega), e84]
    rcases g2.2.2 with g | ⟨y1, y2, y3⟩
    · exact Or.inl g
    · exact Or.inr ⟨y1, y2.f0 hf y3.1.2.1 (by omega) e0 (fun q a1 a2 => by omega) (fun q a1 => by omega), y3⟩
  · refine ⟨by rw [h10, h35], by rw [h35]; exact ⟨0, by omega, rfl⟩, fun i hi => ?_⟩
    rw [h35] at hi
    exact absurd hi (by rw [show (0 : Int32).toNatClampNeg = 0 by decide]; omega)
set_option maxHeartbeats 4000000 in
theorem ak_check {c : Nat} (w0 : Int32) (mem : Mm) (h : Iv c mem) : W_X8_check w0 mem (fun v m => W_X9_check w0 m (fun v2 m2 => v = v2 ∧ Iv (c + 1) m2)) := by
  obtain ⟨hA, hR⟩ := h.1
  have hw := hR.1
  have hW := hR.2.1
  have h9 := hw.2.1
  have ek : mem 1 1 = nI (nm (mem 83)) := by rw [hA.1.1]; exact hw.1
  have h4 := h.2.2.2.1
  obtain ⟨g1, ⟨many, hm, em⟩, g3⟩ := h.2.2.2.2.2.1
  have e10 : mem 0 10 = nI many := g1.trans em
  rw [em, nI_clamp (by omega)] at g3
  obtain ⟨b1, b2, b3⟩ := h.2.1
  unfold W_X8_check
  intro m1 em1
  have u0 : ∀ q, q ≠ 0 → m1 q = mem q := fun q nq => by rw [em1, mu_row_n _ _ _ nq]
  have u3 : m1 0 3 = mem 0 3 := by rw [em1, mu_j _ _ _ (by omega)]
  have easy : ∀ v : Int32, (v = -1000000001 ∨ v = -1000000002) → (∀ m2 : Mm, Fr (fun q => q = 0 ∨ (27 ≤ q ∧ q < 40) ∨ q = 82 ∨ q = 83 ∨ q = 85 ∨ q = 95 ∨ q = 96) m1 m2 → m2 = mu m1 82 35 0 → Iv (c + 1) m2) := by
    intro v _ m2 _ e2
    refine h.ck ⟨fun q p1 p2 => by rw [e2, mu_row_n _ _ _ (by omega), u0 q (by omega)], fun q p1 => by unfold iSt at p1; rw [e2, mu_row_n _ _ _ (by omega), u0 q (by omega)]⟩ (by rw [e2, mu_row_n _ _ _ (by omega), u0 83 (by omega)]) (fun j nj => by rw [e2, mu_row_n _ _ _ (by omega), em1, mu_j _ _ _ nj]) (fun j nj => by rw [e2, mu_j _ _ _ nj, u0 82 (by omega)]) (by rw [e2, mu_row_n _ _ _ (by omega), em1, mu_s]) (by rw [e2, mu_s])
  have fin0 : ∀ m2 : Mm, m2 = mu m1 82 35 0 → Iv (c + 1) m2 := fun m2 e2 => easy (-1000000001) (Or.inl rfl) m2 (by rw [e2]; exact Fr.m1 _ _ _ (by omega) (by omega)) e2
  by_cases c1 : 1 ≤ w0 ∧ w0 ≤ 30
  · have c1b := c1
    obtain ⟨n, hn1, hn2, rfl⟩ := Rg.lo (l := 1) (n := 30) rfl rfl c1
    refine s_iw_y c1b ?_
    first | refine zt1 ?_ | refine zt2 ?_
    rw [u3]
    rcases b3 with b3 | ⟨b3, b4, b5⟩
    · first | refine ct1 b3 ?_ | refine ct2 b3 ?_
      show W_X9_check _ _ _
      unfold W_X9_check
      intro m2 e2
      refine s_in_y c1b ?_
      first | refine zt1 ?_ | refine zt2 ?_
      have x3 : m2 82 3 = 0 := by rw [e2, mu_j _ _ _ (by omega), u0 82 (by omega), ← b2]; exact b3
      rw [x3]
      first | refine ct1 rfl ?_ | refine ct2 rfl ?_
      exact ⟨rfl, fin0 m2 e2⟩
    · first | refine cf1 (by rw [b3]; decide) ?_ | refine cf2 (by rw [b3]; decide) ?_
      obtain ⟨gg, hgg, egg⟩ := b5.2.2.2
      obtain ⟨k1, k2⟩ := min_ng hgg (show n ≤ 1000 by omega)
      have hmin : min n (9999 - gg) ≤ 30 := Nat.le_trans (Nat.min_le_left _ _) hn2
      have f01 : Fr (fun q => q = 0) mem m1 := by rw [em1]; exact Fr.m1 _ _ _ rfl (by omega)
      have en1 : nTx m1 = nTx mem := by unfold nTx; rw [em1, mu_j _ _ _ (by omega)]
      have A0 : AlA m1 14 (mem 84) := b4.f0 f01 b5.1.2.1 (by omega) en1 (fun q a1 a2 => by omega) (fun q a1 => by omega)
      refine s_becomeAs (by omega) (by omega) (fun q a1 a2 => by omega) (by omega) b5.1 b5.2.1 A0 (fun m2 f2 A2 y ey => ?_)
      have x5 : m2 14 5 = mem 84 2 := by rw [f2.c 14 (by omega) (by omega)]; exact A0.2.1.2.2.2.1
      rw [x5, egg, k1] at ey
      rw [ey, e10]
      refine ⟨min n (9999 - gg) + 1, l_check8 hmin hm (min n (9999 - gg)) 0 (mem 84) m2 (by omega) b5.1 b5.2.1 A2 (fun m3 f3 => ?_)⟩
      have f23 : Fr (PAl 27) m1 m3 := f2.trans f3
      have v0 : ∀ q, q < 106 → q ≠ 0 → (q < 27 ∨ 40 ≤ q) → m3 q = mem q := fun q a0 a1 a2 => by rw [f23.c q a0 (by omega)]; exact u0 q a1
      have q52 : m2 52 = mem 52 := by rw [f2.c 52 (by omega) (by omega)]; exact u0 52 (by omega)
      rw [q52]
      show W_X9_check _ _ _
      unfold W_X9_check
      intro m4 e4
      have w82 : m3 82 = mem 82 := v0 82 (by omega) (by omega) (by omega)
      rw [w82, em]
      have z0 : ∀ q, q < 106 → q ≠ 0 → q ≠ 82 → (q < 27 ∨ 40 ≤ q) → m4 q = mem q := fun q a0 a1 a3 a2 => by rw [e4, mu_row_n _ _ _ a3]; exact v0 q a0 a1 a2
      refine s_in_y c1b ?_
      first | refine zt1 ?_ | refine zt2 ?_
      have x3 : m4 82 3 = 1 := by rw [e4, mu_j _ _ _ (by omega), w82, ← b2]; exact b3
      rw [x3]
      first | refine cf1 (by decide) ?_ | refine cf2 (by decide) ?_
      refine s_copyAll (by omega) (by omega) (fun m5 f5 e5 => ?_)
      refine s_copyAll (by omega) (by omega) (fun m6 f6 e6 => ?_)
      have r83 : m5 83 = mem 83 := by rw [f5.c 83 (by omega) (by omega)]; exact z0 83 (by omega) (by omega) (by omega) (by omega)
      have r84 : m5 84 = mem 84 := by rw [f5.c 84 (by omega) (by omega)]; exact z0 84 (by omega) (by omega) (by omega) (by omega)
      rw [r83, r84, cp_hi b5.2.2.1 hR.2.2.1] at e6
      rw [z0 83 (by omega) (by omega) (by omega) (by omega)] at e5
      rw [e6, egg]
      refine s_X9_within ?_
      rw [k2, two_mul9]
      have t105 : m6 105 = mem 105 := by rw [f6.c 105 (by omega) (by omega), f5.c 105 (by omega) (by omega)]; exact z0 105 (by omega) (by omega) (by omega) (by omega)
      refine ⟨min n (9999 - gg) + 2, l_check9 (a := mem 83) (t := mem 52) hmin hm (min n (9999 - gg)) 0 m6 (by omega) (by omega) (by rw [e6]; exact b5.1) (by rw [e6]; exact b5.2.1) (fun k hk => by rw [t105]; exact (g3 k hk).symm) (fun j hj => by rw [f6.c 85 (by omega) (by omega), e5]; exact if_pos hj) (fun j hj => by rw [e6, b5.2.2.1 j hj, hR.2.2.1 j hj]) (fun m7 f7 e7 => ⟨by rw [e6], ?_⟩)⟩
      have F47 : Fr (fun q => q = 0 ∨ (27 ≤ q ∧ q < 40) ∨ q = 82 ∨ q = 83 ∨ q = 85 ∨ q = 95 ∨ q = 96) m4 m7 := ((f5.mono (fun q hq => by omega)).trans (f6.mono (fun q hq => by omega))).trans (f7.mono (fun q hq => by omega))
      have F4 : Fr (fun q => q = 0 ∨ (27 ≤ q ∧ q < 40) ∨ q = 82 ∨ q = 83 ∨ q = 85 ∨ q = 95 ∨ q = 96) mem m4 := by
        rw [e4]
        exact ((f01.mono (fun q hq => by omega)).trans (f23.mono (fun q hq => by omega))).trans (Fr.m1 _ _ _ (by omega) (by omega))
      have k0 : m7 0 = m1 0 := by rw [f7.c 0 (by omega) (by omega), f6.c 0 (by omega) (by omega), f5.c 0 (by omega) (by omega), e4, mu_row_n _ _ _ (by omega), f23.c 0 (by omega) (by omega)]
      have k82 : m7 82 = m4 82 := by rw [f7.c 82 (by omega) (by omega), f6.c 82 (by omega) (by omega), f5.c 82 (by omega) (by omega)]
      exact h.ck (F4.trans F47) e7 (fun j nj => by rw [k0, em1, mu_j _ _ _ nj]) (fun j nj => by rw [k82, e4, mu_j _ _ _ nj, w82]) (by rw [k0, em1, mu_s]) (by rw [k82, e4, mu_s])
  · refine s_iw_n c1 ?_
    first | refine zf1 ?_ | refine zf2 ?_
    show W_X9_check _ _ _
    unfold W_X9_check
    intro m2 e2
    refine s_in_n c1 ?_
    first | refine zf1 ?_ | refine zf2 ?_
    exact ⟨rfl, fin0 m2 e2⟩
