/-! texts of a row; which one counts -/
def nt (a : Rw) : Nat := (a 6).toNatClampNeg
def cdl (a : Rw) (t : Nat) : Int32 := a (61 + 2 * t) - a (61 + 2 * t) / 1000 * 1000
def nfK (key : Nat) : Nat := if key = 0 then 4 else 2
theorem nfK_le (key : Nat) : nfK key ≤ 4 := by unfold nfK; split <;> omega
def Wt (a : Rw) : Prop := a 6 = nI (nt a) ∧ nt a ≤ 14 ∧ ∀ t, t < nt a → ∃ key n p : Nat, key < 3 ∧ n < 96 ∧ p ≤ 90 ∧ a (61 + 2 * t) / 1000 = nI key ∧ cdl a t = nI n ∧ a (62 + 2 * t) = nI p ∧ okT (fun i => a (89 + 96 * t + i)) (nfK key) n p
def ctN (a : Rw) (key : Nat) : Nat → Int32
  | 0 => -1
  | n + 1 => if a (61 + 2 * n) / 1000 = nI key then nI n else ctN a key n
def ctS (a : Rw) (key : Nat) : Int32 := ctN a key (nt a)
theorem ctN_or (a : Rw) (key n : Nat) : ctN a key n = -1 ∨ ∃ t, t < n ∧ ctN a key n = nI t ∧ a (61 + 2 * t) / 1000 = nI key := by
  induction n with
  | zero => exact Or.inl rfl
  | succ n ih =>
    unfold ctN
    by_cases h : a (61 + 2 * n) / 1000 = nI key
    · rw [if_pos h]
      exact Or.inr ⟨n, by omega, rfl, h⟩
    · rw [if_neg h]
      rcases ih with h2 | ⟨t, h2, h3, h4⟩
      · exact Or.inl h2
      · exact Or.inr ⟨t, by omega, h3, h4⟩
theorem sub1 (n : Nat) : nI n - 1 = nI n + (-1) := by
  cases n with
  | zero => decide
  | succ n => rw [nI_pred, pk_m1]
theorem ix_2 (t : Nat) : 61 + 2 * nI t = nI (61 + 2 * t) := by
  rw [show (61 : Int32) = nI 61 from rfl, show (2 : Int32) = nI 2 from rfl, pk_mul, nI_add]
theorem l_counts {key : Nat} {p0 : Int32} {mem : Mm} {K : Int32 → Mm → Prop} : ∀ n, n ≤ 14 → K (ctN (mem 83) key n) mem → L_X9_counts_10 p0 K (n + 1) (nI key) (nI n + (-1)) mem := by
  intro n
  induction n with
  | zero =>
    intro _ h
    unfold L_X9_counts_10
    exact ct1 (by decide) h
  | succ n ih =>
    intro hn h
    unfold L_X9_counts_10
    rw [pk_m1]
    refine cf1 (nI_pos (by omega)) ⟨61 + 2 * n, ix_2 n, by omega, ?_⟩
    unfold ctN at h
    refine ⟨fun hc => ?_, fun hc => ?_⟩
    · rw [if_neg hc] at h
      exact ih (by omega) h
    · rw [if_pos hc] at h
      exact h
theorem s_counts {key : Nat} {mem : Mm} {K : Int32 → Mm → Prop} (hw : Wt (mem 83)) (h : K (ctS (mem 83) key) mem) : W_X9_counts (nI key) mem K := by
  unfold W_X9_counts
  refine ⟨nt (mem 83) + 1, ?_⟩
  rw [hw.1, sub1]
  exact l_counts _ hw.2.1 h
/-- a text of the class is a text of a row -/
def TxR (mem : Mm) (x : Int32) (a : Rw) (t : Nat) : Prop := ∃ j : Nat, x = nI j ∧ j < nTx mem ∧ nTx mem ≤ 100000 ∧ mem (106 + 3 * j) 0 = a (61 + 2 * t) / 1000 ∧ mem (106 + 3 * j) 1 = a (62 + 2 * t) ∧ mem (106 + 3 * j + 1) 1000 = cdl a t ∧ (∀ i, i < (cdl a t).toNatClampNeg → mem (106 + 3 * j + 1) i = trS (a (89 + 96 * t + i))) ∧ mem (106 + 3 * j + 2) 1000 = nI (max 1 (a (62 + 2 * t)).toNatClampNeg)
def whN (x : Int32) : Int32 := if x < 0 then -1000000005 else x
def AlT (mem : Mm) (k : Nat) (a : Rw) : Prop := mem k 8 = a 6 ∧ (∀ t, t < nt a → TxR mem (mem (k + 2) t) a t) ∧ ∀ key, key < 3 → mem (k + 3) key = whN (ctS a key)
theorem s_counted_n {k key : Nat} {a : Rw} {mem : Mm} {K : Int32 → Mm → Prop} (hA : AlT mem k a) (hkey : key < 3) (hc : ctS a key < 0) (h : K (-1) mem) : W_X0_counted k (nI key) mem K := by
  unfold W_X0_counted
  refine ⟨key, rfl, hkey, s_iw_n ?_ (zf1 h)⟩
  rw [hA.2.2 key hkey]
  unfold whN
  rw [if_pos hc]
  intro z
  exact absurd z.1 (by decide)
theorem s_counted_y {k key t : Nat} {a : Rw} {mem : Mm} {K : Int32 → Mm → Prop} (hW : Wt a) (hA : AlT mem k a) (hkey : key < 3) (ht : t < nt a) (hc : ctS a key = nI t) (h : K (mem (k + 2) t) mem) : W_X0_counted k (nI key) mem K := by
  have h14 := hW.2.1
  unfold W_X0_counted
  refine ⟨key, rfl, hkey, ?_⟩
  rw [hA.2.2 key hkey]
  unfold whN
  rw [hc, if_neg (nI_pos (by omega))]
  refine s_iw_y ⟨nI_pos' (by omega), ?_⟩ (zt1 ⟨t, rfl, by omega, fun _ => h, fun _ => h⟩)
  rw [hA.1, hW.1, show (1 : Int32) = nI 1 from rfl, pk_sub (by omega)]
  exact nI_le (by omega) (by omega)
def evT (a : Rw) (t : Nat) (f : Nat → Int32) : Int32 := (ev (fun i => a (89 + 96 * t + i)) f (cdl a t).toNatClampNeg).headD 0
theorem s_worksOut {t : Nat} {mem : Mm} {K : Int32 → Mm → Prop} (hW : Wt (mem 83)) (ht : t < nt (mem 83)) (h : ∀ m, Fr (fun q => q = 95) mem m → K (evT (mem 83) t (mem 96)) m) : W_X9_worksOut (nI t) mem K := by
  have h14 := hW.2.1
  obtain ⟨key, n, p, hk, hn, hp, e1, e2, e3, d, d0, d1, ds⟩ := hW.2.2 t ht
  unfold W_X9_worksOut
  refine ⟨61 + 2 * t, ix_2 t, by omega, n + 1, ?_⟩
  have e9 : mem 83 (61 + 2 * t) - mem 83 (61 + 2 * t) / 1000 * 1000 = nI n := e2
  rw [e9]
  have z := l_worksOut (p0 := nI t) (f := mem 96) (K := K) (m0 := mem) (by omega) hn (by omega) (nfK_le key) d0 d1 ds (fun k _ => rfl) (fun _ _ => rfl) (fun m hm => by
    have := h m hm
    unfold evT at this
    rw [e2, nI_clamp (by omega)] at this
    exact this) n 0 mem (by omega) (Fr.refl _ _) trivial
  rw [d0] at z
  exact z
theorem s_gives {k t : Nat} {a : Rw} {x0 x1 x2 x3 : Int32} {mem : Mm} {K : Int32 → Mm → Prop} (hW : Wt a) (hA : AlT mem k a) (ht : t < nt a) (h : ∀ m, Fr (fun _ => False) mem m → K (evT a t (ch4 x0 x1 x2 x3)) m) : ¬ mem (k + 2) t < 0 ∧ (mem (k + 2) t).toNatClampNeg < nTx mem ∧ W_X6_gives (mem (k + 2) t).toNatClampNeg x0 x1 x2 x3 mem K := by
  obtain ⟨key, n, p, hk, hn, hp, e1, e2, e3, d, d0, d1, ds⟩ := hW.2.2 t ht
  obtain ⟨j, x1e, x2e, x3e, x4e, x5e, x6e, x7e, x8e⟩ := hA.2.1 t ht
  rw [x1e, nI_clamp (by omega)]
  refine ⟨nI_pos (by omega), x2e, ?_⟩
  unfold W_X6_gives
  refine ⟨n + 1, ?_⟩
  rw [e2, nI_clamp (by omega)] at x7e
  rw [e3, nI_clamp (by omega)] at x8e
  have z := l_gives (j := j) (q9 := max 1 p) (y0 := x0) (y1 := x1) (y2 := x2) (y3 := x3) (x0 := x0) (x1 := x1) (x2 := x2) (x3 := x3) (K := K) (m0 := mem) hn (by omega) (by omega) (nfK_le key) d0 d1 ds x2e (x6e.trans e2) x8e (by omega) (fun k hk => x7e k hk) (fun m hm => by
    have := h m hm
    unfold evT at this
    rw [e2, nI_clamp (by omega)] at this
    exact this) n 0 mem (by omega) (Fr.refl _ _) trivial
  rw [d0] at z
  exact z
/-- a text works out alike where its names do -/
theorem evT_f {a : Rw} {t key : Nat} {f g : Nat → Int32} (hW : Wt a) (ht : t < nt a) (hkey : a (61 + 2 * t) / 1000 = nI key) (hk3 : key < 3) (hf : ∀ i, i < nfK key → f i = g i) : evT a t f = evT a t g := by
  obtain ⟨key2, n, p, hk, hn, hp, e1, e2, e3, d, d0, d1, ds⟩ := hW.2.2 t ht
  have e : key = key2 := (nI_eq (by omega) (by omega)).mp (hkey.symm.trans e1)
  subst e
  unfold evT
  rw [e2, nI_clamp (by omega), ev_f (nfK_le key) ds hf n (Nat.le_refl _)]
/-! what one bears -/
theorem clamp_rg (v : Int32) : Rg (clampI v 0 99) 99 := by
  unfold clampI
  by_cases h1 : v < 0
  · rw [if_pos h1]; exact ⟨0, by omega, rfl⟩
  · rw [if_neg h1]
    by_cases h2 : 99 < v
    · rw [if_pos h2]; exact ⟨99, by omega, rfl⟩
    · rw [if_neg h2]
      exact Rg.of (y := 99) rfl ⟨Int32.not_lt.mp h1, Int32.not_lt.mp h2⟩
theorem held_clamp (v : Int32) : (if 0 < (if 99 < v then 99 else v) then (if 99 < v then 99 else v) else 0) = clampI v 0 99 := by
  unfold clampI
  have z0 : (0 : Int32).toInt = 0 := rfl
  have z9 : (99 : Int32).toInt = 99 := rfl
  by_cases h2 : 99 < v
  · rw [if_pos h2, if_pos (by decide)]
    rw [Int32.lt_iff_toInt_lt, z9] at h2
    rw [if_neg (by rw [Int32.lt_iff_toInt_lt, z0]; omega)]
  · rw [if_neg h2]
    by_cases h1 : v < 0
    · rw [if_pos h1]
      rw [Int32.lt_iff_toInt_lt, z0] at h1
      rw [if_neg (by rw [Int32.lt_iff_toInt_lt, z0]; omega)]
    · rw [if_neg h1]
      by_cases h3 : 0 < v
      · rw [if_pos h3]
      · rw [if_neg h3]
        rw [Int32.lt_iff_toInt_lt, z0] at h1 h3
        apply Int32.toInt_inj.mp
        rw [z0]
        omega
theorem s_held {v : Int32} {mem : Mm} {K : Int32 → Mm → Prop} (h : K (clampI v 0 99) mem) : W_X8_held v 99 mem K := by
  unfold W_X8_held
  rw [held_clamp]
  exact h
def plS (a : Rw) (i : Nat) (s : Int32) : Int32 := if ctS a 0 < 0 then a (7 + 6 * i + 1) else clampI (evT a (ctS a 0).toNatClampNeg (ch4 (a (7 + 6 * i + 1)) (a (7 + 6 * i + 2)) (a (7 + 6 * i + 4)) s)) 0 99
theorem plS_rg {a : Rw} {i : Nat} {s : Int32} (hw : Wm a) (hi : i < nm a) : Rg (plS a i s) 99 := by
  unfold plS
  split
  · exact hw.2.2 i 1 hi (by omega)
  · exact clamp_rg _
def amS (so pl t : Int32) : Int32 := if t = so then (if 0 < pl - 20 then pl - 20 else 0) else pl
def brS (kd so wt pl t ot : Int32) : Int32 := if kd = 1 then amS so pl t + wt / 10 else if kd = 2 then (if t = 0 then 99 else amS so pl t) else if kd = 3 then amS so pl t + wt / 10 + 5 * ot else if kd = 4 then (if 0 < (if t = 0 then 99 else amS so pl t) - 10 then (if t = 0 then 99 else amS so pl t) - 10 else 0) else if kd = 5 then 99 else amS so pl t
theorem s_X1_bearing {k : Nat} {pl t ot : Int32} {mem : Mm} {K : Int32 → Mm → Prop} (h : K (brS (mem k 0) (mem k 3) (mem k 2) pl t ot) mem) : W_X1_bearing k pl t ot mem K := by
  unfold W_X1_bearing B_X1_bearing_20 B_X1_bearing_45
  unfold brS amS at h
  by_cases h1 : t = mem k 3
  · simp only [if_pos h1] at h
    refine ct2 h1 ?_
    by_cases h0 : t = 0
    · simp only [if_pos h0] at h
      refine ct2 h0 ?_
      repeat' (first | exact h | (refine ⟨fun hc => ?_, fun hc => ?_⟩ <;> first | rw [if_pos hc] at h | rw [if_neg hc] at h))
    · simp only [if_neg h0] at h
      refine cf2 h0 ?_
      repeat' (first | exact h | (refine ⟨fun hc => ?_, fun hc => ?_⟩ <;> first | rw [if_pos hc] at h | rw [if_neg hc] at h))
  · simp only [if_neg h1] at h
    refine cf2 h1 ?_
    by_cases h0 : t = 0
    · simp only [if_pos h0] at h
      refine ct2 h0 ?_
      repeat' (first | exact h | (refine ⟨fun hc => ?_, fun hc => ?_⟩ <;> first | rw [if_pos hc] at h | rw [if_neg hc] at h))
    · simp only [if_neg h0] at h
      refine cf2 h0 ?_
      repeat' (first | exact h | (refine ⟨fun hc => ?_, fun hc => ?_⟩ <;> first | rw [if_pos hc] at h | rw [if_neg hc] at h))
theorem s_plainBearing {k i : Nat} {a : Rw} {s : Int32} {mem : Mm} {K : Int32 → Mm → Prop} (hw : Wm a) (hW : Wt a) (hM : AlM mem k a) (hA : AlT mem k a) (hi : i < nm a) (h : ∀ m, Fr (fun _ => False) mem m → K (plS a i s) m) : W_X0_plainBearing k (nI i) s mem K := by
  have h9 := hw.2.1
  have h14 := hW.2.1
  unfold W_X0_plainBearing
  refine ⟨i, rfl, by omega, ?_⟩
  unfold plS at h
  rcases ctN_or a 0 (nt a) with hc | ⟨t, ht, hc, hkey⟩
  · have hc2 : ctS a 0 < 0 := by show ctN a 0 (nt a) < 0; rw [hc]; decide
    rw [if_pos hc2] at h
    refine s_counted_n (key := 0) hA (by omega) hc2 (ct1 (by decide) ?_)
    rw [hM.2 i 1 hi (by omega)]
    exact h mem (Fr.refl _ _)
  · have hc2 : ctS a 0 = nI t := hc
    rw [hc2, if_neg (nI_pos (by omega)), nI_clamp (by omega)] at h
    refine s_counted_y (key := 0) hW hA (by omega) ht hc2 ?_
    rw [hM.2 i 1 hi (by omega), hM.2 i 2 hi (by omega), hM.2 i 4 hi (by omega)]
    obtain ⟨g1, g2, g3⟩ := s_gives (x0 := a (7 + 6 * i + 1)) (x1 := a (7 + 6 * i + 2)) (x2 := a (7 + 6 * i + 4)) (x3 := s) (K := fun v m => W_X8_held v 99 m (fun v m => K v m)) hW hA ht (fun m hm => s_held (h m hm))
    exact cf1 g1 ⟨g2, g3⟩
def otS (a : Rw) (i : Nat) : Int32 := if a (7 + 6 * i + 5) = 0 then nI (pc9 (stS a)) - 1 else nI (pc9 (stS a))
def bearS (a : Rw) (i : Nat) (t : Int32) : Int32 := brS (a (7 + 6 * i + 0)) (a (7 + 6 * i + 3)) (a (7 + 6 * i + 2)) (plS a i (nI (pc9 (stS a)))) t (otS a i)
theorem AlM.fr {P : Nat → Prop} {m m' : Mm} {k : Nat} {a : Rw} (h : AlM m k a) (hf : Fr P m m') (hw : nm a ≤ 9) (hk : k + 13 ≤ 106) (hp : ∀ q, k ≤ q → q < k + 13 → ¬ P q) : AlM m' k a :=
  ⟨by rw [hf.c k (by omega) (hp _ (by omega) (by omega))]; exact h.1, fun i j hi hj => by rw [hf.c (k + 4 + i) (by omega) (hp _ (by omega) (by omega))]; exact h.2 i j hi hj⟩
theorem s_X0_bearing {k i : Nat} {a : Rw} {t : Int32} {mem : Mm} {K : Int32 → Mm → Prop} (hk : k + 13 ≤ 106) (hw : Wm a) (hW : Wt a) (hM : AlM mem k a) (hA : AlT mem k a) (hi : i < nm a) (h : ∀ m, Fr (fun _ => False) mem m → K (bearS a i t) m) : W_X0_bearing k (nI i) t mem K := by
  have h9 := hw.2.1
  unfold W_X0_bearing
  refine s_X0_standing hw hM ⟨i, rfl, by omega, ?_⟩
  rw [hM.2 i 5 hi (by omega)]
  have key : ∀ ot : Int32, otS a i = ot → W_X0_plainBearing k (nI i) (nI (pc9 (stS a))) mem (fun v_35 m_35 => W_X1_bearing (k + 4 + i) v_35 t ot m_35 (fun v_41 m_41 => K v_41 m_41)) := by
    intro ot eo
    refine s_plainBearing hw hW hM hA hi (fun m hm => s_X1_bearing ?_)
    have hM2 := hM.fr hm h9 hk (fun _ _ _ => fun z => z)
    have e0 : m (k + 4 + i) 0 = a (7 + 6 * i + 0) := hM2.2 i 0 hi (by omega)
    rw [e0, hM2.2 i 3 hi (by omega), hM2.2 i 2 hi (by omega), ← eo]
    exact h m hm
  refine ⟨fun hc => ⟨i, rfl, by omega, key _ ?_⟩, fun hc => ⟨i, rfl, by omega, key _ ?_⟩⟩
  · unfold otS; rw [if_pos hc]
  · unfold otS; rw [if_neg hc]
/-! the reference's side -/
theorem tb_am : ∀ k, k < 100 → clampI (nI k) 0 99 = nI k ∧ clampI (nI k - 20) 0 99 = (if 0 < nI k - 20 then nI k - 20 else 0) ∧ clampI (nI k - 10) 0 99 = (if 0 < nI k - 10 then nI k - 10 else 0) := by decide +kernel
theorem am_cl {so pl t : Int32} (h : Rg pl 99) : clampI (if t = so then pl - 20 else pl) 0 99 = amS so pl t := by
  obtain ⟨k, hk, rfl⟩ := h
  unfold amS
  by_cases e : t = so
  · rw [if_pos e, if_pos e]; exact (tb_am k (by omega)).2.1
  · rw [if_neg e, if_neg e]; exact (tb_am k (by omega)).1
theorem am_rg {so pl t : Int32} (h : Rg pl 99) : Rg (amS so pl t) 99 := by
  rw [← am_cl h]
  exact clamp_rg _
theorem el_cl {x : Int32} (h : Rg x 99) : clampI (x - 10) 0 99 = (if 0 < x - 10 then x - 10 else 0) := by
  obtain ⟨k, hk, rfl⟩ := h
  exact (tb_am k (by omega)).2.2
theorem tb_out : ∀ i, i < 9 → ∀ s, s < 512 → nI s &&& ((1 <<< (nI i &&& 31)) ^^^ (-1)) = nI (if s / 2 ^ i % 2 = 1 then s - 2 ^ i else s) ∧ (s / 2 ^ i % 2 = 1 → pc9 (s - 2 ^ i) + 1 = pc9 s) := by decide +kernel
theorem tb_hi : ∀ n, n < 9 → ∀ s, s < 2 ^ n → (s + 2 ^ n) / 2 ^ n % 2 = 1 ∧ s / 2 ^ n % 2 = 0 ∧ ∀ i, i < n → (s + 2 ^ n) / 2 ^ i % 2 = s / 2 ^ i % 2 := by decide +kernel
theorem stN_bit {a : Rw} {n i : Nat} (hn : n ≤ 9) (hi : i < n) : stN a n / 2 ^ i % 2 = 1 ↔ a (7 + 6 * i + 5) = 0 := by
  induction n with
  | zero => omega
  | succ n ih =>
    obtain ⟨b1, b2, b3⟩ := tb_hi n (by omega) (stN a n) (stN_lt a n)
    unfold stN
    by_cases e : i = n
    · subst e
      by_cases hc : a (7 + 6 * i + 5) = 0
      · rw [if_pos hc]; exact ⟨fun _ => hc, fun _ => b1⟩
      · rw [if_neg hc]; exact ⟨fun z => by omega, fun z => absurd z hc⟩
    · by_cases hc : a (7 + 6 * n + 5) = 0
      · rw [if_pos hc, b3 i (by omega)]; exact ih (by omega) (by omega)
      · rw [if_neg hc]; exact ih (by omega) (by omega)
theorem ot_ref {a : Rw} {i : Nat} (hw : Wm a) (hi : i < nm a) : nI (pc9 (if stS a / 2 ^ i % 2 = 1 then stS a - 2 ^ i else stS a)) = otS a i := by
  have h9 := hw.2.1
  obtain ⟨_, b2⟩ := tb_out i (by omega) (stS a) (stS_lt hw)
  have b3 : stS a / 2 ^ i % 2 = 1 ↔ a (7 + 6 * i + 5) = 0 := stN_bit h9 hi
  unfold otS
  by_cases hc : a (7 + 6 * i + 5) = 0
  · rw [if_pos hc, if_pos (b3.mpr hc), ← b2 (b3.mpr hc), nI_pred]
  · rw [if_neg hc, if_neg (fun z => hc (b3.mp z))]
abbrev P956 : Nat → Prop := fun q => q = 95 ∨ q = 96
set_option maxHeartbeats 4000000 in
theorem s_plainBears {i : Nat} {mem : Mm} {K : Int32 → Mm → Prop} (hw : Wm (mem 83)) (hW : Wt (mem 83)) (hi : i < nm (mem 83)) (h : ∀ m, Fr P956 mem m → K (plS (mem 83) i (nI (pc9 (stS (mem 83))))) m) : W_X9_plainBears (nI i) mem K := by
  have h9 := hw.2.1
  have h14 := hW.2.1
  unfold W_X9_plainBears
  refine s_counts (key := 0) hW ?_
  refine s_X9_of (i := i) (j := 1) (by omega) (by omega) (fun m1 e1 => ?_)
  have q1 : m1 83 = mem 83 := by rw [e1]; exact mu_row_n _ _ _ (by omega)
  have f1 : Fr P956 mem m1 := by rw [e1]; exact Fr.m1 _ _ _ (Or.inr rfl) (by omega)
  have r1 : m1 96 = upd (mem 96) 0 (mem 83 (7 + 6 * i + 1)) := by rw [e1]; exact mu_row_s _ _ _ _
  refine s_X9_of (i := i) (j := 2) (by omega) (by omega) (fun m2 e2 => ?_)
  have q2 : m2 83 = mem 83 := by rw [e2, mu_row_n _ _ _ (by omega)]; exact q1
  have f2 : Fr P956 mem m2 := by rw [e2]; exact f1.trans (Fr.m1 _ _ _ (Or.inr rfl) (by omega))
  have r2 : m2 96 = upd (m1 96) 1 (mem 83 (7 + 6 * i + 2)) := by rw [e2, ← q1]; exact mu_row_s _ _ _ _
  refine s_X9_of (i := i) (j := 4) (by omega) (by omega) (fun m3 e3 => ?_)
  have q3 : m3 83 = mem 83 := by rw [e3, mu_row_n _ _ _ (by omega)]; exact q2
  have f3 : Fr P956 mem m3 := by rw [e3]; exact f2.trans (Fr.m1 _ _ _ (Or.inr rfl) (by omega))
  have r3 : m3 96 = upd (m2 96) 2 (mem 83 (7 + 6 * i + 4)) := by rw [e3, ← q2]; exact mu_row_s _ _ _ _
  refine s_X9_standing (by rw [q3]; exact hw) ?_
  rw [q3]
  refine s_bits (stS_lt hw) (fun m4 e4 => ?_)
  have q4 : m4 83 = mem 83 := by rw [e4, mu_row_n _ _ _ (by omega)]; exact q3
  have f4 : Fr P956 mem m4 := by rw [e4]; exact f3.trans (Fr.m1 _ _ _ (Or.inr rfl) (by omega))
  have r4 : m4 96 = upd (m3 96) 3 (nI (pc9 (stN (mem 83) (nm (mem 83))))) := by rw [e4]; exact mu_row_s _ _ _ _
  unfold plS at h
  rcases ctN_or (mem 83) 0 (nt (mem 83)) with hc | ⟨t, ht, hc, hkey⟩
  · have hc2 : ctS (mem 83) 0 = -1 := hc
    rw [hc2]
    rw [hc2, if_pos (by decide)] at h
    refine cf1 (by decide) ?_
    refine s_X9_of (i := i) (j := 1) (by omega) (by omega) ?_
    rw [q4]
    refine s_X9_within ?_
    obtain ⟨z, hz, ez⟩ : Rg (mem 83 (7 + 6 * i + 1)) 99 := hw.2.2 i 1 hi (by omega)
    rw [ez] at h ⊢
    rw [(tb_am z (by omega)).1]
    exact h m4 f4
  · have hc2 : ctS (mem 83) 0 = nI t := hc
    rw [hc2]
    rw [hc2, if_neg (nI_pos (by omega)), nI_clamp (by omega)] at h
    refine ct1 (nI_pos' (by omega)) ?_
    refine s_worksOut (by rw [q4]; exact hW) (by rw [q4]; exact ht) (fun m5 hm5 => s_X9_within ?_)
    rw [q4]
    have ef : evT (mem 83) t (m4 96) = evT (mem 83) t (ch4 (mem 83 (7 + 6 * i + 1)) (mem 83 (7 + 6 * i + 2)) (mem 83 (7 + 6 * i + 4)) (nI (pc9 (stS (mem 83))))) := by
      refine evT_f hW ht hkey (by omega) (fun z hz => ?_)
      have hz4 : z < 4 := hz
      have e5 : z = 0 ∨ z = 1 ∨ z = 2 ∨ z = 3 := by omega
      rw [r4, r3, r2, r1]
      rcases e5 with rfl | rfl | rfl | rfl <;> rfl
    rw [ef]
    exact h m5 (f4.trans (hm5.mono (fun q hq => Or.inl hq)))
set_option maxHeartbeats 4000000 in
theorem s_bearsOf {i : Nat} {t : Int32} {mem : Mm} {K : Int32 → Mm → Prop} (hw : Wm (mem 83)) (hW : Wt (mem 83)) (hi : i < nm (mem 83)) (h : ∀ m, Fr P956 mem m → K (bearS (mem 83) i t) m) : W_X9_bearsOf (nI i) t mem K := by
  have h9 := hw.2.1
  have hpl := plS_rg (s := nI (pc9 (stS (mem 83)))) hw hi
  unfold W_X9_bearsOf
  refine s_plainBears hw hW hi (fun m1 f1 => ?_)
  have q1 : m1 83 = mem 83 := f1.c 83 (by omega) (by omega)
  refine s_X9_of (i := i) (j := 3) (by omega) (by omega) ?_
  rw [q1]
  have hK := h m1 f1
  unfold bearS at hK
  have main : ∀ s0 : Int32, clampI s0 0 99 = amS (mem 83 (7 + 6 * i + 3)) (plS (mem 83) i (nI (pc9 (stS (mem 83))))) t → B_X9_bearsOf_24 (nI i) t K (nI i) t s0 m1 := by
    intro s0 es
    unfold B_X9_bearsOf_24
    refine s_X9_within ?_
    rw [es]
    have har := am_rg (so := mem 83 (7 + 6 * i + 3)) (t := t) hpl
    refine s_X9_of (i := i) (j := 2) (by omega) (by omega) ?_
    rw [q1]
    unfold brS at hK
    generalize amS (mem 83 (7 + 6 * i + 3)) (plS (mem 83) i (nI (pc9 (stS (mem 83))))) t = am at hK har
    have main2 : ∀ ch : Int32, Rg ch 99 → (if t = 0 then (99 : Int32) else am) = ch → B_X9_bearsOf_57 (nI i) t K (nI i) am (am + mem 83 (7 + 6 * i + 2) / 10) ch m1 := by
      intro ch hch ech
      rw [ech] at hK
      unfold B_X9_bearsOf_57
      refine s_X9_of (i := i) (j := 0) (by omega) (by omega) ?_
      rw [q1]
      refine ⟨fun hc => ?_, fun hc => ⟨fun hc2 => ?_, fun hc2 => ⟨fun hc3 => ?_, fun hc3 => ⟨fun hc4 => ?_, fun hc4 => ⟨fun hc5 => ?_, fun hc5 => ?_⟩⟩⟩⟩⟩
      · rw [if_pos hc] at hK; exact hK
      · rw [if_neg hc, if_pos hc2] at hK; exact hK
      · rw [if_neg hc, if_neg hc2, if_pos hc3] at hK
        refine s_X9_standing (by rw [q1]; exact hw) ?_
        rw [q1]
        rw [show stN (mem 83) (nm (mem 83)) = stS (mem 83) from rfl, (tb_out i (by omega) (stS (mem 83)) (stS_lt hw)).1]
        refine s_bits (by have hs5 := stS_lt hw; split <;> first | exact hs5 | exact Nat.lt_of_le_of_lt (Nat.sub_le _ _) hs5) ?_
        rw [ot_ref hw hi]
        exact hK
      · rw [if_neg hc, if_neg hc2, if_neg hc3, if_pos hc4] at hK
        refine s_X9_within ?_
        rw [el_cl hch]
        exact hK
      · rw [if_neg hc, if_neg hc2, if_neg hc3, if_neg hc4, if_pos hc5] at hK; exact hK
      · rw [if_neg hc, if_neg hc2, if_neg hc3, if_neg hc4, if_neg hc5] at hK; exact hK
    refine ⟨fun hc => main2 am har (if_neg hc), fun hc => main2 99 ⟨99, by omega, rfl⟩ (if_pos hc)⟩
  have hcl := am_cl (so := mem 83 (7 + 6 * i + 3)) (t := t) hpl
  refine ⟨fun hc => main _ ?_, fun hc => main _ ?_⟩
  · rw [if_neg hc] at hcl; exact hcl
  · rw [if_pos hc] at hcl; exact hcl
