/-! calls that say, set up, go; what is asked of an alley -/
theorem Rg.lo {x lo y : Int32} {l n : Nat} (hl : lo.toInt = l) (hy : y.toInt = n) (h : lo ≤ x ∧ x ≤ y) : ∃ k : Nat, l ≤ k ∧ k ≤ n ∧ x = nI k := by
  have h1 := h.1
  have h2 := h.2
  rw [Int32.le_iff_toInt_le] at h1 h2
  have h0 : ¬ x < 0 := by
    rw [Int32.lt_iff_toInt_lt]
    have z0 : (0 : Int32).toInt = 0 := rfl
    rw [z0]
    omega
  obtain ⟨k, hk, e1⟩ := nI_of h0
  refine ⟨k, ?_, ?_, e1⟩
  · rw [e1, nI_toInt hk] at h1
    omega
  · rw [e1, nI_toInt hk] at h2
    omega
theorem s_said8 {k i : Nat} (hk : 1 ≤ k) (hk2 : k + 13 ≤ 40) {t force u : Int32} {a : Rw} {mem : Mm} {K : Mm → Prop} (hw : Wm a) (hW : Wt a) (hA : AlA mem k a) (hi : i < nm a) (hK : ∀ m, Fr (PAl k) mem m → AlA m k (saidS a i t force u) → K m) : W_X0_hit k 12 (nI i) t force u 0 mem K := by
  have h9 := hw.2.1
  have nb : nbI i = nI i := by unfold nbI; rw [if_neg (by omega)]
  have z := s_hit (t := t) (u := u) hk hk2 12 i 0 a force mem K (by omega) (by omega) (by omega) hw hW hA hK
  rw [nb] at z
  exact z
theorem WfR.kp {a b : Rw} (h : WfR a) (hb : Wm b) (hk : KpR a b) : WfR b :=
  ⟨hb, h.2.1.eq hk.te, fun q hq => by rw [hk q (by unfold Kq; omega)]; exact h.2.2.1 q hq, by rw [hk 2 (by unfold Kq; omega)]; exact h.2.2.2⟩
theorem ak_says {c : Nat} (w0 w1 w2 w3 : Int32) (mem : Mm) (h : Iv c mem) : W_X8_says w0 w1 w2 w3 mem (fun v m => W_X9_says w0 w1 w2 w3 m (fun v2 m2 => v = v2 ∧ Iv (c + 1) m2)) := by
  obtain ⟨hA, hR⟩ := h.1
  have hw := hR.1
  have hW := hR.2.1
  have h9 := hw.2.1
  have ek : mem 1 1 = nI (nm (mem 83)) := by rw [hA.1.1]; exact hw.1
  unfold W_X8_says W_X9_says
  rcases man_or hw w0 with hn | ⟨i, hi, rfl⟩
  · refine s_has_n ek hn ?_
    first | refine zf1 ?_ | refine zf2 ?_
    refine s_isMan_n hw.1 h9 hn ?_
    first | refine zf1 ?_ | refine zf2 ?_
    exact ⟨rfl, h.up⟩
  · refine s_has_y ek h9 hi ?_
    first | refine zt1 ?_ | refine zt2 ?_
    by_cases c1 : 0 ≤ w1 ∧ w1 ≤ 7
    · refine s_iw_y c1 ?_
      first | refine zt1 ?_ | refine zt2 ?_
      by_cases c2 : 0 ≤ w2 ∧ w2 ≤ 99
      · refine s_iw_y c2 ?_
        first | refine zt1 ?_ | refine zt2 ?_
        by_cases c3 : -1 ≤ w3 ∧ w3 ≤ 1
        · refine s_iw_y c3 ?_
          first | refine zt1 ?_ | refine zt2 ?_
          refine s_stands hw hA.1 hi ?_
          by_cases hd : mem 83 (7 + 6 * i + 5) = 0
          · rw [decide_eq_true hd]
            first | refine zt1 ?_ | refine zt2 ?_
            refine s_said8 (by omega) (by omega) hw hW hA hi (fun m f1 A1 => ?_)
            have q1 : m 83 = mem 83 := f1.c 83 (by omega) (by omega)
            refine s_isMan_y (n := nm (mem 83)) (by rw [q1]; exact hw.1) h9 hi ?_
            first | refine zt1 ?_ | refine zt2 ?_
            refine s_isTopic_y c1 ?_
            first | refine zt1 ?_ | refine zt2 ?_
            refine s_in_y c2 ?_
            first | refine zt1 ?_ | refine zt2 ?_
            refine s_in_y c3 ?_
            first | refine zt1 ?_ | refine zt2 ?_
            refine s_doesStand (by rw [q1]; exact hw) (by rw [q1]; exact hi) ?_
            rw [q1, decide_eq_true hd]
            first | refine zt1 ?_ | refine zt2 ?_
            refine s_said (by rw [q1]; exact hw) (by rw [q1]; exact hW) (by rw [q1]; exact hi) (by rw [q1]; exact hd) (fun m2 f2 e2 => ?_)
            rw [q1] at e2
            obtain ⟨s1, s2⟩ := saidS_ok (i := i) (t := w1) (force := w2) (u := w3) hw
            refine ⟨?_, fin1 h (fC f1) A1 (fR f2) e2 (hR.kp s1 s2)⟩
            rw [A1.2.1.1, hA.2.1.1, e2, q1]
          · rw [decide_eq_false hd]
            first | refine zf1 ?_ | refine zf2 ?_
            refine s_isMan_y hw.1 h9 hi ?_
            first | refine zt1 ?_ | refine zt2 ?_
            refine s_isTopic_y c1 ?_
            first | refine zt1 ?_ | refine zt2 ?_
            refine s_in_y c2 ?_
            first | refine zt1 ?_ | refine zt2 ?_
            refine s_in_y c3 ?_
            first | refine zt1 ?_ | refine zt2 ?_
            refine s_doesStand hw hi ?_
            rw [decide_eq_false hd]
            first | refine zf1 ?_ | refine zf2 ?_
            exact ⟨rfl, h.up⟩
        · refine s_iw_n c3 ?_
          first | refine zf1 ?_ | refine zf2 ?_
          refine s_isMan_y hw.1 h9 hi ?_
          first | refine zt1 ?_ | refine zt2 ?_
          refine s_isTopic_y c1 ?_
          first | refine zt1 ?_ | refine zt2 ?_
          refine s_in_y c2 ?_
          first | refine zt1 ?_ | refine zt2 ?_
          refine s_in_n c3 ?_
          first | refine zf1 ?_ | refine zf2 ?_
          exact ⟨rfl, h.up⟩
      · refine s_iw_n c2 ?_
        first | refine zf1 ?_ | refine zf2 ?_
        refine s_isMan_y hw.1 h9 hi ?_
        first | refine zt1 ?_ | refine zt2 ?_
        refine s_isTopic_y c1 ?_
        first | refine zt1 ?_ | refine zt2 ?_
        refine s_in_n c2 ?_
        first | refine zf1 ?_ | refine zf2 ?_
        exact ⟨rfl, h.up⟩
    · refine s_iw_n c1 ?_
      first | refine zf1 ?_ | refine zf2 ?_
      refine s_isMan_y hw.1 h9 hi ?_
      first | refine zt1 ?_ | refine zt2 ?_
      refine s_isTopic_n c1 ?_
      first | refine zf1 ?_ | refine zf2 ?_
      exact ⟨rfl, h.up⟩
theorem suS_f {a : Rw} (h : WfR a) : WfR (suS a) :=
  ⟨suS_w h.1, h.2.1.eq (suS_t h.1.2.1), fun q hq => by rw [suS_t h.1.2.1 q (by omega)]; exact h.2.2.1 q hq, by
    have e2 : suS a 2 = a 2 := by
      unfold suS
      rw [pk_un (by omega), pk_un (by omega), suN_k (by omega)]
    rw [e2]
    exact h.2.2.2⟩
theorem ak_sets {c : Nat} (mem : Mm) (h : Iv c mem) : W_X8_sets mem (fun v m => W_X9_sets m (fun v2 m2 => v = v2 ∧ Iv (c + 1) m2)) := by
  obtain ⟨hA, hR⟩ := h.1
  have hw := hR.1
  have hW := hR.2.1
  have h9 := hw.2.1
  have ek : mem 1 1 = nI (nm (mem 83)) := by rw [hA.1.1]; exact hw.1
  unfold W_X8_sets W_X9_sets
  refine s_X0_standing hw hA.1 ?_
  refine s_setUp (by omega) (by omega) hw hA (fun m f1 A1 => ?_)
  have q1 : m 83 = mem 83 := f1.c 83 (by omega) (by omega)
  refine s_X9_standing (by rw [q1]; exact hw) ?_
  rw [q1]
  refine s_bits (stS_lt hw) ?_
  refine s_setsUp (by rw [q1]; exact hw) (fun m2 f2 e2 => ?_)
  rw [q1] at e2
  refine ⟨?_, fin1 h (fC f1) A1 (fR f2) e2 (suS_f hR)⟩
  rw [ek, hw.1]
  rfl
theorem ak_seed {c : Nat} (w0 : Int32) (mem : Mm) (h : Iv c mem) : W_X8_seed w0 mem (fun v m => W_X9_seed w0 m (fun v2 m2 => v = v2 ∧ Iv (c + 1) m2)) := by
  obtain ⟨hA, hR⟩ := h.1
  have hw := hR.1
  have hW := hR.2.1
  have h9 := hw.2.1
  have ek : mem 1 1 = nI (nm (mem 83)) := by rw [hA.1.1]; exact hw.1
  unfold W_X8_seed W_X9_seed
  intro m e1
  have q1 : m 83 = mem 83 := by rw [e1]; exact mu_row_n _ _ _ (by omega)
  have A1 : AlA m 1 (upd (mem 83) 0 w0) := by rw [e1]; exact hA.num (by omega) (by omega) h9 (by omega)
  have f1 : Fr (PAl 1) mem m := by rw [e1]; exact Fr.m1 _ _ _ ⟨by omega, by omega⟩ (by omega)
  refine s_swaps (q := 0) (by omega) ⟨?_, ?_⟩
  · rw [q1]; exact hA.2.1.2.2.2.2
  · refine fin1 h (fC f1) A1 (Fr.m1 _ _ _ (Or.inl rfl) (by omega)) (by rw [mu_row_s, q1]) ⟨hw.put (by omega) (by omega), hW.eq (fun q hq => pk_un (by omega)), fun q hq => by rw [pk_un (by omega)]; exact hR.2.2.1 q hq, by rw [pk_un (by omega)]; exact hR.2.2.2⟩
theorem goS_2 {a : Rw} (hw : Wm a) : goS a 2 = a 2 + 1 := by
  have u2 : upS a 2 = a 2 := by
    have s2 : suS a 2 = a 2 := by
      unfold suS
      rw [pk_un (by omega), pk_un (by omega), suN_k (by omega)]
    unfold upS
    split
    · exact s2
    · split
      · exact s2
      · rfl
  have t2 : ∀ z : Int32, toS (upS a) z 2 = a 2 := by
    intro z
    unfold toS
    split
    · rw [pk_un (by omega)]; exact u2
    · rw [(saidS_ok ((upS_w hw).1.put (by omega) (by omega))).2 2 (by unfold Kq; omega), pk_un (by omega)]
      exact u2
  unfold goS mvS
  rw [pk_us, t2]
theorem goN_2 : ∀ (n : Nat) (a : Rw), Wm a → goN n a 2 = a 2 + nI n := by
  intro n
  induction n with
  | zero => intro a _; show a 2 = a 2 + 0; rw [Int32.add_zero]
  | succ n ih =>
    intro a hw
    show goN n (goS a) 2 = _
    rw [ih (goS a) (goS_w hw).1, goS_2 hw, ← nI_1, Int32.add_assoc, Int32.add_comm 1]
theorem min_ng {g n : Nat} (hg : g ≤ 9999) (hn : n ≤ 1000) : (if 9999 - nI g < nI n then 9999 - nI g else nI n) = nI (min n (9999 - g)) ∧ clampI (9999 - nI g) 0 (nI n) = nI (min n (9999 - g)) := by
  have e1 : 9999 - nI g = nI (9999 - g) := pk_sub (a := 9999) hg
  rw [e1]
  unfold clampI
  rw [if_neg (nI_pos (by omega))]
  by_cases c1 : 9999 - g < n
  · rw [if_pos (nI_lt c1 (by omega)), if_neg (nI_nlt (by omega) (by omega)), Nat.min_eq_right (by omega)]
    exact ⟨rfl, rfl⟩
  · rw [if_neg (nI_nlt (by omega) (by omega))]
    by_cases c2 : n < 9999 - g
    · rw [if_pos (nI_lt c2 (by omega)), Nat.min_eq_left (by omega)]
      exact ⟨rfl, rfl⟩
    · rw [if_neg (nI_nlt (by omega) (by omega)), Nat.min_eq_left (by omega)]
      exact ⟨rfl, congrArg nI (by omega)⟩
theorem ak_goes {c : Nat} (w0 : Int32) (mem : Mm) (h : Iv c mem) : W_X8_goes w0 mem (fun v m => W_X9_goes w0 m (fun v2 m2 => v = v2 ∧ Iv (c + 1) m2)) := by
  obtain ⟨hA, hR⟩ := h.1
  have hw := hR.1
  have hW := hR.2.1
  have h9 := hw.2.1
  have ek : mem 1 1 = nI (nm (mem 83)) := by rw [hA.1.1]; exact hw.1
  unfold W_X8_goes W_X9_goes
  by_cases c1 : 1 ≤ w0 ∧ w0 ≤ 100
  · have c1b := c1
    obtain ⟨n, hn1, hn2, rfl⟩ := Rg.lo (l := 1) (n := 100) rfl rfl c1
    obtain ⟨g, hg, eg⟩ := hR.2.2.2
    obtain ⟨g1, g2⟩ := min_ng hg (show n ≤ 1000 by omega)
    have hmin : min n (9999 - g) ≤ 9999 - g := Nat.min_le_right _ _
    have hmin2 : min n (9999 - g) ≤ n := Nat.min_le_left _ _
    refine s_iw_y c1b ?_
    first | refine zt1 ?_ | refine zt2 ?_
    rw [hA.2.1.2.2.2.1, eg, g1]
    refine s_goOn (by omega) (by omega) (by omega) hw hW hA (fun m f1 A1 => ?_)
    have q1 : m 83 = mem 83 := f1.c 83 (by omega) (by omega)
    refine s_in_y c1b ?_
    first | refine zt1 ?_ | refine zt2 ?_
    rw [q1, eg]
    refine s_X9_within ?_
    rw [g2]
    refine s_goesOn (by omega) (by rw [q1]; exact hw) (by rw [q1]; exact hW) (fun m2 f2 e2 => ?_)
    rw [q1] at e2
    obtain ⟨b1, b2, b3⟩ := goN_w (min n (9999 - g)) (mem 83) hw
    refine ⟨?_, fin1 h (fC f1) A1 (fR f2) e2 ⟨b1, hW.eq b3, fun q hq => by rw [b3 q (by omega)]; exact hR.2.2.1 q hq, ?_⟩⟩
    · rw [A1.2.1.1, hA.2.1.1, e2]
    · rw [goN_2 _ _ hw, eg, nI_add]
      exact ⟨_, by omega, rfl⟩
  · refine s_iw_n c1 ?_
    first | refine zf1 ?_ | refine zf2 ?_
    refine s_in_n c1 ?_
    first | refine zf1 ?_ | refine zf2 ?_
    exact ⟨rfl, h.up⟩
def nvN (a : Rw) : Nat → Int32
  | 0 => 0
  | n + 1 => nvN a n + a (7 + 6 * n + 1)
theorem l_nerves8 {k n : Nat} {a : Rw} {mem : Mm} {K : Int32 → Mm → Prop} (hw : mem k 1 = nI n) (hn : n ≤ 9) (ha : ∀ i, i < n → mem (k + 4 + i) 1 = a (7 + 6 * i + 1)) (h : K (nvN a n) mem) : ∀ (d i : Nat), i + d = n → L_X0_nerveOfAll_4 k K (d + 1) (nvN a i) (nI i) mem := by
  intro d
  induction d with
  | zero =>
    intro i hi
    have c0 : i = n := by omega
    unfold L_X0_nerveOfAll_4
    rw [c0]
    exact ct1 (by rw [hw]; exact nI_le (Nat.le_refl _) (by omega)) h
  | succ d ih =>
    intro i hi
    have hk := ih (i + 1) (by omega)
    unfold L_X0_nerveOfAll_4
    refine cf1 (by rw [hw]; exact nI_ge (by omega) (by omega)) ⟨i, rfl, by omega, ?_⟩
    rw [ha i (by omega), nI_1]
    exact hk
theorem s_nerves8 {k : Nat} {a : Rw} {mem : Mm} {K : Int32 → Mm → Prop} (hw : Wm a) (hA : AlM mem k a) (h : K (nvN a (nm a)) mem) : W_X0_nerveOfAll k mem K := by
  unfold W_X0_nerveOfAll
  exact ⟨nm a + 1, l_nerves8 (a := a) (n := nm a) (by rw [hA.1]; exact hw.1) hw.2.1 (fun i hi => hA.2 i 1 hi (by omega)) h (nm a) 0 (by omega)⟩
theorem l_nerves9 {n : Nat} {mem : Mm} {K : Int32 → Mm → Prop} (hw : mem 83 1 = nI n) (hn : n ≤ 9) (h : K (nvN (mem 83) n) mem) : ∀ (d i : Nat), i + d = n → L_X9_nerves_4 K (d + 1) (nvN (mem 83) i) (nI i) mem := by
  intro d
  induction d with
  | zero =>
    intro i hi
    have c0 : i = n := by omega
    unfold L_X9_nerves_4
    rw [c0]
    exact ct1 (by rw [hw]; exact nI_le (Nat.le_refl _) (by omega)) h
  | succ d ih =>
    intro i hi
    have hk := ih (i + 1) (by omega)
    unfold L_X9_nerves_4
    refine cf1 (by rw [hw]; exact nI_ge (by omega) (by omega)) ?_
    refine s_X9_of (i := i) (j := 1) (by omega) (by omega) ?_
    rw [nI_1]
    exact hk
theorem s_nerves9 {mem : Mm} {K : Int32 → Mm → Prop} (hw : Wm (mem 83)) (h : K (nvN (mem 83) (nm (mem 83))) mem) : W_X9_nerves mem K := by
  unfold W_X9_nerves
  exact ⟨nm (mem 83) + 1, l_nerves9 hw.1 hw.2.1 h (nm (mem 83)) 0 (by omega)⟩
def mfN (a : Rw) : Nat → Nat
  | 0 => 0
  | n + 1 => if a (7 + 6 * (n + 1) + 4) ≤ a (7 + 6 * mfN a n + 4) then mfN a n else n + 1
theorem mfN_le (a : Rw) (n : Nat) : mfN a n ≤ n := by
  induction n with
  | zero => exact Nat.le_refl _
  | succ n ih => unfold mfN; split <;> omega
theorem l_most8 {k n : Nat} {a : Rw} {mem : Mm} {K : Int32 → Mm → Prop} (hw : mem k 1 = nI (n + 1)) (hn : n + 1 ≤ 9) (ha : ∀ i, i < n + 1 → mem (k + 4 + i) 4 = a (7 + 6 * i + 4)) (h : K (nI (mfN a n)) mem) : ∀ (d i : Nat), i + d = n → L_X0_mostFelled_14 k K (d + 1) (nI (mfN a i)) (nI (i + 1)) mem := by
  intro d
  induction d with
  | zero =>
    intro i hi
    have c0 : i = n := by omega
    unfold L_X0_mostFelled_14
    rw [c0]
    exact ct1 (by rw [hw]; exact nI_le (Nat.le_refl _) (by omega)) h
  | succ d ih =>
    intro i hi
    have hk := ih (i + 1) (by omega)
    have hml := mfN_le a i
    unfold L_X0_mostFelled_14
    refine cf1 (by rw [hw]; exact nI_ge (by omega) (by omega)) ⟨i + 1, rfl, by omega, mfN a i, rfl, by omega, ?_⟩
    rw [ha (i + 1) (by omega), ha (mfN a i) (by omega), nI_1]
    unfold mfN at hk
    refine ⟨fun hc => ?_, fun hc => ?_⟩
    · rw [if_pos hc] at hk; exact hk
    · rw [if_neg hc] at hk; exact hk
theorem l_most9 {n : Nat} {mem : Mm} {K : Int32 → Mm → Prop} (hw : mem 83 1 = nI (n + 1)) (hn : n + 1 ≤ 9) (h : K (nI (mfN (mem 83) n)) mem) : ∀ (d i : Nat), i + d = n → L_X9_mostFelled_4 K (d + 1) (nI (mfN (mem 83) i)) (nI (i + 1)) mem := by
  intro d
  induction d with
  | zero =>
    intro i hi
    have c0 : i = n := by omega
    unfold L_X9_mostFelled_4
    rw [c0]
    exact ct1 (by rw [hw]; exact nI_le (Nat.le_refl _) (by omega)) h
  | succ d ih =>
    intro i hi
    have hk := ih (i + 1) (by omega)
    have hml := mfN_le (mem 83) i
    unfold L_X9_mostFelled_4
    refine cf1 (by rw [hw]; exact nI_ge (by omega) (by omega)) (cf1 (nI_pos (by omega)) ?_)
    refine s_X9_of (i := i + 1) (j := 4) (by omega) (by omega) ?_
    refine s_X9_of (i := mfN (mem 83) i) (j := 4) (by omega) (by omega) ?_
    rw [nI_1 (i + 1)]
    unfold mfN at hk
    refine ⟨fun hc => ?_, fun hc => ?_⟩
    · rw [if_pos hc] at hk; exact hk
    · rw [if_neg hc] at hk; exact hk
theorem ak_alley {c : Nat} (w0 : Int32) (mem : Mm) (h : Iv c mem) : W_X8_alley w0 mem (fun v m => W_X9_alley w0 m (fun v2 m2 => v = v2 ∧ Iv (c + 1) m2)) := by
  obtain ⟨hA, hR⟩ := h.1
  have hw := hR.1
  have hW := hR.2.1
  have h9 := hw.2.1
  have ek : mem 1 1 = nI (nm (mem 83)) := by rw [hA.1.1]; exact hw.1
  unfold W_X8_alley
  have open9 : ∀ (K : Int32 → Mm → Prop), (w0 = 0 → K (mem 83 3) mem) → (w0 = 1 → K (mem 83 4) mem) → (w0 = 2 → K (mem 83 5) mem) → (w0 = 3 → K (nI (stS (mem 83))) mem) → (w0 = 4 → K (nvN (mem 83) (nm (mem 83))) mem) → (w0 = 5 → K (if nm (mem 83) = 0 then -1000000005 else nI (mfN (mem 83) (nm (mem 83) - 1))) mem) → (¬ w0 = 0 → ¬ w0 = 1 → ¬ w0 = 2 → ¬ w0 = 3 → ¬ w0 = 4 → ¬ w0 = 5 → K (-1000000001) mem) → W_X9_alley w0 mem K := by
    intro K k0 k1 k2 k3 k4 k5 k6
    unfold W_X9_alley
    refine ⟨fun e0 => ⟨3, by rw [e0]; rfl, by omega, k0 e0⟩, fun e0 => ⟨fun e1 => ⟨4, by rw [e1]; rfl, by omega, k1 e1⟩, fun e1 => ⟨fun e2 => ⟨5, by rw [e2]; rfl, by omega, k2 e2⟩, fun e2 => ⟨fun e3 => s_X9_standing hw (k3 e3), fun e3 => ⟨fun e4 => s_nerves9 hw (k4 e4), fun e4 => ⟨fun e5 => ?_, fun e5 => k6 e0 e1 e2 e3 e4 e5⟩⟩⟩⟩⟩⟩
    have kk := k5 e5
    rw [hw.1]
    by_cases c0 : nm (mem 83) = 0
    · rw [if_pos c0] at kk
      exact ct2 (by rw [c0]; rfl) kk
    · rw [if_neg c0] at kk
      refine cf2 (nI_ne0 (by omega) (by omega)) ?_
      unfold W_X9_mostFelled
      obtain ⟨n, en⟩ : ∃ n, nm (mem 83) = n + 1 := ⟨nm (mem 83) - 1, by omega⟩
      rw [en] at kk
      refine ⟨n + 1 + 1, ?_⟩
      unfold L_X9_mostFelled_4
      refine cf1 (by rw [hw.1]; exact nI_ge (a := 0) (by omega) (by omega)) (ct1 (by decide) ?_)
      exact l_most9 (n := n) (by rw [hw.1, en]) (by omega) kk n 0 (by omega)
  refine ⟨fun e0 => ?_, fun e0 => ⟨fun e1 => ?_, fun e1 => ⟨fun e2 => ?_, fun e2 => ⟨fun e3 => ?_, fun e3 => ⟨fun e4 => ?_, fun e4 => ⟨fun e5 => ?_, fun e5 => ?_⟩⟩⟩⟩⟩⟩
  · refine open9 _ (fun _ => ⟨hA.2.1.1, h.up⟩) ?_ ?_ ?_ ?_ ?_ (fun z => absurd e0 z) <;> (intro z; rw [e0] at z; exact absurd z (by decide))
  · refine open9 _ ?_ (fun _ => ⟨hA.2.1.2.1, h.up⟩) ?_ ?_ ?_ ?_ (fun _ z => absurd e1 z) <;> (intro z; rw [e1] at z; exact absurd z (by decide))
  · refine open9 _ ?_ ?_ (fun _ => ⟨hA.2.1.2.2.1, h.up⟩) ?_ ?_ ?_ (fun _ _ z => absurd e2 z) <;> (intro z; rw [e2] at z; exact absurd z (by decide))
  · refine s_X0_standingSet hw hA.1 ?_
    refine open9 _ ?_ ?_ ?_ (fun _ => ⟨rfl, h.up⟩) ?_ ?_ (fun _ _ _ z => absurd e3 z) <;> (intro z; rw [e3] at z; exact absurd z (by decide))
  · refine s_nerves8 hw hA.1 ?_
    refine open9 _ ?_ ?_ ?_ ?_ (fun _ => ⟨rfl, h.up⟩) ?_ (fun _ _ _ _ z => absurd e4 z) <;> (intro z; rw [e4] at z; exact absurd z (by decide))
  · unfold W_X0_mostFelled
    have go5 : ∀ v : Int32, v = (if nm (mem 83) = 0 then -1000000005 else nI (mfN (mem 83) (nm (mem 83) - 1))) → W_X9_alley w0 mem (fun v2 m2 => v = v2 ∧ Iv (c + 1) m2) := by
      intro v ev1
      refine open9 _ ?_ ?_ ?_ ?_ ?_ (fun _ => ⟨ev1, h.up⟩) (fun _ _ _ _ _ z => absurd e5 z) <;> (intro z; rw [e5] at z; exact absurd z (by decide))
    rw [ek]
    by_cases c0 : nm (mem 83) = 0
    · refine ct2 (by rw [c0]; rfl) (go5 _ ?_)
      rw [if_pos c0]
    · refine cf2 (nI_ne0 (by omega) (by omega)) ?_
      obtain ⟨n, en⟩ : ∃ n, nm (mem 83) = n + 1 := ⟨nm (mem 83) - 1, by omega⟩
      refine ⟨n + 1, l_most8 (a := mem 83) (n := n) (by rw [ek, en]) (by omega) (fun i hi => hA.1.2 i 4 (by omega) (by omega)) (go5 _ ?_) n 0 (by omega)⟩
      rw [if_neg c0, en]
      rfl
  · exact open9 _ (fun z => absurd z e0) (fun z => absurd z e1) (fun z => absurd z e2) (fun z => absurd z e3) (fun z => absurd z e4) (fun z => absurd z e5) (fun _ _ _ _ _ _ => ⟨rfl, h.up⟩)
theorem bearS_rg {a : Rw} {i : Nat} {t : Int32} (hw : Wm a) (hi : i < nm a) : Rg (bearS a i t) 200 := by
  obtain ⟨x, hx, ex⟩ := am_rg (so := a (7 + 6 * i + 3)) (t := t) (plS_rg (s := nI (pc9 (stS a))) hw hi)
  obtain ⟨w, hwt, ew⟩ : Rg (a (7 + 6 * i + 2)) 99 := hw.2.2 i 2 hi (by omega)
  have ho := ot_ref hw hi
  unfold bearS brS
  rw [ex, ew, ← ho, show (10 : Int32) = nI 10 from rfl, pk_div (by omega) (by omega) (by omega), show (5 : Int32) * nI (pc9 (if stS a / 2 ^ i % 2 = 1 then stS a - 2 ^ i else stS a)) = nI (5 * pc9 (if stS a / 2 ^ i % 2 = 1 then stS a - 2 ^ i else stS a)) from pk_mul 5 _, nI_add, nI_add]
  have hp := pc9_le (if stS a / 2 ^ i % 2 = 1 then stS a - 2 ^ i else stS a)
  have chr : Rg (if t = 0 then (99 : Int32) else nI x) 99 := by
    split
    · exact ⟨99, by omega, rfl⟩
    · exact ⟨x, hx, rfl⟩
  split
  · exact ⟨_, by omega, rfl⟩
  · split
    · obtain ⟨z, hz, ez⟩ := chr
      exact ⟨z, by omega, ez⟩
    · split
      · exact ⟨_, by omega, rfl⟩
      · split
        · obtain ⟨z, hz, ez⟩ := clamp_rg ((if t = 0 then (99 : Int32) else nI x) - 10)
          rw [el_cl chr] at ez
          exact ⟨z, by omega, ez⟩
        · split
          · exact ⟨99, by omega, rfl⟩
          · exact ⟨x, by omega, rfl⟩
theorem ak_force {c : Nat} (w0 w1 : Int32) (mem : Mm) (h : Iv c mem) : W_X8_force w0 w1 mem (fun v m => W_X9_force w0 w1 m (fun v2 m2 => v = v2 ∧ Iv (c + 1) m2)) := by
  obtain ⟨hA, hR⟩ := h.1
  have hw := hR.1
  have hW := hR.2.1
  have h9 := hw.2.1
  have ek : mem 1 1 = nI (nm (mem 83)) := by rw [hA.1.1]; exact hw.1
  unfold W_X8_force W_X9_force
  rcases man_or hw w0 with hn | ⟨i, hi, rfl⟩
  · refine s_has_n ek hn ?_
    first | refine zf1 ?_ | refine zf2 ?_
    refine s_isMan_n hw.1 h9 hn ?_
    first | refine zf1 ?_ | refine zf2 ?_
    exact ⟨rfl, h.up⟩
  · refine s_has_y ek h9 hi ?_
    first | refine zt1 ?_ | refine zt2 ?_
    by_cases c1 : 0 ≤ w1 ∧ w1 ≤ 7
    · refine s_iw_y c1 ?_
      first | refine zt1 ?_ | refine zt2 ?_
      refine s_stands hw hA.1 hi ?_
      by_cases hd : mem 83 (7 + 6 * i + 5) = 0
      · rw [decide_eq_true hd]
        first | refine zt1 ?_ | refine zt2 ?_
        refine s_X0_bearing (by omega) hw hW hA.1 hA.2.2 hi (fun m f1 => ?_)
        have q1 : m 83 = mem 83 := f1.c 83 (by omega) (fun z => z)
        have ref : ∀ v : Int32, (v = if 99 ≤ bearS (mem 83) i w1 then -1000000005 else bearS (mem 83) i w1 + 1) → W_X9_isMan (nI i) m (fun v_2 m_2 => ((bZ v_2) = 0 → ((fun v2 m2 => v = v2 ∧ Iv (c + 1) m2) (-1000000001) m_2)) ∧ (¬ (bZ v_2) = 0 → (W_X9_isTopic w1 m_2 (fun v_9 m_9 => (¬ (bZ v_9) = 0 → (W_X9_doesStand (nI i) m_9 (fun v_20 m_20 => (¬ (bZ v_20) = 0 → (W_X9_bearsOf (nI i) w1 m_20 (fun v_32 m_32 => (99 ≤ v_32 → ((fun v2 m2 => v = v2 ∧ Iv (c + 1) m2) (-1000000005) m_32)) ∧ (¬ 99 ≤ v_32 → ((fun v2 m2 => v = v2 ∧ Iv (c + 1) m2) (v_32 + 1) m_32))))) ∧ ((bZ v_20) = 0 → ((fun v2 m2 => v = v2 ∧ Iv (c + 1) m2) (-1000000002) m_20))))) ∧ ((bZ v_9) = 0 → ((fun v2 m2 => v = v2 ∧ Iv (c + 1) m2) (-1000000001) m_9)))))) := by
          intro v ev1
          refine s_isMan_y (n := nm (mem 83)) (by rw [q1]; exact hw.1) h9 hi ?_
          first | refine zt1 ?_ | refine zt2 ?_
          refine s_isTopic_y c1 ?_
          first | refine zt1 ?_ | refine zt2 ?_
          refine s_doesStand (by rw [q1]; exact hw) (by rw [q1]; exact hi) ?_
          rw [q1, decide_eq_true hd]
          first | refine zt1 ?_ | refine zt2 ?_
          refine s_bearsOf (by rw [q1]; exact hw) (by rw [q1]; exact hW) (by rw [q1]; exact hi) (fun m2 f2 => ?_)
          rw [q1]
          have fin := h.sc ((f1.mono (fun q hq => hq.elim)).trans (f2.mono (fun q hq => by omega)))
          refine ⟨fun hc => ⟨?_, fin⟩, fun hc => ⟨?_, fin⟩⟩
          · rw [ev1, if_pos hc]
          · rw [ev1, if_neg hc]
        obtain ⟨z, hz, ez⟩ := bearS_rg (t := w1) hw hi
        have cmp : 99 < bearS (mem 83) i w1 + 1 ↔ 99 ≤ bearS (mem 83) i w1 := by
          rw [ez, nI_1]
          exact (nI_ltI (a := 99) (b := z + 1) (by omega) (by omega)).trans ((show 99 < z + 1 ↔ 99 ≤ z by omega).trans (nI_leI (a := 99) (b := z) (by omega) (by omega)).symm)
        refine ⟨fun hc => ref _ ?_, fun hc => ref _ ?_⟩
        · rw [if_pos (cmp.mp hc)]
        · rw [if_neg (fun z9 => hc (cmp.mpr z9))]
      · rw [decide_eq_false hd]
        first | refine zf1 ?_ | refine zf2 ?_
        refine s_isMan_y hw.1 h9 hi ?_
        first | refine zt1 ?_ | refine zt2 ?_
        refine s_isTopic_y c1 ?_
        first | refine zt1 ?_ | refine zt2 ?_
        refine s_doesStand hw hi ?_
        rw [decide_eq_false hd]
        first | refine zf1 ?_ | refine zf2 ?_
        exact ⟨rfl, h.up⟩
    · refine s_iw_n c1 ?_
      first | refine zf1 ?_ | refine zf2 ?_
      refine s_isMan_y hw.1 h9 hi ?_
      first | refine zt1 ?_ | refine zt2 ?_
      refine s_isTopic_n c1 ?_
      first | refine zf1 ?_ | refine zf2 ?_
      exact ⟨rfl, h.up⟩
