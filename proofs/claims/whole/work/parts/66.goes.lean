/-! a go -/
def zN (z : Int32) : Int32 := z * 1103515245 + 12345
def dv (z : Int32) : Int32 := (z.toUInt32 >>> (Int32.toUInt32 8 &&& Int32.toUInt32 31)).toInt32
def dvN (z : Int32) : Nat := z.toBitVec.toNat / 2 ^ 8
theorem dvN_lt (z : Int32) : dvN z < 2 ^ 24 := by
  have h := z.toBitVec.isLt
  unfold dvN
  exact Nat.div_lt_of_lt_mul h
theorem dv_eq (z : Int32) : dv z = nI (dvN z) := by
  apply Int32.toBitVec_inj.mp
  apply BitVec.eq_of_toNat_eq
  have h := dvN_lt z
  rw [pk_tn (by omega)]
  exact pk_ushr z 8 8 (by decide)
theorem upd_upd (f : Nat → Int32) (k : Nat) (x y : Int32) : upd (upd f k x) k y = upd f k y := by
  funext j
  unfold upd
  split <;> rfl
def suN (a : Rw) : Nat → Rw
  | 0 => a
  | n + 1 => upd (suN a n) (7 + 6 * n + 5) 0
def suS (a : Rw) : Rw := upd (upd (suN a (nm a)) 5 0) 4 (a 4 + 1)
theorem suN_k {a : Rw} {n q : Nat} (hq : q < 7 ∨ n ≤ (q - 7) / 6 ∨ (q - 7) % 6 ≠ 5) : suN a n q = a q := by
  induction n with
  | zero => rfl
  | succ n ih =>
    unfold suN
    rw [pk_un (by omega)]
    exact ih (by omega)
theorem suN_z {a : Rw} {n i : Nat} (hi : i < n) : suN a n (7 + 6 * i + 5) = 0 := by
  induction n with
  | zero => omega
  | succ n ih =>
    unfold suN
    by_cases c1 : i = n
    · rw [c1, pk_us]
    · rw [pk_un (by omega)]
      exact ih (by omega)
theorem suN_w {a : Rw} (hw : Wm a) : ∀ n, Wm (suN a n) := by
  intro n
  induction n with
  | zero => exact hw
  | succ n ih => exact ih.set (by omega) ⟨0, by omega, rfl⟩
theorem suN_n (a : Rw) (n : Nat) : nm (suN a n) = nm a := by
  unfold nm
  rw [suN_k (by omega)]
theorem suS_w {a : Rw} (hw : Wm a) : Wm (suS a) := ((suN_w hw _).put (by omega) (by omega)).put (by omega) (by omega)
theorem suS_n (a : Rw) : nm (suS a) = nm a := by
  unfold suS
  rw [nm_upd (by omega), nm_upd (by omega), suN_n]
theorem suS_t {a : Rw} (hw : nm a ≤ 9) : TeqR a (suS a) := fun q hq => by
  unfold suS
  rw [pk_un (by omega), pk_un (by omega), suN_k (by omega)]
theorem l_X9_setsUp {n : Nat} {a : Rw} {m0 : Mm} {K : Mm → Prop} (hw : a 1 = nI n) (hn : n ≤ 9) (hK : ∀ m, Fr P83 m0 m → m 83 = upd (upd (suN a n) 5 0) 4 (a 4 + 1) → K m) :
    ∀ (d i : Nat) (m : Mm), i + d = n → Fr P83 m0 m → m 83 = suN a i → L_X9_setsUp_2 K (d + 1) (nI i) m := by
  intro d
  induction d with
  | zero =>
    intro i m hi hF hm
    have c0 : i = n := by omega
    unfold L_X9_setsUp_2
    have c1 : m 83 1 = nI n := by rw [hm, suN_k (by omega)]; exact hw
    refine ct1 (by rw [c1, c0]; exact nI_le (Nat.le_refl _) (by omega)) (fun m2 e2 m3 e3 => hK m3 ?_ ?_)
    · rw [e3, e2]
      exact (hF.trans (Fr.m1 _ _ _ (Or.inl rfl) (by omega))).trans (Fr.m1 _ _ _ (Or.inl rfl) (by omega))
    · have c2 : m2 83 4 = a 4 := by
        rw [e2, mu_row_s, pk_un (by omega), hm, suN_k (by omega)]
      rw [e3, c2, mu_row_s, e2, mu_row_s, hm, c0]
  | succ d ih =>
    intro i m hi hF hm
    have c1 : m 83 1 = nI n := by rw [hm, suN_k (by omega)]; exact hw
    unfold L_X9_setsUp_2
    refine cf1 (by rw [c1]; exact nI_ge (by omega) (by omega)) ?_
    refine s_X9_put (i := i) (j := 5) (by omega) (by omega) ?_
    rw [nI_1]
    refine ih (i + 1) _ (by omega) (hF.trans (Fr.m1 _ _ _ (Or.inl rfl) (by omega))) ?_
    rw [mu_row_s, hm]
    rfl
theorem s_setsUp {mem : Mm} {K : Mm → Prop} (hw : Wm (mem 83)) (hK : ∀ m, Fr P83 mem m → m 83 = suS (mem 83) → K m) : W_X9_setsUp mem K := by
  unfold W_X9_setsUp
  exact ⟨nm (mem 83) + 1, l_X9_setsUp hw.1 hw.2.1 hK (nm (mem 83)) 0 mem (by omega) (Fr.refl _ _) rfl⟩
theorem l_X0_setUp {k n : Nat} (hk : 1 ≤ k) (hk2 : k + 13 ≤ 40) {a : Rw} {m0 : Mm} {K : Mm → Prop} (hw : a 1 = nI n) (hnm : nm a = n) (hn : n ≤ 9) (hK : ∀ m, Fr (PAl k) m0 m → AlA m k (upd (upd (suN a n) 5 0) 4 (a 4 + 1)) → K m) :
    ∀ (d i : Nat) (m : Mm), i + d = n → Fr (PAl k) m0 m → AlA m k (suN a i) → L_X0_setUp_2 k K (d + 1) (nI i) m := by
  intro d
  induction d with
  | zero =>
    intro i m hi hF hm
    have c0 : i = n := by omega
    subst c0
    unfold L_X0_setUp_2
    have c1 : m k 1 = nI i := by rw [hm.1.1, suN_k (by omega)]; exact hw
    refine ct1 (by rw [c1]; exact nI_le (Nat.le_refl _) (by omega)) (fun m2 e2 m3 e3 => hK m3 ?_ ?_)
    · rw [e3, e2]
      exact (hF.trans (Fr.m1 _ _ _ ⟨by omega, by omega⟩ (by omega))).trans (Fr.m1 _ _ _ ⟨by omega, by omega⟩ (by omega))
    · have b2 : AlA m2 k (upd (suN a i) 5 0) := by rw [e2]; exact hm.num hk (by omega) (by rw [suN_n]; omega) (Or.inr (Or.inr (Or.inl ⟨rfl, rfl⟩)))
      have c2 : m2 k 3 = a 4 := by rw [b2.2.1.2.1, pk_un (by omega), suN_k (by omega)]
      rw [c2] at e3
      rw [e3]
      exact b2.num hk (by omega) (by rw [nm_upd (by omega), suN_n]; omega) (Or.inr (Or.inl ⟨rfl, rfl⟩))
  | succ d ih =>
    intro i m hi hF hm
    have c1 : m k 1 = nI n := by rw [hm.1.1, suN_k (by omega)]; exact hw
    unfold L_X0_setUp_2
    refine cf1 (by rw [c1]; exact nI_ge (by omega) (by omega)) ⟨i, rfl, by omega, fun m2 e2 => ?_⟩
    rw [nI_1]
    refine ih (i + 1) m2 (by omega) ?_ ?_
    · rw [e2]; exact hF.trans (Fr.m1 _ _ _ ⟨by omega, by omega⟩ (by omega))
    · rw [e2]; exact hm.man hk (by omega) (by rw [suN_n]; omega) (by rw [suN_n]; omega) (by omega)
theorem s_setUp {k : Nat} (hk : 1 ≤ k) (hk2 : k + 13 ≤ 40) {a : Rw} {mem : Mm} {K : Mm → Prop} (hw : Wm a) (hA : AlA mem k a) (hK : ∀ m, Fr (PAl k) mem m → AlA m k (suS a) → K m) : W_X0_setUp k mem K := by
  unfold W_X0_setUp
  exact ⟨nm a + 1, l_X0_setUp hk hk2 hw.1 rfl hw.2.1 hK (nm a) 0 mem (by omega) (Fr.refl _ _) hA⟩
/-! nerves move -/
def mvN (a : Rw) : Nat → Rw
  | 0 => a
  | n + 1 => upd (mvN a n) (7 + 6 * n + 1) (clampI (a (7 + 6 * n + 1) + (if a (7 + 6 * n + 5) = 0 then 1 else -1)) 0 99)
theorem mvN_k {a : Rw} {n q : Nat} (hq : q < 7 ∨ n ≤ (q - 7) / 6 ∨ (q - 7) % 6 ≠ 1) : mvN a n q = a q := by
  induction n with
  | zero => rfl
  | succ n ih =>
    unfold mvN
    rw [pk_un (by omega)]
    exact ih (by omega)
theorem mvN_w {a : Rw} (hw : Wm a) : ∀ n, Wm (mvN a n) := by
  intro n
  induction n with
  | zero => exact hw
  | succ n ih => exact ih.set (by omega) (clamp_rg _)
theorem mvN_n (a : Rw) (n : Nat) : nm (mvN a n) = nm a := by
  unfold nm
  rw [mvN_k (by omega)]
def mvS (a : Rw) : Rw := upd (upd (mvN a (nm a)) 5 (a 5 + 1)) 2 (a 2 + 1)
theorem l_X9_nerves {n : Nat} {a : Rw} {m0 : Mm} {K : Mm → Prop} (hw : a 1 = nI n) (hn : n ≤ 9) (hK : ∀ m, Fr P83 m0 m → m 83 = upd (upd (mvN a n) 5 (a 5 + 1)) 2 (a 2 + 1) → K m) :
    ∀ (d i : Nat) (m : Mm), i + d = n → Fr P83 m0 m → m 83 = mvN a i → L_X9_aGo_111 K (d + 1) (nI i) m := by
  intro d
  induction d with
  | zero =>
    intro i m hi hF hm
    have c0 : i = n := by omega
    unfold L_X9_aGo_111
    have c1 : m 83 1 = nI n := by rw [hm, mvN_k (by omega)]; exact hw
    refine ct1 (by rw [c1, c0]; exact nI_le (Nat.le_refl _) (by omega)) (fun m2 e2 m3 e3 => hK m3 ?_ ?_)
    · rw [e3, e2]
      exact (hF.trans (Fr.m1 _ _ _ (Or.inl rfl) (by omega))).trans (Fr.m1 _ _ _ (Or.inl rfl) (by omega))
    · have c5 : m 83 5 = a 5 := by rw [hm, mvN_k (by omega)]
      have c2 : m2 83 2 = a 2 := by
        rw [e2, mu_row_s, pk_un (by omega), hm, mvN_k (by omega)]
      rw [e3, c2, mu_row_s, e2, mu_row_s, c5, hm, c0]
  | succ d ih =>
    intro i m hi hF hm
    have c1 : m 83 1 = nI n := by rw [hm, mvN_k (by omega)]; exact hw
    have c3 : m 83 (7 + 6 * i + 1) = a (7 + 6 * i + 1) := by rw [hm, mvN_k (by omega)]
    have c4 : m 83 (7 + 6 * i + 5) = a (7 + 6 * i + 5) := by rw [hm, mvN_k (by omega)]
    unfold L_X9_aGo_111
    refine cf1 (by rw [c1]; exact nI_ge (by omega) (by omega)) ?_
    refine s_X9_of (i := i) (j := 1) (by omega) (by omega) ?_
    refine s_X9_of (i := i) (j := 5) (by omega) (by omega) ?_
    rw [c3, c4]
    have nx : ∀ v : Int32, v = clampI (a (7 + 6 * i + 1) + (if a (7 + 6 * i + 5) = 0 then 1 else -1)) 0 99 → L_X9_aGo_111 K (d + 1) (nI i + 1) (mu m 83 (7 + 6 * i + 1) v) := by
      intro v ev1
      rw [nI_1]
      refine ih (i + 1) _ (by omega) (hF.trans (Fr.m1 _ _ _ (Or.inl rfl) (by omega))) ?_
      rw [mu_row_s, hm, ev1]
      rfl
    refine ⟨fun hc => ?_, fun hc => ?_⟩
    · refine s_X9_within (s_X9_put (i := i) (j := 1) (by omega) (by omega) (nx _ ?_))
      rw [if_neg hc]
    · refine s_X9_within (s_X9_put (i := i) (j := 1) (by omega) (by omega) (nx _ ?_))
      rw [if_pos hc]
theorem l_X0_nerves {k n : Nat} (hk : 1 ≤ k) (hk2 : k + 13 ≤ 40) {a : Rw} {m0 : Mm} {K : Mm → Prop} (hwm : Wm a) (hw : a 1 = nI n) (hnm : nm a = n) (hn : n ≤ 9) (hK : ∀ m, Fr (PAl k) m0 m → AlA m k (mvN a n) → K m) :
    ∀ (d i : Nat) (m : Mm), i + d = n → Fr (PAl k) m0 m → AlA m k (mvN a i) → L_X0_moveNerves_2 k K (d + 1) (nI i) m := by
  intro d
  induction d with
  | zero =>
    intro i m hi hF hm
    have c0 : i = n := by omega
    subst c0
    unfold L_X0_moveNerves_2
    have c1 : m k 1 = nI i := by rw [hm.1.1, mvN_k (by omega)]; exact hw
    exact ct1 (by rw [c1]; exact nI_le (Nat.le_refl _) (by omega)) (hK m hF hm)
  | succ d ih =>
    intro i m hi hF hm
    have c1 : m k 1 = nI n := by rw [hm.1.1, mvN_k (by omega)]; exact hw
    have c3 : m (k + 4 + i) 1 = a (7 + 6 * i + 1) := by rw [hm.1.2 i 1 (by rw [mvN_n]; omega) (by omega), mvN_k (by omega)]
    have c4 : m (k + 4 + i) 5 = a (7 + 6 * i + 5) := by rw [hm.1.2 i 5 (by rw [mvN_n]; omega) (by omega), mvN_k (by omega)]
    unfold L_X0_moveNerves_2
    refine cf1 (by rw [c1]; exact nI_ge (by omega) (by omega)) ⟨i, rfl, by omega, ?_⟩
    rw [c3, c4]
    have nx : ∀ v : Int32, v = clampI (a (7 + 6 * i + 1) + (if a (7 + 6 * i + 5) = 0 then 1 else -1)) 0 99 → ∀ m2 : Mm, m2 = mu m (k + 4 + i) 1 v → L_X0_moveNerves_2 k K (d + 1) (nI i + 1) m2 := by
      intro v ev1 m2 e2
      rw [nI_1]
      refine ih (i + 1) m2 (by omega) ?_ ?_
      · rw [e2]; exact hF.trans (Fr.m1 _ _ _ ⟨by omega, by omega⟩ (by omega))
      · rw [e2, ev1]; exact hm.man hk (by omega) (by rw [mvN_n]; omega) (by rw [mvN_n]; omega) (by omega)
    obtain ⟨z, hz, ez⟩ : Rg (a (7 + 6 * i + 1)) 99 := hwm.2.2 i 1 (by omega) (by omega)
    refine ⟨fun hc => s_held (nx _ ?_), fun hc => s_held (nx _ ?_)⟩
    · rw [if_pos hc]
    · rw [if_neg hc, ez, sub1]
theorem s_moveNerves {k : Nat} (hk : 1 ≤ k) (hk2 : k + 13 ≤ 40) {a : Rw} {mem : Mm} {K : Mm → Prop} (hw : Wm a) (hA : AlA mem k a) (hK : ∀ m, Fr (PAl k) mem m → AlA m k (mvN a (nm a)) → K m) : W_X0_moveNerves k mem K := by
  unfold W_X0_moveNerves
  exact ⟨nm a + 1, l_X0_nerves hk hk2 hw hw.1 rfl hw.2.1 hK (nm a) 0 mem (by omega) (Fr.refl _ _) hA⟩
/-! who is told -/
def fsF (a : Rw) (n f : Nat) : Nat → Nat → Nat
  | 0, d => (f + d) % n
  | r + 1, d => if a (7 + 6 * ((f + d) % n) + 5) = 0 then (f + d) % n else fsF a n f r (d + 1)
theorem fsF_ok {a : Rw} {n f : Nat} (hn : 0 < n) : ∀ (r d : Nat), (∃ e9, d ≤ e9 ∧ e9 < d + r ∧ a (7 + 6 * ((f + e9) % n) + 5) = 0) → fsF a n f r d < n ∧ a (7 + 6 * fsF a n f r d + 5) = 0 := by
  intro r
  induction r with
  | zero => intro d h; obtain ⟨e9, h1, h2, h3⟩ := h; omega
  | succ r ih =>
    intro d h
    obtain ⟨e9, h1, h2, h3⟩ := h
    unfold fsF
    by_cases hc : a (7 + 6 * ((f + d) % n) + 5) = 0
    · rw [if_pos hc]; exact ⟨Nat.mod_lt _ hn, hc⟩
    · rw [if_neg hc]
      refine ih (d + 1) ⟨e9, ?_, by omega, h3⟩
      by_cases c9 : e9 = d
      · rw [c9] at h3; exact absurd h3 hc
      · omega
theorem fs_ex {a : Rw} {n f i : Nat} (hf : f < n) (hi : i < n) (h : a (7 + 6 * i + 5) = 0) : ∃ e9, 0 ≤ e9 ∧ e9 < 0 + n ∧ a (7 + 6 * ((f + e9) % n) + 5) = 0 := by
  by_cases c1 : f ≤ i
  · refine ⟨i - f, by omega, by omega, ?_⟩
    rw [show f + (i - f) = i by omega, Nat.mod_eq_of_lt hi]
    exact h
  · refine ⟨i + n - f, by omega, by omega, ?_⟩
    rw [show f + (i + n - f) = i + n by omega, Nat.add_mod_right, Nat.mod_eq_of_lt hi]
    exact h
theorem st_ex {a : Rw} {n : Nat} (h : stN a n ≠ 0) : ∃ i, i < n ∧ a (7 + 6 * i + 5) = 0 := by
  induction n with
  | zero => exact absurd rfl h
  | succ n ih =>
    unfold stN at h
    by_cases hc : a (7 + 6 * n + 5) = 0
    · exact ⟨n, by omega, hc⟩
    · rw [if_neg hc] at h
      obtain ⟨i, h1, h2⟩ := ih h
      exact ⟨i, by omega, h2⟩
theorem l_first {k n f : Nat} {a : Rw} {mem : Mm} {K : Int32 → Mm → Prop} {p0 : Int32} (hw : Wm a) (hA : AlM mem k a) (hn : nm a = n) (hn0 : 0 < n) (hf : f < n) : ∀ (r d : Nat), d + r = n → (∃ e9, d ≤ e9 ∧ e9 < d + r ∧ a (7 + 6 * ((f + e9) % n) + 5) = 0) → K (nI (fsF a n f r d)) mem → L_X0_firstStandingFrom_2 k p0 K (r + 1) (nI f) (nI d) mem := by
  intro r
  have h9 := hw.2.1
  have ek : mem k 1 = nI n := by rw [hA.1, ← hn]; exact hw.1
  induction r with
  | zero => intro d hd h; obtain ⟨e9, h1, h2, h3⟩ := h; omega
  | succ r ih =>
    intro d hd h hK
    obtain ⟨e9, h1, h2, h3⟩ := h
    unfold L_X0_firstStandingFrom_2
    rw [ek]
    refine cf1 (nI_ge (by omega) (by omega)) ⟨nI_ne0 (by omega) (by omega), fun y ey => ?_⟩
    rw [nI_add, pk_rem (by omega) (by omega) (by omega)] at ey
    have hm : (f + d) % n < n := Nat.mod_lt _ hn0
    rw [ey]
    refine s_stands hw hA (by omega) ?_
    unfold fsF at hK
    by_cases hc : a (7 + 6 * ((f + d) % n) + 5) = 0
    · rw [if_pos hc] at hK
      rw [decide_eq_true hc]
      exact zt1 hK
    · rw [if_neg hc] at hK
      rw [decide_eq_false hc, nI_1]
      refine zf1 (ih (d + 1) (by omega) ⟨e9, ?_, by omega, h3⟩ hK)
      by_cases c9 : e9 = d
      · rw [c9] at h3; exact absurd h3 hc
      · omega
theorem l_X9_tell {n f : Nat} {mem : Mm} {K : Mm → Prop} {l1 l2 l3 : Int32} (hw : Wm (mem 83)) (hn : nm (mem 83) = n) (hn0 : 0 < n) (hf : f < n) : ∀ (r d : Nat), d + r = n → (∃ e9, d ≤ e9 ∧ e9 < d + r ∧ mem 83 (7 + 6 * ((f + e9) % n) + 5) = 0) → W_X9_said (nI (fsF (mem 83) n f r d)) l1 l2 l3 mem (fun v_103 m_103 => ∃ nz : Nat, L_X9_aGo_111 K nz 0 m_103) → L_X9_aGo_72 K (r + 1) l1 l2 l3 (nI ((f + d) % n)) mem := by
  intro r
  have h9 := hw.2.1
  have ek : mem 83 1 = nI n := by rw [← hn]; exact hw.1
  induction r with
  | zero => intro d hd h; obtain ⟨e9, h1, h2, h3⟩ := h; omega
  | succ r ih =>
    intro d hd h hK
    obtain ⟨e9, h1, h2, h3⟩ := h
    have hm : (f + d) % n < n := Nat.mod_lt _ hn0
    unfold L_X9_aGo_72
    refine s_doesStand hw (by omega) ?_
    unfold fsF at hK
    by_cases hc : mem 83 (7 + 6 * ((f + d) % n) + 5) = 0
    · rw [if_pos hc] at hK
      rw [decide_eq_true hc]
      exact zt2 hK
    · rw [if_neg hc] at hK
      rw [decide_eq_false hc, ek]
      refine zf2 ⟨nI_ne0 (by omega) (by omega), fun y ey => ?_⟩
      rw [nI_1, pk_rem (by omega) (by omega) (by omega)] at ey
      have em : ((f + d) % n + 1) % n = (f + (d + 1)) % n := by rw [Nat.mod_add_mod]; rfl
      rw [ey, em]
      refine ih (d + 1) (by omega) ⟨e9, ?_, by omega, h3⟩ hK
      by_cases c9 : e9 = d
      · rw [c9] at h3; exact absurd h3 hc
      · omega
/-- SAID to one that stands -/
def saidS (a : Rw) (i : Nat) (t force u : Int32) : Rw := hitG (fun b j => drF 12 b j t u) a i t force
theorem s_said {i : Nat} {t force u : Int32} {mem : Mm} {K : Int32 → Mm → Prop} (hw : Wm (mem 83)) (hW : Wt (mem 83)) (hi : i < nm (mem 83)) (hd : mem 83 (7 + 6 * i + 5) = 0) (hK : ∀ m, Fr P83 mem m → m 83 = saidS (mem 83) i t force u → K (m 83 3 - mem 83 3) m) : W_X9_said (nI i) t force u mem K := by
  unfold W_X9_said
  refine s_bearsOf hw hW hi (fun m1 f1 => ?_)
  have q1 : m1 83 = mem 83 := f1.c 83 (by omega) (by omega)
  refine ⟨fun hb => hK m1 (f956 f1) ?_, fun hb => ?_⟩
  · unfold saidS hitG
    rw [if_neg (fun z => absurd z.2.2 (Int32.not_lt.mpr hb))]
    exact q1
  · refine s_drops 12 i m1 _ (by omega) (by rw [q1]; exact hi) (by rw [q1]; exact hw) (by rw [q1]; exact hW) (fun m2 f2 e2 => hK m2 ((f956 f1).trans f2) ?_)
    unfold saidS hitG
    rw [if_pos ⟨hi, hd, Int32.not_le.mp hb⟩, e2, q1]
theorem saidS_ok {a : Rw} {i : Nat} {t force u : Int32} (hw : Wm a) : Wm (saidS a i t force u) ∧ KpR a (saidS a i t force u) := hitG_ok hw (drF_ok 12)
def upS (a : Rw) : Rw := if a 5 = 3 then suS a else if stS a = 0 then suS a else a
def z4 (z : Int32) : Int32 := zN (zN (zN (zN z)))
def tpS (z : Int32) : Int32 := dv (zN z) - dv (zN z) / 8 * 8
def fcS (z : Int32) : Int32 := dv (zN (zN z)) - dv (zN (zN z)) / 100 * 100
def tuS (z : Int32) : Int32 := dv (zN (zN (zN z))) - dv (zN (zN (zN z))) / 3 * 3 - 1
def toS (a : Rw) (z : Int32) : Rw := if nm a = 0 then upd a 0 (z4 z) else saidS (upd a 0 (z4 z)) (fsF (upd a 0 (z4 z)) (nm a) (dvN (z4 z) % nm a) (nm a) 0) (tpS z) (fcS z) (tuS z)
def goS (a : Rw) : Rw := mvS (toS (upS a) (upS a 0))
theorem upS_w {a : Rw} (hw : Wm a) : Wm (upS a) ∧ nm (upS a) = nm a ∧ TeqR a (upS a) := by
  unfold upS
  split
  · exact ⟨suS_w hw, suS_n a, suS_t hw.2.1⟩
  · split
    · exact ⟨suS_w hw, suS_n a, suS_t hw.2.1⟩
    · exact ⟨hw, rfl, fun q _ => rfl⟩
theorem suS_ex {a : Rw} (h : 0 < nm a) : ∃ i, i < nm (suS a) ∧ suS a (7 + 6 * i + 5) = 0 := by
  refine ⟨0, by rw [suS_n]; exact h, ?_⟩
  unfold suS
  rw [pk_un (by omega), pk_un (by omega)]
  exact suN_z h
theorem upS_ex {a : Rw} (h : 0 < nm a) : ∃ i, i < nm (upS a) ∧ upS a (7 + 6 * i + 5) = 0 := by
  unfold upS
  split
  · exact suS_ex h
  · split
    · exact suS_ex h
    · rename_i hc
      exact st_ex hc
theorem toS_w {a : Rw} {z : Int32} (hw : Wm a) : Wm (toS a z) ∧ nm (toS a z) = nm a ∧ TeqR a (toS a z) := by
  have h0 : Wm (upd a 0 (z4 z)) := hw.put (by omega) (by omega)
  have n0 : nm (upd a 0 (z4 z)) = nm a := nm_upd (by omega)
  have t0 : TeqR a (upd a 0 (z4 z)) := fun q hq => pk_un (by omega)
  unfold toS
  split
  · exact ⟨h0, n0, t0⟩
  · obtain ⟨s1, s2⟩ := saidS_ok (i := fsF (upd a 0 (z4 z)) (nm a) (dvN (z4 z) % nm a) (nm a) 0) (t := tpS z) (force := fcS z) (u := tuS z) h0
    exact ⟨s1, s2.en.trans n0, fun q hq => (s2.te q hq).trans (t0 q hq)⟩
theorem mvS_w {a : Rw} (hw : Wm a) : Wm (mvS a) ∧ nm (mvS a) = nm a ∧ TeqR a (mvS a) := by
  have h9 := hw.2.1
  refine ⟨((mvN_w hw _).put (by omega) (by omega)).put (by omega) (by omega), ?_, fun q hq => ?_⟩
  · unfold mvS
    rw [nm_upd (by omega), nm_upd (by omega), mvN_n]
  · unfold mvS
    rw [pk_un (by omega), pk_un (by omega), mvN_k (by omega)]
theorem goS_w {a : Rw} (hw : Wm a) : Wm (goS a) ∧ nm (goS a) = nm a ∧ TeqR a (goS a) := by
  obtain ⟨a1, a2, a3⟩ := upS_w hw
  obtain ⟨b1, b2, b3⟩ := toS_w (z := upS a 0) a1
  obtain ⟨c1, c2, c3⟩ := mvS_w b1
  exact ⟨c1, c2.trans (b2.trans a2), fun q hq => (c3 q hq).trans ((b3 q hq).trans (a3 q hq))⟩
theorem nm_0 {a : Rw} (hw : Wm a) : a 1 ≤ 0 ↔ nm a = 0 := by
  have h9 := hw.2.1
  rw [hw.1]
  constructor
  · intro h
    by_cases c0 : nm a = 0
    · exact c0
    · exact absurd h (nI_nle (by omega) (by omega))
  · intro h
    rw [h]
    decide
/-- told, or nobody is there; D is what the fourth draw gave -/
def toG (b : Rw) (n D : Nat) (t f u : Int32) : Rw := if n = 0 then b else saidS b (fsF b n (D % n) n 0) t f u
theorem s_aGoB {m0 m4 : Mm} {K : Mm → Prop} {t f u : Int32} {D : Nat} (hD : D < 2 ^ 24) (hw4 : Wm (m4 83)) (hW4 : Wt (m4 83)) (f4 : Fr P83 m0 m4) (hex : 0 < nm (m4 83) → ∃ i, i < nm (m4 83) ∧ m4 83 (7 + 6 * i + 5) = 0) (hK : ∀ m, Fr P83 m0 m → m 83 = mvS (toG (m4 83) (nm (m4 83)) D t f u) → K m) :
    (m4 83 1 ≤ 0 → ∃ nz : Nat, L_X9_aGo_111 K nz 0 m4) ∧ (¬ m4 83 1 ≤ 0 → ¬ m4 83 1 = 0 ∧ ∃ nz : Nat, L_X9_aGo_72 K nz t f u (nI D - nI D / m4 83 1 * m4 83 1) m4) := by
  have h9 := hw4.2.1
  unfold toG at hK
  refine ⟨fun hc => ?_, fun hc => ?_⟩
  · have c0 : nm (m4 83) = 0 := (nm_0 hw4).mp hc
    rw [if_pos c0] at hK
    refine ⟨nm (m4 83) + 1, l_X9_nerves (a := m4 83) hw4.1 hw4.2.1 (fun m hm em => hK m (f4.trans hm) em) (nm (m4 83)) 0 m4 (by omega) (Fr.refl _ _) rfl⟩
  · have c0 : ¬ nm (m4 83) = 0 := fun z => hc ((nm_0 hw4).mpr z)
    rw [if_neg c0] at hK
    rw [hw4.1]
    refine ⟨nI_ne0 (by omega) (by omega), nm (m4 83) + 1, ?_⟩
    rw [pk_rem (by omega) (by omega) (by omega)]
    have hf : D % nm (m4 83) < nm (m4 83) := Nat.mod_lt _ (by omega)
    obtain ⟨i, hi, hdi⟩ := hex (by omega)
    have hx := fs_ex (a := m4 83) hf hi hdi
    obtain ⟨g1, g2⟩ := fsF_ok (a := m4 83) (f := D % nm (m4 83)) (by omega) (nm (m4 83)) 0 hx
    have z := l_X9_tell (K := K) (l1 := t) (l2 := f) (l3 := u) hw4 rfl (by omega) hf (nm (m4 83)) 0 (by omega) hx ?_
    · have em0 : (D % nm (m4 83) + 0) % nm (m4 83) = D % nm (m4 83) := Nat.mod_eq_of_lt hf
      rw [em0] at z
      exact z
    · refine s_said hw4 hW4 g1 g2 (fun m5 f5 e5 => ?_)
      obtain ⟨s1, s2⟩ := saidS_ok (i := fsF (m4 83) (nm (m4 83)) (D % nm (m4 83)) (nm (m4 83)) 0) (t := t) (force := f) (u := u) hw4
      rw [← e5] at s1 s2 hK
      exact ⟨nm (m5 83) + 1, l_X9_nerves (a := m5 83) s1.1 s1.2.1 (fun m hm em => hK m ((f4.trans f5).trans hm) em) (nm (m5 83)) 0 m5 (by omega) (Fr.refl _ _) rfl⟩
theorem s_draw9 {mem : Mm} {K : Int32 → Mm → Prop} (hK : ∀ m, Fr P83 mem m → m 83 = upd (mem 83) 0 (zN (mem 83 0)) → K (dv (zN (mem 83 0))) m) : W_X9_draw mem K := by
  unfold W_X9_draw
  intro m1 e1
  have q1 : m1 83 = upd (mem 83) 0 (zN (mem 83 0)) := by rw [e1]; exact mu_row_s _ _ _ _
  have x1 : m1 83 0 = zN (mem 83 0) := by rw [q1]; exact pk_us
  rw [x1]
  exact hK m1 (by rw [e1]; exact Fr.m1 _ _ _ (Or.inl rfl) (by omega)) q1
theorem toS_eq (a : Rw) (z : Int32) : toS a z = toG (upd a 0 (zN (zN (zN (zN z))))) (nm a) (dvN (zN (zN (zN (zN z))))) (dv (zN z) - dv (zN z) / 8 * 8) (dv (zN (zN z)) - dv (zN (zN z)) / 100 * 100) (dv (zN (zN (zN z))) - dv (zN (zN (zN z))) / 3 * 3 - 1) := rfl
theorem s_aGo21g {mem : Mm} {K : Mm → Prop} (zv1 zv2 zv3 zv4 : Int32) (hz1 : zN (mem 83 0) = zv1) (hz2 : zN zv1 = zv2) (hz3 : zN zv2 = zv3) (hz4 : zN zv3 = zv4) (hw : Wm (mem 83)) (hW : Wt (mem 83)) (hex : 0 < nm (mem 83) → ∃ i, i < nm (mem 83) ∧ mem 83 (7 + 6 * i + 5) = 0) (hK : ∀ m, Fr P83 mem m → m 83 = mvS (toG (upd (mem 83) 0 zv4) (nm (mem 83)) (dvN zv4) (dv zv1 - dv zv1 / 8 * 8) (dv zv2 - dv zv2 / 100 * 100) (dv zv3 - dv zv3 / 3 * 3 - 1)) → K m) : B_X9_aGo_21 K mem := by
  have h9 := hw.2.1
  have eu : ∀ x : Int32, upd (mem 83) 0 x 0 = x := fun x => pk_us
  have uu : ∀ x y : Int32, upd (upd (mem 83) 0 x) 0 y = upd (mem 83) 0 y := fun x y => upd_upd _ _ _ _
  unfold B_X9_aGo_21
  refine s_draw9 (fun m1 f1 q1 => ?_)
  rw [hz1] at q1 ⊢
  have x1 : m1 83 0 = zv1 := by rw [q1]; exact eu _
  refine s_draw9 (fun m2 f2 q2 => ?_)
  rw [x1, hz2] at q2 ⊢
  rw [q1, uu] at q2
  have x2 : m2 83 0 = zv2 := by rw [q2]; exact eu _
  refine s_draw9 (fun m3 f3 q3 => ?_)
  rw [x2, hz3] at q3 ⊢
  rw [q2, uu] at q3
  have x3 : m3 83 0 = zv3 := by rw [q3]; exact eu _
  refine s_draw9 (fun m4 f4 q4 => ?_)
  rw [x3, hz4] at q4 ⊢
  rw [q3, uu] at q4
  rw [dv_eq zv4]
  have F4 : Fr P83 mem m4 := ((f1.trans f2).trans f3).trans f4
  have hw4 : Wm (m4 83) := by rw [q4]; exact hw.put (by omega) (by omega)
  have n4 : nm (m4 83) = nm (mem 83) := by rw [q4]; exact nm_upd (by omega)
  have hW4 : Wt (m4 83) := by rw [q4]; exact hW.eq (fun q hq => pk_un (by omega))
  refine s_aGoB (dvN_lt _) hw4 hW4 F4 (fun h0 => ?_) ?_
  · rw [n4] at h0 ⊢
    obtain ⟨i, hi, hdi⟩ := hex h0
    exact ⟨i, hi, by rw [q4, pk_un (by omega)]; exact hdi⟩
  · rw [n4, q4]
    exact hK
theorem s_aGo21 {mem : Mm} {K : Mm → Prop} (hw : Wm (mem 83)) (hW : Wt (mem 83)) (hex : 0 < nm (mem 83) → ∃ i, i < nm (mem 83) ∧ mem 83 (7 + 6 * i + 5) = 0) (hK : ∀ m, Fr P83 mem m → m 83 = mvS (toS (mem 83) (mem 83 0)) → K m) : B_X9_aGo_21 K mem := by
  rw [toS_eq] at hK
  exact s_aGo21g (zN (mem 83 0)) (zN (zN (mem 83 0))) (zN (zN (zN (mem 83 0)))) (zN (zN (zN (zN (mem 83 0))))) rfl rfl rfl rfl hw hW hex hK
theorem pc9_0 : ∀ s, s < 512 → (nI s = 0 ↔ s = 0) ∧ (nI (pc9 s) = 0 ↔ s = 0) := by decide +kernel
theorem s_aGo {mem : Mm} {K : Mm → Prop} (hw : Wm (mem 83)) (hW : Wt (mem 83)) (hK : ∀ m, Fr P83 mem m → m 83 = goS (mem 83) → K m) : W_X9_aGo mem K := by
  unfold W_X9_aGo
  have su : upS (mem 83) = suS (mem 83) → W_X9_setsUp mem (fun m_18 => B_X9_aGo_21 K m_18) := by
    intro eu
    refine s_setsUp hw (fun m1 f1 e1 => ?_)
    refine s_aGo21 (by rw [e1]; exact suS_w hw) (by rw [e1]; exact hW.eq (suS_t hw.2.1)) (fun h0 => ?_) (fun m hm em => hK m (f1.trans hm) ?_)
    · rw [e1] at h0 ⊢
      rw [suS_n] at h0
      exact suS_ex h0
    · rw [em, e1]
      unfold goS
      rw [eu]
  refine ⟨fun hc => su ?_, fun hc => ?_⟩
  · unfold upS; rw [if_pos hc]
  · refine s_X9_standing hw ⟨fun hc2 => ?_, fun hc2 => su ?_⟩
    · have c2 : ¬ stS (mem 83) = 0 := fun z => hc2 ((pc9_0 _ (stS_lt hw)).1.mpr z)
      refine s_aGo21 hw hW (fun _ => st_ex c2) (fun m hm em => hK m hm ?_)
      rw [em]
      unfold goS upS
      rw [if_neg hc, if_neg c2]
    · have c2 : stS (mem 83) = 0 := (pc9_0 _ (stS_lt hw)).1.mp hc2
      unfold upS
      rw [if_neg hc, if_pos c2]
/-! the class's go -/
theorem s_draw {k : Nat} (hk : 1 ≤ k) (hk2 : k + 13 ≤ 40) {a : Rw} {mem : Mm} {K : Int32 → Mm → Prop} (hn : nm a ≤ 9) (hA : AlA mem k a) (hK : ∀ m, Fr (PAl k) mem m → AlA m k (upd a 0 (zN (a 0))) → K (dv (zN (a 0))) m) : W_X0_draw k mem K := by
  unfold W_X0_draw
  intro m1 e1
  have x0 : mem k 6 = a 0 := hA.2.1.2.2.2.2
  rw [x0] at e1
  have hA1 : AlA m1 k (upd a 0 (zN (a 0))) := by rw [e1]; exact hA.num hk (by omega) hn (by omega)
  have x1 : m1 k 6 = zN (a 0) := by rw [hA1.2.1.2.2.2.2]; exact pk_us
  rw [x1]
  exact hK m1 (by rw [e1]; exact Fr.m1 _ _ _ ⟨by omega, by omega⟩ (by omega)) hA1
set_option maxHeartbeats 4000000 in
theorem s_goOnce19 {k : Nat} (hk : 1 ≤ k) (hk2 : k + 13 ≤ 40) {a : Rw} {mem : Mm} {K : Mm → Prop} (hw : Wm a) (hW : Wt a) (hA : AlA mem k a) (hex : 0 < nm a → ∃ i, i < nm a ∧ a (7 + 6 * i + 5) = 0) (hK : ∀ m, Fr (PAl k) mem m → AlA m k (mvS (toS a (a 0))) → K m) : B_X0_goOnce_19 k K mem := by
  have h9 := hw.2.1
  have nu : ∀ x : Int32, nm (upd a 0 x) ≤ 9 := fun x => by rw [nm_upd (by omega)]; exact h9
  have eu : ∀ x : Int32, upd a 0 x 0 = x := fun x => pk_us
  have uu : ∀ x y : Int32, upd (upd a 0 x) 0 y = upd a 0 y := fun x y => upd_upd _ _ _ _
  unfold B_X0_goOnce_19
  refine s_draw hk hk2 h9 hA (fun m1 f1 A1 => ?_)
  refine s_draw hk hk2 (nu _) A1 (fun m2 f2 A2 => ?_)
  rw [eu] at A2 ⊢
  rw [uu] at A2
  refine s_draw hk hk2 (nu _) A2 (fun m3 f3 A3 => ?_)
  rw [eu] at A3 ⊢
  rw [uu] at A3
  refine s_draw hk hk2 (nu _) A3 (fun m4 f4 A4 => ?_)
  rw [eu] at A4 ⊢
  rw [uu] at A4
  have A4b : AlA m4 k (upd a 0 (z4 (a 0))) := A4
  have F4 : Fr (PAl k) mem m4 := ((f1.trans f2).trans f3).trans f4
  have hw4 : Wm (upd a 0 (z4 (a 0))) := hw.put (by omega) (by omega)
  have n4 : nm (upd a 0 (z4 (a 0))) = nm a := nm_upd (by omega)
  have hW4 : Wt (upd a 0 (z4 (a 0))) := hW.eq (fun q hq => pk_un (by omega))
  have tail : ∀ (b : Rw) (m5 : Mm), Wm b → Fr (PAl k) mem m5 → AlA m5 k b → (∀ m, Fr (PAl k) mem m → AlA m k (mvS b) → K m) → B_X0_goOnce_76 k K m5 := by
    intro b m5 hwb f5 A5 hK5
    unfold B_X0_goOnce_76
    refine s_moveNerves hk hk2 hwb A5 (fun m6 f6 A6 m7 e7 m8 e8 => hK5 m8 ?_ ?_)
    · rw [e8, e7]
      exact ((f5.trans f6).trans (Fr.m1 _ _ _ ⟨by omega, by omega⟩ (by omega))).trans (Fr.m1 _ _ _ ⟨by omega, by omega⟩ (by omega))
    · have v5 : m6 k 4 = b 5 := by rw [A6.2.1.2.2.1, mvN_k (by omega)]
      rw [v5] at e7
      have A7 : AlA m7 k (upd (mvN b (nm b)) 5 (b 5 + 1)) := by rw [e7]; exact A6.num hk (by omega) (by rw [mvN_n]; exact hwb.2.1) (by omega)
      have v2 : m7 k 5 = b 2 := by rw [A7.2.1.2.2.2.1, pk_un (by omega), mvN_k (by omega)]
      rw [v2] at e8
      rw [e8]
      exact A7.num hk (by omega) (by rw [nm_upd (by omega), mvN_n]; exact hwb.2.1) (by omega)
  unfold toS at hK
  have ek : m4 k 1 = nI (nm a) := by rw [A4b.1.1, ← n4]; exact hw4.1
  rw [ek]
  refine ⟨fun hc => ?_, fun hc => ?_⟩
  · have c0 : nm a = 0 := by
      by_cases c0 : nm a = 0
      · exact c0
      · exact absurd hc (nI_nle (by omega) (by omega))
    rw [if_pos c0] at hK
    exact tail _ m4 hw4 F4 A4b hK
  · have c0 : ¬ nm a = 0 := by
      intro z
      rw [z] at hc
      exact hc (by decide)
    rw [if_neg c0] at hK
    have hdl := dvN_lt (z4 (a 0))
    have ed : dv (zN (zN (zN (zN (a 0))))) = nI (dvN (z4 (a 0))) := dv_eq _
    rw [ed, pk_rem (by omega) (by omega) (by omega)]
    have hf : dvN (z4 (a 0)) % nm a < nm a := Nat.mod_lt _ (by omega)
    obtain ⟨i, hi, hdi⟩ := hex (by omega)
    have hdi4 : upd a 0 (z4 (a 0)) (7 + 6 * i + 5) = 0 := by rw [pk_un (by omega)]; exact hdi
    have hx := fs_ex (a := upd a 0 (z4 (a 0))) hf hi hdi4
    obtain ⟨g1, g2⟩ := fsF_ok (a := upd a 0 (z4 (a 0))) (f := dvN (z4 (a 0)) % nm a) (by omega) (nm a) 0 hx
    refine ⟨nI_ne0 (by omega) (by omega), ?_⟩
    unfold W_X0_firstStandingFrom
    refine ⟨nm a + 1, l_first hw4 A4b.1 n4 (by omega) hf (nm a) 0 (by omega) hx ?_⟩
    have nb : nbI (fsF (upd a 0 (z4 (a 0))) (nm a) (dvN (z4 (a 0)) % nm a) (nm a) 0) = nI (fsF (upd a 0 (z4 (a 0))) (nm a) (dvN (z4 (a 0)) % nm a) (nm a) 0) := by
      unfold nbI
      rw [if_neg (by omega)]
    rw [← nb]
    refine s_hit (t := tpS (a 0)) (u := tuS (a 0)) hk hk2 12 _ 0 _ (fcS (a 0)) m4 _ (by omega) (by omega) (by omega) hw4 hW4 A4b (fun m5 f5 A5 => ?_)
    exact tail _ m5 (saidS_ok hw4).1 (F4.trans f5) A5 hK
theorem s_goOnce {k : Nat} (hk : 1 ≤ k) (hk2 : k + 13 ≤ 40) {a : Rw} {mem : Mm} {K : Mm → Prop} (hw : Wm a) (hW : Wt a) (hA : AlA mem k a) (hK : ∀ m, Fr (PAl k) mem m → AlA m k (goS a) → K m) : W_X0_goOnce k mem K := by
  have h9 := hw.2.1
  have v5 : mem k 4 = a 5 := hA.2.1.2.2.1
  unfold W_X0_goOnce
  rw [v5]
  have su : upS a = suS a → W_X0_setUp k mem (fun m_16 => B_X0_goOnce_19 k K m_16) := by
    intro eu
    refine s_setUp hk hk2 hw hA (fun m1 f1 A1 => ?_)
    refine s_goOnce19 hk hk2 (suS_w hw) (hW.eq (suS_t h9)) A1 (fun h0 => suS_ex (by rw [suS_n] at h0; exact h0)) (fun m hm Am => hK m (f1.trans hm) ?_)
    unfold goS
    rw [eu]
    exact Am
  refine ⟨fun hc => su ?_, fun hc => ?_⟩
  · unfold upS; rw [if_pos hc]
  · refine s_X0_standing hw hA.1 ⟨fun hc2 => ?_, fun hc2 => su ?_⟩
    · have c2 : ¬ stS a = 0 := fun z => hc2 ((pc9_0 _ (stS_lt hw)).2.mpr z)
      refine s_goOnce19 hk hk2 hw hW hA (fun _ => st_ex c2) (fun m hm Am => hK m hm ?_)
      unfold goS upS
      rw [if_neg hc, if_neg c2]
      exact Am
    · have c2 : stS a = 0 := (pc9_0 _ (stS_lt hw)).2.mp hc2
      unfold upS
      rw [if_neg hc, if_pos c2]
/-! goes, one behind the other -/
def goN : Nat → Rw → Rw
  | 0, a => a
  | n + 1, a => goN n (goS a)
theorem goN_w : ∀ (n : Nat) (a : Rw), Wm a → Wm (goN n a) ∧ nm (goN n a) = nm a ∧ TeqR a (goN n a) := by
  intro n
  induction n with
  | zero => intro a hw; exact ⟨hw, rfl, fun q _ => rfl⟩
  | succ n ih =>
    intro a hw
    obtain ⟨a1, a2, a3⟩ := goS_w hw
    obtain ⟨b1, b2, b3⟩ := ih (goS a) a1
    exact ⟨b1, b2.trans a2, fun q hq => (b3 q hq).trans (a3 q hq)⟩
theorem l_goesOn {n : Nat} {p0 : Int32} {K : Mm → Prop} (hn : n ≤ 1000) : ∀ (r i : Nat) (mem : Mm), i + r = n → Wm (mem 83) → Wt (mem 83) → (∀ m, Fr P83 mem m → m 83 = goN r (mem 83) → K m) → L_X9_goesOn_2 p0 K (r + 1) (nI n) (nI i) mem := by
  intro r
  induction r with
  | zero =>
    intro i mem hi hw hW hK
    unfold L_X9_goesOn_2
    exact ct1 (nI_le (by omega) (by omega)) (hK mem (Fr.refl _ _) rfl)
  | succ r ih =>
    intro i mem hi hw hW hK
    unfold L_X9_goesOn_2
    refine cf1 (nI_ge (by omega) (by omega)) (s_aGo hw hW (fun m1 f1 e1 => ?_))
    obtain ⟨a1, a2, a3⟩ := goS_w hw
    rw [nI_1]
    refine ih (i + 1) m1 (by omega) (by rw [e1]; exact a1) (by rw [e1]; exact hW.eq a3) (fun m hm em => hK m (f1.trans hm) ?_)
    rw [em, e1]
    rfl
theorem s_goesOn {n : Nat} {mem : Mm} {K : Mm → Prop} (hn : n ≤ 1000) (hw : Wm (mem 83)) (hW : Wt (mem 83)) (hK : ∀ m, Fr P83 mem m → m 83 = goN n (mem 83) → K m) : W_X9_goesOn (nI n) mem K := by
  unfold W_X9_goesOn
  exact ⟨n + 1, l_goesOn hn n 0 mem (by omega) hw hW hK⟩
theorem l_goOn {k n : Nat} (hk : 1 ≤ k) (hk2 : k + 13 ≤ 40) {p0 : Int32} {K : Mm → Prop} (hn : n ≤ 1000) : ∀ (r i : Nat) (a : Rw) (mem : Mm), i + r = n → Wm a → Wt a → AlA mem k a → (∀ m, Fr (PAl k) mem m → AlA m k (goN r a) → K m) → L_X0_goOn_2 k p0 K (r + 1) (nI n) (nI i) mem := by
  intro r
  induction r with
  | zero =>
    intro i a mem hi hw hW hA hK
    unfold L_X0_goOn_2
    exact ct1 (nI_le (by omega) (by omega)) (hK mem (Fr.refl _ _) hA)
  | succ r ih =>
    intro i a mem hi hw hW hA hK
    unfold L_X0_goOn_2
    refine cf1 (nI_ge (by omega) (by omega)) (s_goOnce hk hk2 hw hW hA (fun m1 f1 A1 => ?_))
    obtain ⟨a1, a2, a3⟩ := goS_w hw
    rw [nI_1]
    exact ih (i + 1) (goS a) m1 (by omega) a1 (hW.eq a3) A1 (fun m hm Am => hK m (f1.trans hm) Am)
theorem s_goOn {k n : Nat} (hk : 1 ≤ k) (hk2 : k + 13 ≤ 40) {a : Rw} {mem : Mm} {K : Mm → Prop} (hn : n ≤ 1000) (hw : Wm a) (hW : Wt a) (hA : AlA mem k a) (hK : ∀ m, Fr (PAl k) mem m → AlA m k (goN n a) → K m) : W_X0_goOn k (nI n) mem K := by
  unfold W_X0_goOn
  exact ⟨n + 1, l_goOn hk hk2 hn n 0 a mem (by omega) hw hW hA hK⟩
