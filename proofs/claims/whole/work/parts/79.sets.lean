/-! sets of those that stand, and what falls -/
abbrev inB (s m : Nat) : Prop := s / 2 ^ m % 2 = 1
def rmB (s m : Nat) : Nat := if inB s m then s - 2 ^ m else s
def btS (a : Rw) (m : Nat) (t : Int32) (cnt : Nat) : Int32 := brS (a (7 + 6 * m + 0)) (a (7 + 6 * m + 3)) (a (7 + 6 * m + 2)) (plS a m (nI cnt)) t (nI cnt - 1)
def puS (a : Rw) (m : Nat) : Int32 := pushS (a (7 + 6 * m + 0)) (a (7 + 6 * m + 2))
abbrev fbB (a : Rw) (p : Int32) (s m : Nat) (t : Int32) : Prop := inB s m ∧ btS a m t (pc9 s) < p
def lbG (rc : Nat → Nat → Nat) (a : Rw) (p : Int32) (s j : Nat) (t : Int32) : Nat := if fbB a p s j t then rc s j else s
def lbF (a : Rw) : Nat → Nat → Nat → Int32 → Int32 → Nat
  | 0, s, _, _, _ => s
  | n + 1, s, m, t, u => if u = -1 then (if u = 1 then rmB s m else lbG (fun s2 j => lbF a n s2 j t u) a (puS a m) (rmB s m) (nxL m) t) else lbG (fun s2 j => lbF a n s2 j t u) a (puS a m) (if u = 1 then rmB s m else lbG (fun s2 j => lbF a n s2 j t u) a (puS a m) (rmB s m) (nxL m) t) (nxR m) t
/-- a row in which just those of a set stand -/
def SrR (a b : Rw) (s : Nat) : Prop := KpR a b ∧ Wm b ∧ stS b = s ∧ ∀ i, i < nm a → inB s i → b (7 + 6 * i + 4) = a (7 + 6 * i + 4)
theorem sr_bit {a b : Rw} {s i : Nat} (h : SrR a b s) (hi : i < nm a) : inB s i ↔ b (7 + 6 * i + 5) = 0 := by
  have en := h.1.en
  have z : stN b (nm b) / 2 ^ i % 2 = 1 ↔ b (7 + 6 * i + 5) = 0 := stN_bit h.2.1.2.1 (by rw [en]; exact hi)
  have e1 : stN b (nm b) = s := h.2.2.1
  rw [e1] at z
  exact z
theorem sr_lt {a b : Rw} {s : Nat} (h : SrR a b s) : s < 2 ^ nm a := by
  rw [← h.2.2.1, ← h.1.en]
  exact stN_lt b (nm b)
theorem sr_512 {a b : Rw} {s : Nat} (h : SrR a b s) : s < 512 := by
  rw [← h.2.2.1]
  exact stS_lt h.2.1
theorem tb_no9 : ∀ n, n < 10 → ∀ s, s < 2 ^ n → ∀ i, i < 10 → n ≤ i → ¬ inB s i := by decide +kernel
theorem plS_eq {a b : Rw} {i : Nat} {x : Int32} (hk : KpR a b) (hf : b (7 + 6 * i + 4) = a (7 + 6 * i + 4)) : plS b i x = plS a i x := by
  unfold plS
  rw [hk.te.cs, hk.te.et, hf, hk (7 + 6 * i + 1) (by unfold Kq; omega), hk (7 + 6 * i + 2) (by unfold Kq; omega)]
theorem sr_bear {a b : Rw} {s i : Nat} {t : Int32} (h : SrR a b s) (hi : i < nm a) (hb : inB s i) : bearS b i t = btS a i t (pc9 s) := by
  have hd := (sr_bit h hi).mp hb
  have hf := h.2.2.2 i hi hb
  unfold bearS btS otS
  rw [h.2.2.1, if_pos hd, plS_eq h.1 hf, h.1 (7 + 6 * i + 0) (by unfold Kq; omega), h.1 (7 + 6 * i + 3) (by unfold Kq; omega), h.1 (7 + 6 * i + 2) (by unfold Kq; omega)]
theorem stN_dn {b b2 : Rw} {i : Nat} (h1 : b (7 + 6 * i + 5) = 0) (h2 : ¬ b2 (7 + 6 * i + 5) = 0) (ho : ∀ j, j ≠ i → b2 (7 + 6 * j + 5) = b (7 + 6 * j + 5)) : ∀ n, stN b n = stN b2 n + (if i < n then 2 ^ i else 0) := by
  intro n
  induction n with
  | zero => rw [if_neg (by omega)]; rfl
  | succ n ih =>
    unfold stN
    by_cases c1 : n = i
    · subst c1
      rw [if_pos h1, if_neg h2, if_pos (by omega), ih, if_neg (by omega), Nat.add_zero]
    · rw [ho n c1]
      by_cases c2 : i < n
      · rw [if_pos c2] at ih
        rw [if_pos (show i < n + 1 by omega)]
        split <;> omega
      · rw [if_neg c2] at ih
        rw [if_neg (show ¬ i < n + 1 by omega)]
        split <;> omega
theorem sr_dn {a b : Rw} {s i : Nat} (hn : nm a ≤ 9) (h : SrR a b s) (hi : i < nm a) (hb : inB s i) : SrR a (dnS b i) (rmB s i) ∧ pc9 (rmB s i) + 1 = pc9 s ∧ dnS b i 3 = b 3 + 1 := by
  have hd := (sr_bit h hi).mp hb
  obtain ⟨d1, d2⟩ := dnS_ok (i := i) h.2.1 (by omega)
  have en := h.1.en
  have e5 : dnS b i (7 + 6 * i + 5) = 1 := by
    unfold dnS
    rw [pk_un (by omega), pk_un (by omega), pk_us]
  have eo : ∀ j, j ≠ i → dnS b i (7 + 6 * j + 5) = b (7 + 6 * j + 5) := by
    intro j nj
    unfold dnS
    rw [pk_un (by omega), pk_un (by omega), pk_un (by omega)]
  have e4 : ∀ j, j ≠ i → dnS b i (7 + 6 * j + 4) = b (7 + 6 * j + 4) := by
    intro j nj
    unfold dnS
    rw [pk_un (by omega), pk_un (by omega), pk_un (by omega)]
  have hst : stS (dnS b i) = rmB s i := by
    have z := stN_dn hd (by rw [e5]; decide) eo (nm b)
    rw [if_pos (by rw [en]; exact hi)] at z
    have z1 : stN b (nm b) = s := h.2.2.1
    rw [z1] at z
    unfold rmB stS
    rw [if_pos hb, d2.en]
    omega
  have hsr : SrR a (dnS b i) (rmB s i) := by
    refine ⟨h.1.trans d2, d1, hst, fun j hj hbj => ?_⟩
    have dj : dnS b i (7 + 6 * j + 5) = 0 := by
      have z : stN (dnS b i) (nm (dnS b i)) / 2 ^ j % 2 = 1 ↔ dnS b i (7 + 6 * j + 5) = 0 := stN_bit d1.2.1 (by rw [d2.en, en]; exact hj)
      have z1 : stN (dnS b i) (nm (dnS b i)) = rmB s i := hst
      rw [z1] at z
      exact z.mp hbj
    have nj : j ≠ i := by
      intro c1
      rw [c1, e5] at dj
      exact absurd dj (by decide)
    rw [e4 j nj]
    rw [eo j nj] at dj
    exact h.2.2.2 j hj ((sr_bit h hj).mpr dj)
  refine ⟨hsr, ?_, ?_⟩
  · have z := (tb_out i (by omega) s (sr_512 h)).2 hb
    unfold rmB
    rw [if_pos hb]
    exact z
  · unfold dnS
    rw [pk_us]
/-- FELL grows by how many have fallen -/
def CtR (b : Rw) (s : Nat) (b2 : Rw) (s2 : Nat) : Prop := pc9 s2 ≤ pc9 s ∧ b2 3 = b 3 + nI (pc9 s - pc9 s2)
theorem CtR.rf (b : Rw) (s : Nat) : CtR b s b s := ⟨Nat.le_refl _, by rw [Nat.sub_self]; exact (Int32.add_zero _).symm⟩
theorem CtR.tr {b b2 b3 : Rw} {s s2 s3 : Nat} (h : CtR b s b2 s2) (k : CtR b2 s2 b3 s3) : CtR b s b3 s3 := by
  refine ⟨Nat.le_trans k.1 h.1, ?_⟩
  rw [k.2, h.2, Int32.add_assoc, nI_add]
  have h1 := h.1
  have k1 := k.1
  rw [show pc9 s - pc9 s2 + (pc9 s2 - pc9 s3) = pc9 s - pc9 s3 by omega]
theorem sr_hit {a b : Rw} {s j : Nat} {t p : Int32} {rc : Rw → Nat → Rw} {rs : Nat → Nat → Nat} (hn : nm a ≤ 9) (hj : j ≤ 9) (h : SrR a b s) (hrc : ∀ b2 s2 i, SrR a b2 s2 → i < nm a → inB s2 i → SrR a (rc b2 i) (rs s2 i) ∧ CtR b2 s2 (rc b2 i) (rs s2 i)) : SrR a (hitG rc b j t p) (lbG rs a p s j t) ∧ CtR b s (hitG rc b j t p) (lbG rs a p s j t) := by
  have en := h.1.en
  unfold hitG lbG
  by_cases c1 : fbB a p s j t
  · have hjn : j < nm a := by
      by_cases c2 : j < nm a
      · exact c2
      · exact absurd c1.1 (tb_no9 (nm a) (by omega) s (sr_lt h) j (by omega) (by omega))
    rw [if_pos c1, if_pos ⟨by rw [en]; exact hjn, (sr_bit h hjn).mp c1.1, by rw [sr_bear h hjn c1.1]; exact c1.2⟩]
    exact hrc b s j h hjn c1.1
  · rw [if_neg c1, if_neg (fun z => ?_)]
    · exact ⟨h, CtR.rf b s⟩
    · have hjn : j < nm a := by rw [← en]; exact z.1
      have hb : inB s j := (sr_bit h hjn).mpr z.2.1
      exact c1 ⟨hb, by rw [← sr_bear h hjn hb]; exact z.2.2⟩
theorem sr_drop {a : Rw} {t u : Int32} (hn : nm a ≤ 9) : ∀ (n : Nat) (b : Rw) (s i : Nat), SrR a b s → i < nm a → inB s i → SrR a (drF n b i t u) (lbF a n s i t u) ∧ CtR b s (drF n b i t u) (lbF a n s i t u) := by
  intro n
  induction n with
  | zero => intro b s i h _ _; exact ⟨h, CtR.rf b s⟩
  | succ n ih =>
    intro b s i h hi hb
    obtain ⟨d1, d2, d3⟩ := sr_dn hn h hi hb
    obtain ⟨⟨x1, x2, x3, x4⟩, y1, y2, y3, y4⟩ := tb_nx i (by omega)
    have dc : CtR b s (dnS b i) (rmB s i) := ⟨by omega, by rw [d3, show pc9 s - pc9 (rmB s i) = 1 by omega]; rfl⟩
    have ep : pushS (b (7 + 6 * i + 0)) (b (7 + 6 * i + 2)) = puS a i := by
      unfold puS
      rw [h.1 (7 + 6 * i + 0) (by unfold Kq; omega), h.1 (7 + 6 * i + 2) (by unfold Kq; omega)]
    have hL : SrR a (if u = 1 then dnS b i else hitG (fun b2 j => drF n b2 j t u) (dnS b i) (nxL i) t (puS a i)) (if u = 1 then rmB s i else lbG (fun s2 j => lbF a n s2 j t u) a (puS a i) (rmB s i) (nxL i) t) ∧ CtR b s (if u = 1 then dnS b i else hitG (fun b2 j => drF n b2 j t u) (dnS b i) (nxL i) t (puS a i)) (if u = 1 then rmB s i else lbG (fun s2 j => lbF a n s2 j t u) a (puS a i) (rmB s i) (nxL i) t) := by
      by_cases c1 : u = 1
      · rw [if_pos c1, if_pos c1]; exact ⟨d1, dc⟩
      · rw [if_neg c1, if_neg c1]
        obtain ⟨e1, e2⟩ := sr_hit (t := t) (p := puS a i) hn y2 d1 ih
        exact ⟨e1, dc.tr e2⟩
    unfold drF lbF
    rw [ep]
    by_cases c2 : u = -1
    · rw [if_pos c2, if_pos c2]; exact hL
    · rw [if_neg c2, if_neg c2]
      obtain ⟨e1, e2⟩ := sr_hit (t := t) (p := puS a i) hn y4 hL.1 ih
      exact ⟨e1, hL.2.tr e2⟩
/-! just these stand -/
def dnb (s i : Nat) : Int32 := if inB s i then 0 else 1
def lsN (a c : Rw) (s : Nat) : Nat → Rw
  | 0 => c
  | i + 1 => upd (upd (lsN a c s i) (7 + 6 * i + 5) (dnb s i)) (7 + 6 * i + 4) (clampI (a (7 + 6 * i + 4) + (if a (7 + 6 * i + 5) = 0 then dnb s i else 0)) 0 9999)
theorem lsN_k {a c : Rw} {s n q : Nat} (hq : q < 7 ∨ n ≤ (q - 7) / 6 ∨ (q - 7) % 6 < 4) : lsN a c s n q = c q := by
  induction n with
  | zero => rfl
  | succ n ih =>
    unfold lsN
    rw [pk_un (by omega), pk_un (by omega)]
    exact ih (by omega)
theorem lsN_5 {a c : Rw} {s n i : Nat} (hi : i < n) : lsN a c s n (7 + 6 * i + 5) = dnb s i := by
  induction n with
  | zero => omega
  | succ n ih =>
    unfold lsN
    by_cases c1 : i = n
    · rw [c1, pk_un (by omega), pk_us]
    · rw [pk_un (by omega), pk_un (by omega)]
      exact ih (by omega)
theorem lsN_4 {a c : Rw} {s n i : Nat} (hi : i < n) : lsN a c s n (7 + 6 * i + 4) = clampI (a (7 + 6 * i + 4) + (if a (7 + 6 * i + 5) = 0 then dnb s i else 0)) 0 9999 := by
  induction n with
  | zero => omega
  | succ n ih =>
    unfold lsN
    by_cases c1 : i = n
    · rw [c1, pk_us]
    · rw [pk_un (by omega), pk_un (by omega)]
      exact ih (by omega)
theorem lsN_w {a c : Rw} {s : Nat} (hw : Wm c) : ∀ n, Wm (lsN a c s n) := by
  intro n
  induction n with
  | zero => exact hw
  | succ n ih =>
    refine (ih.set (by omega) ?_).set (by omega) (clamp_rg9 _)
    unfold dnb
    split
    · exact ⟨0, by decide, rfl⟩
    · exact ⟨1, by decide, rfl⟩
theorem stN_set {b : Rw} : ∀ (n s : Nat), n ≤ 9 → s < 2 ^ n → (∀ i, i < n → (b (7 + 6 * i + 5) = 0 ↔ inB s i)) → stN b n = s := by
  intro n
  induction n with
  | zero => intro s _ h _; have h1 : s < 1 := h; unfold stN; omega
  | succ n ih =>
    intro s hn hs hb
    rw [Nat.pow_succ] at hs
    unfold stN
    by_cases c1 : s < 2 ^ n
    · obtain ⟨_, x2, _⟩ := tb_hi n (by omega) s c1
      rw [if_neg (fun z => by have := (hb n (by omega)).mp z; omega)]
      exact ih s (by omega) c1 (fun i hi => hb i (by omega))
    · obtain ⟨s2, es2⟩ : ∃ s2, s = s2 + 2 ^ n := ⟨s - 2 ^ n, by omega⟩
      have h2 : s2 < 2 ^ n := by omega
      obtain ⟨x1, x2, x3⟩ := tb_hi n (by omega) s2 h2
      rw [if_pos ((hb n (by omega)).mpr (by rw [es2]; exact x1))]
      rw [ih s2 (by omega) h2 (fun i hi => ?_), es2]
      rw [hb i (by omega), es2]
      unfold inB
      rw [x3 i hi]
theorem tb_shr : ∀ m, m < 9 → ∀ s, s < 512 → (nI s >>> (nI m &&& 31)) &&& 1 = nI (s / 2 ^ m % 2) := by decide +kernel
theorem dnb_eq (s i : Nat) : nI (s / 2 ^ i % 2) ^^^ 1 = dnb s i := by
  have h2 : s / 2 ^ i % 2 = 0 ∨ s / 2 ^ i % 2 = 1 := by omega
  unfold dnb
  rcases h2 with h2 | h2
  · rw [if_neg (by unfold inB; omega), h2]; decide
  · rw [if_pos h2, h2]; decide
theorem sr_lets {a c : Rw} {s : Nat} (ha : Wm a) (hk : KpR a c) (hw : Wm c) (hs : s < 2 ^ nm a) : SrR a (lsN a c s (nm a)) s := by
  have h9 := ha.2.1
  have en := hk.en
  have kk : KpR a (lsN a c s (nm a)) := fun q hq => by
    rw [lsN_k (by unfold Kq at hq; omega)]
    exact hk q hq
  refine ⟨kk, lsN_w hw _, ?_, fun i hi hb => ?_⟩
  · unfold stS
    rw [kk.en]
    refine stN_set (nm a) s h9 hs (fun i hi => ?_)
    rw [lsN_5 hi]
    unfold dnb
    by_cases c1 : inB s i
    · rw [if_pos c1]; exact ⟨fun _ => c1, fun _ => rfl⟩
    · rw [if_neg c1]; exact ⟨fun z => absurd z (by decide), fun z => absurd z c1⟩
  · obtain ⟨z, hz, ez⟩ : Rg (a (7 + 6 * i + 4)) 9999 := ha.2.2 i 4 hi (by omega)
    rw [lsN_4 hi]
    unfold dnb
    rw [if_pos hb]
    have e0 : (if a (7 + 6 * i + 5) = 0 then (0 : Int32) else 0) = 0 := by split <;> rfl
    rw [e0, Int32.add_zero, ez]
    unfold clampI
    rw [if_neg (nI_pos (by omega)), if_neg (show ¬ (9999 : Int32) < nI z from nI_nlt (a := 9999) hz (by omega))]
theorem l_lets {a c : Rw} {s n : Nat} {p0 : Int32} {m0 : Mm} {K : Mm → Prop} (hn9 : n ≤ 9) (hs : s < 512) (hc1 : c 1 = nI n) (h85 : ∀ j, j < 1433 → m0 85 j = a j) (hK : ∀ m, Fr (fun q => q = 83) m0 m → m 83 = lsN a c s n → K m) : ∀ (d i : Nat) (m : Mm), i + d = n → Fr (fun q => q = 83) m0 m → m 83 = lsN a c s i → L_X9_letsStand_2 p0 K (d + 1) (nI s) (nI i) m := by
  intro d
  induction d with
  | zero =>
    intro i m hi hF hm
    have c0 : i = n := by omega
    subst c0
    unfold L_X9_letsStand_2
    exact ct1 (by rw [hm, lsN_k (by omega), hc1]; exact nI_le (Nat.le_refl _) (by omega)) (hK m hF hm)
  | succ d ih =>
    intro i m hi hF hm
    unfold L_X9_letsStand_2
    refine cf1 (by rw [hm, lsN_k (by omega), hc1]; exact nI_ge (by omega) (by omega)) ?_
    rw [tb_shr i (by omega) s hs, dnb_eq]
    refine s_X9_put (i := i) (j := 5) (by omega) (by omega) ?_
    have e85 : mu m 83 (7 + 6 * i + 5) (dnb s i) 85 = m0 85 := by rw [mu_row_n _ _ _ (by omega)]; exact hF.c 85 (by omega) (by omega)
    refine ⟨7 + 6 * i + 4, ix_man i 4, by omega, 7 + 6 * i + 5, ix_man i 5, by omega, ?_⟩
    rw [e85, h85 _ (by omega), h85 _ (by omega)]
    have nx : ∀ v : Int32, v = clampI (a (7 + 6 * i + 4) + (if a (7 + 6 * i + 5) = 0 then dnb s i else 0)) 0 9999 → L_X9_letsStand_2 p0 K (d + 1) (nI s) (nI i + 1) (mu (mu m 83 (7 + 6 * i + 5) (dnb s i)) 83 (7 + 6 * i + 4) v) := by
      intro v ev1
      rw [nI_1]
      refine ih (i + 1) _ (by omega) ((hF.trans (Fr.m1 _ _ _ rfl (by omega))).trans (Fr.m1 _ _ _ rfl (by omega))) ?_
      rw [mu_row_s, mu_row_s, hm, ev1]
      rfl
    refine ⟨fun hc => s_X9_within (s_X9_put (i := i) (j := 4) (by omega) (by omega) (nx _ ?_)), fun hc => s_X9_within (s_X9_put (i := i) (j := 4) (by omega) (by omega) (nx _ ?_))⟩
    · rw [if_neg hc]
    · rw [if_pos hc]
/-- who stands yet when saying k is said where a set stands -/
def flS (a : Rw) (f : Int32) (s k : Nat) : Nat := lbG (fun s2 j => lbF a 12 s2 j (nI (k / 3 % 8)) (nI (k % 3) - 1)) a f s (k / 24) (nI (k / 3 % 8))
abbrev P824 : Nat → Prop := fun q => q = 82 ∨ q = 83 ∨ q = 95 ∨ q = 96
/-- while the reference thinks -/
def ThR (a : Rw) (m0 m : Mm) : Prop := Fr (fun q => q = 82 ∨ q = 83 ∨ (86 ≤ q ∧ q ≤ 87) ∨ q = 95 ∨ q = 96) m0 m ∧ KpR a (m 83) ∧ Wm (m 83) ∧ (∀ j, j ≠ 4 → m 82 j = m0 82 j)
set_option maxHeartbeats 4000000 in
theorem s_fellBy {a : Rw} {f : Int32} {s k : Nat} {m0 mem : Mm} {K : Int32 → Mm → Prop} (ha : Wm a) (hW : Wt a) (h85 : ∀ j, j < 1433 → m0 85 j = a j) (hs : s < 2 ^ nm a) (hk : k < 24 * nm a) (hT : ThR a m0 mem) (hK : ∀ m, ThR a m0 m → m 82 4 = nI (flS a f s k) → m 86 = mem 86 → m 87 = mem 87 → pc9 (flS a f s k) ≤ pc9 s → flS a f s k < 2 ^ nm a → K (nI (pc9 s - pc9 (flS a f s k))) m) : W_X9_fellBy (nI s) (nI k) f mem K := by
  have h9 := ha.2.1
  have hs5 : s < 512 := Nat.lt_of_lt_of_le hs (Nat.pow_le_pow_right (by decide) h9)
  obtain ⟨t1, t2, t3, t4⟩ := hT
  have hm : k / 24 < nm a := by omega
  have e24 : nI k / 24 = nI (k / 24) := pk_div (d := 24) (by omega) (by omega) (by omega)
  have e3 : nI k / 3 = nI (k / 3) := pk_div (d := 3) (by omega) (by omega) (by omega)
  have e8 : nI (k / 3) - nI (k / 3) / 8 * 8 = nI (k / 3 % 8) := pk_rem (d := 8) (by omega) (by omega) (by omega)
  have er : nI k - nI (k / 3) * 3 = nI (k % 3) := by
    rw [← e3]
    exact pk_rem (d := 3) (by omega) (by omega) (by omega)
  unfold W_X9_fellBy
  intro m1 e1
  rw [e24, e3, e8, er, tb_shr _ (by omega) s hs5]
  have f1 : Fr P824 mem m1 := by rw [e1]; exact Fr.m1 _ _ _ (Or.inl rfl) (by omega)
  have q83 : m1 83 = mem 83 := by rw [e1]; exact mu_row_n _ _ _ (by omega)
  have q82 : ∀ j, j ≠ 4 → m1 82 j = m0 82 j := fun j nj => by rw [e1, mu_j _ _ _ nj]; exact t4 j nj
  have en := t2.en
  by_cases c1 : inB s (k / 24)
  · rw [show nI (s / 2 ^ (k / 24) % 2) = nI 1 from congrArg nI c1]
    refine cf2 (by decide) ?_
    unfold W_X9_letsStand
    refine ⟨nm a + 1, l_lets (a := a) (c := mem 83) h9 hs5 (by rw [t2 1 (by unfold Kq; omega)]; exact ha.1) (fun j hj => ?_) (fun m2 f2 e2 => ?_) (nm a) 0 m1 (by omega) (Fr.refl _ _) q83⟩
    · rw [e1, mu_row_n _ _ _ (by omega), t1.c 85 (by omega) (by omega)]; exact h85 j hj
    have sr := sr_lets ha t2 t3 hs
    rw [← e2] at sr
    have hd : m2 83 (7 + 6 * (k / 24) + 5) = 0 := (sr_bit sr hm).mp c1
    refine s_said sr.2.1 (hW.eq sr.1.te) (by rw [sr.1.en]; exact hm) hd (fun m3 f3 e3b => ?_)
    obtain ⟨u1, u2⟩ := sr_hit (t := nI (k / 3 % 8)) (p := f) (j := k / 24) h9 (by omega) sr (sr_drop (t := nI (k / 3 % 8)) (u := nI (k % 3) - 1) h9 12)
    have e3c : m3 83 = hitG (fun b j => drF 12 b j (nI (k / 3 % 8)) (nI (k % 3) - 1)) (m2 83) (k / 24) (nI (k / 3 % 8)) f := e3b
    rw [← e3c] at u1 u2
    have efl : lbG (fun s2 j => lbF a 12 s2 j (nI (k / 3 % 8)) (nI (k % 3) - 1)) a f s (k / 24) (nI (k / 3 % 8)) = flS a f s k := rfl
    rw [efl] at u1 u2
    refine s_X9_standing u1.2.1 (fun m4 e4 => ?_)
    have est : stN (m3 83) (nm (m3 83)) = flS a f s k := u1.2.2.1
    rw [est] at e4
    have v1 : m3 83 3 - m2 83 3 = nI (pc9 s - pc9 (flS a f s k)) := by
      rw [u2.2, Int32.add_comm, Int32.add_sub_cancel]
    rw [v1]
    have g83 : m4 83 = m3 83 := by rw [e4]; exact mu_row_n _ _ _ (by omega)
    have F : Fr P824 mem m4 := by
      rw [e4]
      exact ((f1.trans (f2.mono (fun q hq => by omega))).trans (f3.mono (fun q hq => by omega))).trans (Fr.m1 _ _ _ (Or.inl rfl) (by omega))
    refine hK m4 ⟨t1.trans (F.mono (fun q hq => by omega)), by rw [g83]; exact u1.1, by rw [g83]; exact u1.2.1, fun j nj => ?_⟩ (by rw [e4, mu_s]) (F.c 86 (by omega) (by omega)) (F.c 87 (by omega) (by omega)) u2.1 (sr_lt u1)
    rw [e4, mu_j _ _ _ nj, f3.c 82 (by omega) (by omega), f2.c 82 (by omega) (by omega)]
    exact q82 j nj
  · have c2 : s / 2 ^ (k / 24) % 2 = 0 := by unfold inB at c1; omega
    rw [c2]
    have efl : flS a f s k = s := by
      unfold flS lbG
      rw [if_neg (fun z => c1 z.1)]
    refine ct2 (by decide) ?_
    have kk := hK m1 ⟨t1.trans (f1.mono (fun q hq => by omega)), by rw [q83]; exact t2, by rw [q83]; exact t3, q82⟩ (by rw [e1, mu_s, efl]) (f1.c 86 (by omega) (by omega)) (f1.c 87 (by omega) (by omega)) (by rw [efl]; exact Nat.le_refl _) (by rw [efl]; exact hs)
    rw [efl, Nat.sub_self] at kk
    exact kk
