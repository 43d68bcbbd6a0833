/-! THE PURE PART: branches that are known, frames, rows -/
theorem zt1 {A B : Prop} (h : B) : (bZ true = 0 → A) ∧ (¬ bZ true = 0 → B) := ⟨fun e => absurd e (by decide), fun _ => h⟩
theorem zt2 {A B : Prop} (h : B) : (¬ bZ true = 0 → B) ∧ (bZ true = 0 → A) := ⟨fun _ => h, fun e => absurd e (by decide)⟩
theorem zf1 {A B : Prop} (h : A) : (bZ false = 0 → A) ∧ (¬ bZ false = 0 → B) := ⟨fun _ => h, fun e => (e (by decide)).elim⟩
theorem zf2 {A B : Prop} (h : A) : (¬ bZ false = 0 → B) ∧ (bZ false = 0 → A) := ⟨fun e => (e (by decide)).elim, fun _ => h⟩
theorem ct1 {c A B : Prop} (hc : c) (h : A) : (c → A) ∧ (¬ c → B) := ⟨fun _ => h, fun e => absurd hc e⟩
theorem ct2 {c A B : Prop} (hc : c) (h : A) : (¬ c → B) ∧ (c → A) := ⟨fun e => absurd hc e, fun _ => h⟩
theorem cf1 {c A B : Prop} (hc : ¬ c) (h : B) : (c → A) ∧ (¬ c → B) := ⟨fun e => absurd e hc, fun _ => h⟩
theorem cf2 {c A B : Prop} (hc : ¬ c) (h : B) : (¬ c → B) ∧ (c → A) := ⟨fun _ => h, fun e => absurd e hc⟩
abbrev Rw : Type := Nat → Int32
/-- cells that are a text's stack -/
def iSt (q : Nat) : Prop := 106 ≤ q ∧ q % 3 = 0
/-- all but the cells of P, and the stacks' places, is as it was -/
def Fr (P : Nat → Prop) (m m' : Mm) : Prop := (∀ q, ¬ P q → ¬ iSt q → m' q = m q) ∧ (∀ q, iSt q → m' q 1000 = m q 1000)
theorem Fr.refl (P : Nat → Prop) (m : Mm) : Fr P m m := ⟨fun _ _ _ => rfl, fun _ _ => rfl⟩
theorem Fr.trans {P : Nat → Prop} {m1 m2 m3 : Mm} (h : Fr P m1 m2) (k : Fr P m2 m3) : Fr P m1 m3 := ⟨fun q a b => (k.1 q a b).trans (h.1 q a b), fun q a => (k.2 q a).trans (h.2 q a)⟩
theorem Fr.mono {P P2 : Nat → Prop} {m m' : Mm} (h : Fr P m m') (hp : ∀ q, P q → P2 q) : Fr P2 m m' := ⟨fun q a b => h.1 q (fun x => a (hp q x)) b, h.2⟩
theorem Fr.m1 {P : Nat → Prop} {k : Nat} (m : Mm) (j : Nat) (v : Int32) (hk : P k) (h6 : k < 106) : Fr P m (mu m k j v) :=
  ⟨fun q a _ => mu_row_n m j v (fun e => a (by rw [e]; exact hk)), fun q a => mu_k m j v (by unfold iSt at a; omega) 1000⟩
theorem Fr.ms {P : Nat → Prop} {q : Nat} (m : Mm) {j : Nat} (v : Int32) (hq : iSt q) (hj : j ≠ 1000) : Fr P m (mu m q j v) :=
  ⟨fun p _ b => mu_row_n m j v (fun e => b (by rw [e]; exact hq)), fun p _ => by rw [mu_if, if_neg (by omega)]⟩
theorem Fr.c {P : Nat → Prop} {m m' : Mm} (h : Fr P m m') (q : Nat) (hq : q < 106) (hp : ¬ P q) : m' q = m q := h.1 q hp (by unfold iSt; omega)
theorem Fr.tx {P : Nat → Prop} {m m' : Mm} (h : Fr P m m') (j : Nat) (hp : ∀ q, 106 ≤ q → ¬ P q) : m' (106 + 3 * j) = m (106 + 3 * j) ∧ m' (106 + 3 * j + 1) = m (106 + 3 * j + 1) ∧ m' (106 + 3 * j + 2) 1000 = m (106 + 3 * j + 2) 1000 :=
  ⟨h.1 _ (hp _ (by omega)) (by unfold iSt; omega), h.1 _ (hp _ (by omega)) (by unfold iSt; omega), h.2 _ (by unfold iSt; omega)⟩
theorem nTx_c {m m' : Mm} (h : m' 0 = m 0) : nTx m' = nTx m := by unfold nTx; rw [h]
/-- numbers 0 .. n -/
def Rg (x : Int32) (n : Nat) : Prop := ∃ k : Nat, k ≤ n ∧ x = nI k
theorem Rg.of {x y : Int32} {n : Nat} (hy : y.toInt = n) (h : 0 ≤ x ∧ x ≤ y) : Rg x n := by
  obtain ⟨j, hj, e⟩ := nI_of2 hy (Int32.not_lt.mpr h.1) h.2
  exact ⟨j, hj, e⟩
def mx (j : Nat) : Nat := [5, 99, 99, 7, 9999, 1].getD j 0
def nm (a : Rw) : Nat := (a 1).toNatClampNeg
/-- the men of a row are as men are -/
def Wm (a : Rw) : Prop := a 1 = nI (nm a) ∧ nm a ≤ 9 ∧ ∀ i j, i < nm a → j < 6 → Rg (a (7 + 6 * i + j)) (mx j)
theorem Wm.set {a : Rw} {i j : Nat} {v : Int32} (h : Wm a) (hj : j < 6) (hv : Rg v (mx j)) : Wm (upd a (7 + 6 * i + j) v) := by
  obtain ⟨h1, h2, h3⟩ := h
  have e1 : upd a (7 + 6 * i + j) v 1 = a 1 := pk_un (by omega)
  have en : nm (upd a (7 + 6 * i + j) v) = nm a := by unfold nm; rw [e1]
  refine ⟨by rw [e1, en]; exact h1, by rw [en]; exact h2, fun i2 j2 hi2 hj2 => ?_⟩
  rw [en] at hi2
  by_cases e : 7 + 6 * i2 + j2 = 7 + 6 * i + j
  · have e3 : j2 = j := by omega
    rw [e, pk_us, e3]
    exact hv
  · rw [pk_un e]
    exact h3 i2 j2 hi2 hj2
theorem Wm.put {a : Rw} {k : Nat} {v : Int32} (h : Wm a) (hk : k ≠ 1) (hk2 : k < 7 ∨ 61 ≤ k) : Wm (upd a k v) := by
  obtain ⟨h1, h2, h3⟩ := h
  have e1 : upd a k v 1 = a 1 := pk_un (by omega)
  have en : nm (upd a k v) = nm a := by unfold nm; rw [e1]
  refine ⟨by rw [e1, en]; exact h1, by rw [en]; exact h2, fun i2 j2 hi2 hj2 => ?_⟩
  rw [en] at hi2
  rw [pk_un (by omega)]
  exact h3 i2 j2 hi2 hj2
theorem nm_upd {a : Rw} {k : Nat} {v : Int32} (hk : k ≠ 1) : nm (upd a k v) = nm a := by unfold nm; rw [pk_un (Ne.symm hk)]
/-! who stands: a set -/
def stN (a : Rw) : Nat → Nat
  | 0 => 0
  | n + 1 => if a (7 + 6 * n + 5) = 0 then stN a n + 2 ^ n else stN a n
theorem stN_lt (a : Rw) (n : Nat) : stN a n < 2 ^ n := by
  induction n with
  | zero => exact Nat.one_pos
  | succ n ih =>
    unfold stN
    rw [Nat.pow_succ]
    split <;> omega
theorem stN_512 {a : Rw} {n : Nat} (hn : n ≤ 9) : stN a n < 512 := Nat.lt_of_lt_of_le (stN_lt a n) (Nat.pow_le_pow_right (by decide) hn)
theorem tb_or : ∀ i, i < 9 → ∀ s, s < 2 ^ i → nI s ||| (1 <<< (nI i &&& 31)) = nI (s + 2 ^ i) := by decide +kernel
/-- how many are in a set -/
def pc9 (s : Nat) : Nat := s % 2 + s / 2 % 2 + s / 4 % 2 + s / 8 % 2 + s / 16 % 2 + s / 32 % 2 + s / 64 % 2 + s / 128 % 2 + s / 256 % 2
theorem pc9_le (s : Nat) : pc9 s ≤ 9 := by unfold pc9; omega
def bcF (x : Int32) : Int32 :=
  let y9 := x - (((x.toUInt32 >>> (Int32.toUInt32 1 &&& Int32.toUInt32 31)).toInt32) &&& 1431655765)
  let y23 := (y9 &&& 858993459) + (((y9.toUInt32 >>> (Int32.toUInt32 2 &&& Int32.toUInt32 31)).toInt32) &&& 858993459)
  let y33 := (y23 + ((y23.toUInt32 >>> (Int32.toUInt32 4 &&& Int32.toUInt32 31)).toInt32)) &&& 252645135
  let y40 := y33 + ((y33.toUInt32 >>> (Int32.toUInt32 8 &&& Int32.toUInt32 31)).toInt32)
  let y47 := y40 + ((y40.toUInt32 >>> (Int32.toUInt32 16 &&& Int32.toUInt32 31)).toInt32)
  y47 &&& 63
theorem tb_bc : ∀ s, s < 512 → bcF (nI s) = nI (pc9 s) := by decide +kernel
theorem s_bitCount {s : Nat} {mem : Mm} {K : Int32 → Mm → Prop} (hs : s < 512) (h : K (nI (pc9 s)) mem) : W_J6_bitCount_0f7a4 (nI s) mem K := by
  unfold W_J6_bitCount_0f7a4
  intro y9 e9 y23 e23 y33 e33 y40 e40 y47 e47
  rw [← tb_bc s hs] at h
  subst e47 e40 e33 e23 e9
  exact h
def btF : Nat → Int32 → Int32 → Option Int32
  | 0, _, _ => none
  | n + 1, l1, l2 => if l2 = 0 then some l1 else btF n (l1 + 1) (l2 &&& (l2 - 1))
theorem l_bits {p0 : Int32} {mem : Mm} {K : Int32 → Mm → Prop} : ∀ (n : Nat) (l1 l2 v : Int32), btF n l1 l2 = some v → K v mem → L_X9_bits_4 p0 K n l1 l2 mem := by
  intro n
  induction n with
  | zero => intro l1 l2 v h; cases h
  | succ n ih =>
    intro l1 l2 v h hk
    unfold btF at h
    unfold L_X9_bits_4
    refine ⟨fun hc => ?_, fun hc => ?_⟩
    · rw [if_pos hc] at h
      cases h
      exact hk
    · rw [if_neg hc] at h
      exact ih _ _ v h hk
theorem tb_bt : ∀ s, s < 512 → btF 10 0 (nI s) = some (nI (pc9 s)) := by decide +kernel
theorem s_bits {s : Nat} {mem : Mm} {K : Int32 → Mm → Prop} (hs : s < 512) (h : K (nI (pc9 s)) mem) : W_X9_bits (nI s) mem K := by
  unfold W_X9_bits
  exact ⟨10, l_bits 10 _ _ _ (tb_bt s hs) h⟩
theorem l_X9_standing {n : Nat} {mem : Mm} {K : Int32 → Mm → Prop} (hw : mem 83 1 = nI n) (hn : n ≤ 9) (h : K (nI (stN (mem 83) n)) mem) : ∀ (d i : Nat), i + d = n → L_X9_standing_4 K (d + 1) (nI (stN (mem 83) i)) (nI i) mem := by
  intro d
  induction d with
  | zero =>
    intro i hi
    have e : i = n := by omega
    unfold L_X9_standing_4
    rw [e]
    exact ct1 (by rw [hw]; exact nI_le (Nat.le_refl _) (by omega)) h
  | succ d ih =>
    intro i hi
    have hk := ih (i + 1) (by omega)
    unfold L_X9_standing_4
    refine cf1 (by rw [hw]; exact nI_ge (by omega) (by omega)) ?_
    refine s_X9_of (i := i) (j := 5) (by omega) (by omega) ?_
    refine ⟨fun hc => ?_, fun hc => ?_⟩
    · have e : stN (mem 83) (i + 1) = stN (mem 83) i := by
        show (if _ then _ else _) = _
        rw [if_neg hc]
      rw [e] at hk
      rw [Int32.or_zero, nI_1]
      exact hk
    · have e : stN (mem 83) (i + 1) = stN (mem 83) i + 2 ^ i := by
        show (if _ then _ else _) = _
        rw [if_pos hc]
      rw [e] at hk
      rw [tb_or i (by omega) _ (stN_lt _ _), nI_1]
      exact hk
theorem s_X9_standing {mem : Mm} {K : Int32 → Mm → Prop} (hw : Wm (mem 83)) (h : K (nI (stN (mem 83) (nm (mem 83)))) mem) : W_X9_standing mem K := by
  unfold W_X9_standing
  exact ⟨nm (mem 83) + 1, l_X9_standing hw.1 hw.2.1 h (nm (mem 83)) 0 (by omega)⟩
/-- the men of an alley are those of a row -/
def AlM (mem : Mm) (k : Nat) (a : Rw) : Prop := mem k 1 = a 1 ∧ ∀ i j, i < nm a → j < 6 → mem (k + 4 + i) j = a (7 + 6 * i + j)
theorem l_X0_standing {k n : Nat} {a : Rw} {mem : Mm} {K : Int32 → Mm → Prop} (hw : mem k 1 = nI n) (hn : n ≤ 9) (ha : ∀ i, i < n → mem (k + 4 + i) 5 = a (7 + 6 * i + 5)) (h : K (nI (stN a n)) mem) : ∀ (d i : Nat), i + d = n → L_X0_standingSet_4 k K (d + 1) (nI (stN a i)) (nI i) mem := by
  intro d
  induction d with
  | zero =>
    intro i hi
    have e : i = n := by omega
    unfold L_X0_standingSet_4
    rw [e]
    exact ct1 (by rw [hw]; exact nI_le (Nat.le_refl _) (by omega)) h
  | succ d ih =>
    intro i hi
    have hk := ih (i + 1) (by omega)
    unfold L_X0_standingSet_4
    refine cf1 (by rw [hw]; exact nI_ge (by omega) (by omega)) ?_
    refine ⟨i, rfl, by omega, ?_⟩
    rw [ha i (by omega)]
    refine ⟨fun hc => ?_, fun hc => ?_⟩
    · have e : stN a (i + 1) = stN a i := by
        show (if _ then _ else _) = _
        rw [if_neg hc]
      rw [e] at hk
      rw [nI_1]
      exact hk
    · have e : stN a (i + 1) = stN a i + 2 ^ i := by
        show (if _ then _ else _) = _
        rw [if_pos hc]
      rw [e] at hk
      rw [tb_or i (by omega) _ (stN_lt _ _), nI_1]
      exact hk
def stS (a : Rw) : Nat := stN a (nm a)
theorem stS_lt {a : Rw} (hw : Wm a) : stS a < 512 := stN_512 hw.2.1
theorem s_X0_standingSet {k : Nat} {a : Rw} {mem : Mm} {K : Int32 → Mm → Prop} (hw : Wm a) (hA : AlM mem k a) (h : K (nI (stS a)) mem) : W_X0_standingSet k mem K := by
  unfold W_X0_standingSet
  exact ⟨nm a + 1, l_X0_standing (a := a) (n := nm a) (by rw [hA.1]; exact hw.1) hw.2.1 (fun i hi => hA.2 i 5 hi (by omega)) h (nm a) 0 (by omega)⟩
theorem s_X0_standing {k : Nat} {a : Rw} {mem : Mm} {K : Int32 → Mm → Prop} (hw : Wm a) (hA : AlM mem k a) (h : K (nI (pc9 (stS a))) mem) : W_X0_standing k mem K := by
  unfold W_X0_standing
  exact s_X0_standingSet hw hA (s_bitCount (stS_lt hw) h)
/-! is there such a man? -/
theorem s_has_y {k n i : Nat} {mem : Mm} {K : Bool → Mm → Prop} (hw : mem k 1 = nI n) (hn : n ≤ 9) (hi : i < n) (h : K true mem) : W_X0_has k (nI i) mem K := by
  unfold W_X0_has
  exact cf1 (nI_pos (by omega)) (cf1 (by rw [hw]; exact nI_ge hi (by omega)) h)
theorem s_has_n {k n : Nat} {p : Int32} {mem : Mm} {K : Bool → Mm → Prop} (hw : mem k 1 = nI n) (hp : p < 0 ∨ nI n ≤ p) (h : K false mem) : W_X0_has k p mem K := by
  unfold W_X0_has
  refine ⟨fun _ => h, fun h1 => ?_⟩
  rcases hp with hp | hp
  · exact absurd hp h1
  · exact ct1 (by rw [hw]; exact hp) h
theorem s_isMan_y {n i : Nat} {mem : Mm} {K : Bool → Mm → Prop} (hw : mem 83 1 = nI n) (hn : n ≤ 9) (hi : i < n) (h : K true mem) : W_X9_isMan (nI i) mem K := by
  unfold W_X9_isMan
  unfold W_X9_in
  refine cf1 (nI_pos (by omega)) (cf1 ?_ h)
  rw [hw, show (1 : Int32) = nI 1 from rfl, pk_sub (by omega)]
  exact nI_nlt (by omega) (by omega)
theorem nlt_of {n : Nat} {p : Int32} (hn : n ≤ 9) (hp : nI n ≤ p) : nI n - 1 < p := by
  rw [Int32.le_iff_toInt_le, nI_toInt (by omega)] at hp
  rw [Int32.lt_iff_toInt_lt, show (1 : Int32) = nI 1 from rfl, pk_sub_toInt (by omega) (by omega)]
  omega
theorem s_isMan_n {n : Nat} {p : Int32} {mem : Mm} {K : Bool → Mm → Prop} (hw : mem 83 1 = nI n) (hn : n ≤ 9) (hp : p < 0 ∨ nI n ≤ p) (h : K false mem) : W_X9_isMan p mem K := by
  unfold W_X9_isMan
  unfold W_X9_in
  refine ⟨fun _ => h, fun h1 => ?_⟩
  rcases hp with hp | hp
  · exact absurd hp h1
  · exact ct1 (by rw [hw]; exact nlt_of hn hp) h
theorem man_or {a : Rw} (hw : Wm a) (p : Int32) : (p < 0 ∨ nI (nm a) ≤ p) ∨ ∃ i, i < nm a ∧ p = nI i := by
  rcases pk_ix p (n := nm a) (by have := hw.2.1; omega) with h | h | h
  · exact Or.inl (Or.inl h)
  · exact Or.inl (Or.inr h)
  · exact Or.inr h
theorem s_in_y {v a b : Int32} {mem : Mm} {K : Bool → Mm → Prop} (hc : a ≤ v ∧ v ≤ b) (h : K true mem) : W_X9_in v a b mem K := s_X9_in (by rw [decide_eq_true hc]; exact h)
theorem s_in_n {v a b : Int32} {mem : Mm} {K : Bool → Mm → Prop} (hc : ¬ (a ≤ v ∧ v ≤ b)) (h : K false mem) : W_X9_in v a b mem K := s_X9_in (by rw [decide_eq_false hc]; exact h)
theorem s_iw_y {v a b : Int32} {mem : Mm} {K : Bool → Mm → Prop} (hc : a ≤ v ∧ v ≤ b) (h : K true mem) : W_X8_isWithin v a b mem K := s_X8_isWithin (by rw [decide_eq_true hc]; exact h)
theorem s_iw_n {v a b : Int32} {mem : Mm} {K : Bool → Mm → Prop} (hc : ¬ (a ≤ v ∧ v ≤ b)) (h : K false mem) : W_X8_isWithin v a b mem K := s_X8_isWithin (by rw [decide_eq_false hc]; exact h)
/-! does one stand? -/
theorem s_stands {k i : Nat} {a : Rw} {mem : Mm} {K : Bool → Mm → Prop} (hw : Wm a) (hA : AlM mem k a) (hi : i < nm a) (h : K (decide (a (7 + 6 * i + 5) = 0)) mem) : W_X0_stands k (nI i) mem K := by
  have h9 := hw.2.1
  unfold W_X0_stands
  refine s_has_y (n := nm a) (by rw [hA.1]; exact hw.1) h9 hi (zt1 ⟨i, rfl, by omega, ?_⟩)
  rw [hA.2 i 5 hi (by omega)]
  refine ⟨fun hc => ?_, fun hc => ?_⟩
  · rw [decide_eq_false hc] at h; exact h
  · rw [decide_eq_true hc] at h; exact h
theorem s_stands_n {k : Nat} {p : Int32} {a : Rw} {mem : Mm} {K : Bool → Mm → Prop} (hw : Wm a) (hA : AlM mem k a) (hp : p < 0 ∨ nI (nm a) ≤ p) (h : K false mem) : W_X0_stands k p mem K := by
  unfold W_X0_stands
  exact s_has_n (n := nm a) (by rw [hA.1]; exact hw.1) hp (zf1 h)
theorem s_doesStand {i : Nat} {mem : Mm} {K : Bool → Mm → Prop} (hw : Wm (mem 83)) (hi : i < nm (mem 83)) (h : K (decide (mem 83 (7 + 6 * i + 5) = 0)) mem) : W_X9_doesStand (nI i) mem K := by
  have h9 := hw.2.1
  unfold W_X9_doesStand
  refine s_isMan_y hw.1 h9 hi (zt1 (s_X9_of (i := i) (j := 5) (by omega) (by omega) ?_))
  refine ⟨fun hc => ?_, fun hc => ?_⟩
  · rw [decide_eq_false hc] at h; exact h
  · rw [decide_eq_true hc] at h; exact h
theorem s_doesStand_n {p : Int32} {mem : Mm} {K : Bool → Mm → Prop} (hw : Wm (mem 83)) (hp : p < 0 ∨ nI (nm (mem 83)) ≤ p) (h : K false mem) : W_X9_doesStand p mem K := by
  unfold W_X9_doesStand
  exact s_isMan_n hw.1 hw.2.1 hp (zf1 h)
