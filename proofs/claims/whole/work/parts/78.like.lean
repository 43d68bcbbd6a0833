/-! like -/
def abS (x : Int32) : Int32 := if 0 ≤ x then x else 0 - x
theorem ab_sym {x y : Int32} (hx : Rg x 99) (h1 : -99999 ≤ y.toInt) (h2 : y.toInt ≤ 99999) : abS (x - y) = abS (y - x) := by
  obtain ⟨z, hz, ez⟩ := hx
  have t0 : x.toInt = (z : Int) := by rw [ez]; exact nI_toInt (by omega)
  have t1 : (x - y).toInt = x.toInt - y.toInt := by
    rw [Int32.toInt_sub]
    exact Int.bmod_eq_of_le (by omega) (by omega)
  have t2 : (y - x).toInt = y.toInt - x.toInt := by
    rw [Int32.toInt_sub]
    exact Int.bmod_eq_of_le (by omega) (by omega)
  have z0 : (0 : Int32).toInt = 0 := rfl
  unfold abS
  rw [Int32.zero_sub, Int32.zero_sub, Int32.neg_sub, Int32.neg_sub]
  by_cases c1 : 0 ≤ x - y
  · rw [if_pos c1]
    by_cases c2 : 0 ≤ y - x
    · rw [if_pos c2]
      rw [Int32.le_iff_toInt_le, z0, t1] at c1
      rw [Int32.le_iff_toInt_le, z0, t2] at c2
      apply Int32.toInt_inj.mp
      rw [t1, t2]
      omega
    · rw [if_neg c2]
  · rw [if_neg c1]
    by_cases c2 : 0 ≤ y - x
    · rw [if_pos c2]
    · rw [Int32.le_iff_toInt_le, z0, t1] at c1
      rw [Int32.le_iff_toInt_le, z0, t2] at c2
      omega
theorem s_off {v : Int32} {mem : Mm} {K : Int32 → Mm → Prop} (h : K (abS v) mem) : W_X9_off v mem K := by
  unfold W_X9_off
  unfold abS at h
  refine ⟨fun hc => ?_, fun hc => ?_⟩
  · rw [if_pos hc] at h; exact h
  · rw [if_neg hc, Int32.zero_sub] at h; exact h
/-- differences behind k places -/
def dfS (a y : Nat → Int32) : Nat → Nat → Int32
  | 0, _ => 0
  | k + 1, i => if y k = -1000000005 then dfS a y k i else dfS a y k i + abS (goN k a (7 + 6 * i + 1) - y k)
theorem goN_s : ∀ (k : Nat) (a : Rw), goN (k + 1) a = goS (goN k a) := by
  intro k
  induction k with
  | zero => intro a; rfl
  | succ k ih =>
    intro a
    show goN (k + 1) (goS a) = goS (goN k (goS a))
    exact ih (goS a)
def adN (x y : Nat → Int32) : Nat → (Nat → Int32)
  | 0 => x
  | n + 1 => upd (adN x y n) n (x n + y n)
theorem adN_v (x y : Nat → Int32) (n i : Nat) : adN x y n i = if i < n then x i + y i else x i := by
  induction n with
  | zero => rw [if_neg (by omega)]; rfl
  | succ n ih =>
    show upd (adN x y n) n (x n + y n) i = _
    by_cases c1 : i = n
    · rw [c1, pk_us, if_pos (by omega)]
    · rw [pk_un c1, ih]
      by_cases c2 : i < n
      · rw [if_pos c2, if_pos (by omega)]
      · rw [if_neg c2, if_neg (by omega)]
theorem l_add8 {k0 k n : Nat} {b : Rw} {v : Int32} {m0 : Mm} {K : Mm → Prop} {kb : Int32 → Mm → Prop} (hk : k < 24) (hw : Wm b) (hn : nm b = n) (hA : AlM m0 27 b) (hv : m0 (k0 + 1) k = v) (hk0 : 54 ≤ k0 ∧ k0 < 62) (hK : ∀ m, (∀ q, q ≠ 53 → m q = m0 q) → m 53 = adN (m0 53) (fun i => abS (b (7 + 6 * i + 1) - v)) n → kb (nI (k + 1)) m) : ∀ (d i : Nat) (m : Mm), i + d = n → (∀ q, q ≠ 53 → m q = m0 q) → m 53 = adN (m0 53) (fun i => abS (b (7 + 6 * i + 1) - v)) i → L_X8_addDifferences_50 k0 kb K (d + 1) (nI k) (nI i) m := by
  intro d
  have h9 := hw.2.1
  have ek : m0 27 1 = nI n := by rw [hA.1, ← hn]; exact hw.1
  induction d with
  | zero =>
    intro i m hi h1 h2
    have c0 : i = n := by omega
    subst c0
    unfold L_X8_addDifferences_50
    refine ct1 (by rw [h1 27 (by omega), ek]; exact nI_le (Nat.le_refl _) (by omega)) ?_
    rw [nI_1]
    exact hK m h1 h2
  | succ d ih =>
    intro i m hi h1 h2
    unfold L_X8_addDifferences_50
    refine cf1 (by rw [h1 27 (by omega), ek]; exact nI_ge (by omega) (by omega)) ⟨i, rfl, by omega, i, rfl, by omega, k, rfl, hk, i, rfl, by omega, fun m2 e2 => ?_⟩
    rw [h1 (27 + 4 + i) (by omega), h1 (k0 + 1) (by omega), hv, hA.2 i 1 (by omega) (by omega)] at e2
    have x0 : m 53 i = m0 53 i := by rw [h2, adN_v, if_neg (by omega)]
    rw [x0] at e2
    rw [nI_1]
    refine ih (i + 1) m2 (by omega) (fun q nq => ?_) ?_
    · rw [e2, mu_row_n _ _ _ nq]; exact h1 q nq
    · rw [e2, mu_row_s, h2]
      rfl
theorem l_add9 {k n : Nat} {s v w1 : Int32} {p0 p1 : Int32} {m0 : Mm} {K : Int32 → Mm → Prop} {kb : Int32 → Int32 → Int32 → Int32 → Mm → Prop} (hw : Wm (m0 83)) (hW : Wt (m0 83)) (hn : nm (m0 83) = n) (hv : ¬ v = -1000000005) (hr : -99999 ≤ v.toInt ∧ v.toInt ≤ 99999) (hK : ∀ m, Fr (fun q => q = 88 ∨ q = 83 ∨ q = 95 ∨ q = 96) m0 m → m 88 = adN (m0 88) (fun i => abS (m0 83 (7 + 6 * i + 1) - v)) n → m 83 = goS (m0 83) → kb s w1 (nI n) (nI (k + 1)) m) : ∀ (d i : Nat) (m : Mm), i + d = n → (∀ q, q ≠ 88 → m q = m0 q) → m 88 = adN (m0 88) (fun i => abS (m0 83 (7 + 6 * i + 1) - v)) i → L_X9_like_96 p0 p1 kb K (d + 1) s w1 (nI n) (nI k) v (nI i) m := by
  intro d
  have h9 := hw.2.1
  induction d with
  | zero =>
    intro i m hi h1 h2
    have c0 : i = n := by omega
    subst c0
    have q83 : m 83 = m0 83 := h1 83 (by omega)
    unfold L_X9_like_96
    refine ct1 (nI_le (Nat.le_refl _) (by omega)) (s_aGo (by rw [q83]; exact hw) (by rw [q83]; exact hW) (fun m2 f2 e2 => ?_))
    rw [nI_1]
    refine hK m2 ?_ ?_ ?_
    · exact Fr.trans (m2 := m) ⟨fun q p1 p2 => h1 q (by omega), fun q p1 => by unfold iSt at p1; rw [h1 q (by omega)]⟩ (f2.mono (fun q hq => by omega))
    · rw [f2.c 88 (by omega) (by omega)]; exact h2
    · rw [e2, q83]
  | succ d ih =>
    intro i m hi h1 h2
    have q83 : m 83 = m0 83 := h1 83 (by omega)
    unfold L_X9_like_96
    refine cf1 (nI_ge (by omega) (by omega)) (cf1 hv ⟨i, rfl, by omega, ?_⟩)
    refine s_X9_of (i := i) (j := 1) (by omega) (by omega) (s_off ⟨i, rfl, by omega, fun m2 e2 => ?_⟩)
    have x0 : m 88 i = m0 88 i := by rw [h2, adN_v, if_neg (by omega)]
    rw [x0, q83, ← ab_sym (hw.2.2 i 1 (by omega) (by omega)) hr.1 hr.2] at e2
    rw [nI_1]
    refine ih (i + 1) m2 (by omega) (fun q nq => ?_) ?_
    · rw [e2, mu_row_n _ _ _ nq]; exact h1 q nq
    · rw [e2, mu_row_s, h2]
      rfl
set_option maxHeartbeats 4000000 in
theorem l_diff8 {s n : Nat} {a y : Nat → Int32} {m0 : Mm} {K : Mm → Prop} (hs : s < 4) (hn : n ≤ 24) (hw : Wm a) (hW : Wt a) (hsz : m0 (54 + 2 * s) 1 = nI n) (hy : ∀ k, k < 24 → PlR (m0 (54 + 2 * s + 1) k) (y k)) (hK : ∀ m, Fr (fun q => PAl 27 q ∨ q = 53) m0 m → (∀ i, i < nm a → m 53 i = dfS a y n i) → K m) : ∀ (r k : Nat) (m : Mm), k + r = n → Fr (fun q => PAl 27 q ∨ q = 53) m0 m → (k = 0 → AlA m 27 a) → (∀ k2, k = k2 + 1 → AlA m 27 (goN k2 a)) → (∀ i, i < nm a → m 53 i = dfS a y k i) → L_X8_addDifferences_21 (54 + 2 * s) K (r + 1) (nI k) m := by
  intro r
  induction r with
  | zero =>
    intro k m hk hF hA0 hA1 hd
    have c0 : k = n := by omega
    subst c0
    unfold L_X8_addDifferences_21
    exact ct1 (by rw [hF.c _ (by omega) (by omega), hsz]; exact nI_le (Nat.le_refl _) (by omega)) (hK m hF hd)
  | succ r ih =>
    intro k m hk hF hA0 hA1 hd
    obtain ⟨b1, b2, b3⟩ := goN_w k a hw
    have step : ∀ m1 : Mm, Fr (fun q => PAl 27 q ∨ q = 53) m0 m1 → AlA m1 27 (goN k a) → m1 53 = m 53 → W_X3_isNumber (54 + 2 * s) (nI k) m1 (fun v_42 m_42 => ((bZ v_42) = 0 → (L_X8_addDifferences_21 (54 + 2 * s) K (r + 1) (nI k + 1) m_42)) ∧ (¬ (bZ v_42) = 0 → (∃ nz : Nat, L_X8_addDifferences_50 (54 + 2 * s) (fun zl2 zm => L_X8_addDifferences_21 (54 + 2 * s) K (r + 1) zl2 zm) K nz (nI k) 0 m_42))) := by
      intro m1 f1 A1 e53
      have esz : m1 (54 + 2 * s) 1 = nI n := by rw [f1.c _ (by omega) (by omega)]; exact hsz
      have epl : m1 (54 + 2 * s + 1) = m0 (54 + 2 * s + 1) := f1.c _ (by omega) (by omega)
      have hp := hy k (by omega)
      refine s_isNum esz hn (by omega) ?_
      rw [epl]
      by_cases c1 : m0 (54 + 2 * s + 1) k = -1000000005
      · rw [decide_eq_false (fun z => z c1), nI_1]
        refine zf1 (ih (k + 1) m1 (by omega) f1 (fun z => by omega) (fun k2 ek2 => ?_) (fun i hi => ?_))
        · have c2 : k2 = k := by omega
          rw [c2]; exact A1
        · rw [e53, hd i hi]
          show _ = (if y k = -1000000005 then dfS a y k i else _)
          rw [if_pos (hp.no c1)]
      · obtain ⟨x1, x2⟩ := hp.yes c1
        rw [decide_eq_true c1]
        refine zt1 ⟨nm (goN k a) + 1, l_add8 (b := goN k a) (v := y k) (n := nm (goN k a)) (by omega) b1 rfl A1.1 (by rw [epl]; exact x1) ⟨by omega, by omega⟩ (fun m2 g1 g2 => ?_) (nm (goN k a)) 0 m1 (by omega) (fun _ _ => rfl) rfl⟩
        have f12 : Fr (fun q => q = 53) m1 m2 := ⟨fun q p1 _ => g1 q p1, fun q p1 => by unfold iSt at p1; rw [g1 q (by omega)]⟩
        refine ih (k + 1) m2 (by omega) (f1.trans (f12.mono (fun q hq => Or.inr hq))) (fun z => by omega) (fun k2 ek2 => ?_) (fun i hi => ?_)
        · have c2 : k2 = k := by omega
          rw [c2]
          exact A1.fr f12 b1.2.1 (by omega) (by omega) (fun q a1 a2 => by omega) (fun q a1 => by omega)
        · rw [g2, adN_v, if_pos (by rw [b2]; exact hi), e53, hd i hi]
          show _ = (if y k = -1000000005 then dfS a y k i else _)
          rw [if_neg x2]
    unfold L_X8_addDifferences_21
    refine cf1 (by rw [hF.c _ (by omega) (by omega), hsz]; exact nI_ge (by omega) (by omega)) ?_
    by_cases c0 : k = 0
    · refine ct1 (by rw [c0]; decide) ?_
      have A0 := hA0 c0
      refine step m hF ?_ rfl
      rw [c0]
      exact A0
    · refine cf1 (nI_nle (by omega) (by omega)) ?_
      obtain ⟨k2, ek2⟩ : ∃ k2, k = k2 + 1 := ⟨k - 1, by omega⟩
      have A0 := hA1 k2 ek2
      obtain ⟨d1, d2, d3⟩ := goN_w k2 a hw
      refine s_goOnce (by omega) (by omega) d1 (hW.eq d3) A0 (fun m1 f1 A1 => ?_)
      refine step m1 (hF.trans (f1.mono (fun q hq => Or.inl hq))) ?_ (f1.c 53 (by omega) (by omega))
      rw [ek2, goN_s]
      exact A1
def liN (d : Nat → Int32) : Nat → Nat
  | 0 => 0
  | n + 1 => if d (liN d n) ≤ d (n + 1) then liN d n else n + 1
theorem liN_le (d : Nat → Int32) (n : Nat) : liN d n ≤ n := by
  induction n with
  | zero => exact Nat.le_refl _
  | succ n ih => unfold liN; split <;> omega
theorem l_like8 {n : Nat} {d : Nat → Int32} {p0 p1 w1 : Int32} {mem : Mm} {K : Int32 → Mm → Prop} (hw : mem 1 1 = nI (n + 1)) (hn : n + 1 ≤ 9) (hd : ∀ i, i < n + 1 → mem 53 i = d i) (h : K (if w1 = 0 then nI (liN d n) else d (liN d n)) mem) : ∀ (r i : Nat), i + r = n → L_X8_like_62 p0 p1 K (r + 1) w1 (nI (liN d i)) (nI (i + 1)) mem := by
  intro r
  induction r with
  | zero =>
    intro i hi
    have c0 : i = n := by omega
    subst c0
    have hl := liN_le d i
    unfold L_X8_like_62
    refine ct1 (by rw [hw]; exact nI_le (Nat.le_refl _) (by omega)) ⟨fun hc => ⟨liN d i, rfl, by omega, ?_⟩, fun hc => ?_⟩
    · rw [if_neg hc] at h; rw [hd _ (by omega)]; exact h
    · rw [if_pos hc] at h; exact h
  | succ r ih =>
    intro i hi
    have hk := ih (i + 1) (by omega)
    have hl := liN_le d i
    unfold L_X8_like_62
    refine cf1 (by rw [hw]; exact nI_ge (by omega) (by omega)) ⟨i + 1, rfl, by omega, liN d i, rfl, by omega, ?_⟩
    rw [hd (i + 1) (by omega), hd (liN d i) (by omega), nI_1 (i + 1)]
    unfold liN at hk
    refine ⟨fun hc => ?_, fun hc => ?_⟩
    · rw [if_pos hc] at hk; exact hk
    · rw [if_neg hc] at hk; exact hk
theorem l_like9 {n : Nat} {d : Nat → Int32} {p0 p1 w1 : Int32} {mem : Mm} {K : Int32 → Mm → Prop} (hn : n + 1 ≤ 9) (hd : ∀ i, i < n + 1 → mem 88 i = d i) (h : K (if w1 = 0 then nI (liN d n) else d (liN d n)) mem) : ∀ (r i : Nat), i + r = n → L_X9_like_158 p0 p1 K (r + 1) w1 (nI (n + 1)) (nI (liN d i)) (nI (i + 1)) mem := by
  intro r
  induction r with
  | zero =>
    intro i hi
    have c0 : i = n := by omega
    subst c0
    have hl := liN_le d i
    unfold L_X9_like_158
    refine ct1 (nI_le (Nat.le_refl _) (by omega)) (cf2 (nI_ne0 (by omega) (by omega)) ⟨fun hc => ⟨liN d i, rfl, by omega, ?_⟩, fun hc => ?_⟩)
    · rw [if_neg hc] at h; rw [hd _ (by omega)]; exact h
    · rw [if_pos hc] at h; exact h
  | succ r ih =>
    intro i hi
    have hk := ih (i + 1) (by omega)
    have hl := liN_le d i
    unfold L_X9_like_158
    refine cf1 (nI_ge (by omega) (by omega)) ⟨i + 1, rfl, by omega, liN d i, rfl, by omega, ?_⟩
    rw [hd (i + 1) (by omega), hd (liN d i) (by omega), nI_1 (i + 1)]
    unfold liN at hk
    refine ⟨fun hc => ?_, fun hc => ?_⟩
    · rw [if_pos hc] at hk; exact hk
    · rw [if_neg hc] at hk; exact hk
set_option maxHeartbeats 4000000 in
theorem l_diff9 {s n : Nat} {a y : Nat → Int32} {p0 p1 w1 : Int32} {m0 : Mm} {K : Int32 → Mm → Prop} (hs : s < 4) (hn : n ≤ 24) (hw : Wm a) (hW : Wt a) (hsz : m0 98 s = nI n) (hy : ∀ k, k < 24 → m0 99 (24 * s + k) = y k) (hp : ∀ k, k < 24 → y k = -1000000005 ∨ (-99999 ≤ (y k).toInt ∧ (y k).toInt ≤ 99999)) (h85 : ∀ j, j < 1433 → m0 85 j = a j)
    (hK : ∀ m, Fr (fun q => q = 88 ∨ q = 83 ∨ q = 95 ∨ q = 96) m0 m → m 83 = a → (∀ i, i < nm a → m 88 i = dfS a y n i) → ∃ nz : Nat, L_X9_like_158 p0 p1 K nz w1 (nI (nm a)) 0 1 m) : ∀ (r k : Nat) (m : Mm), k + r = n → Fr (fun q => q = 88 ∨ q = 83 ∨ q = 95 ∨ q = 96) m0 m → m 83 = goN k a → (∀ i, i < nm a → m 88 i = dfS a y k i) → L_X9_like_68 p0 p1 K (r + 1) (nI s) w1 (nI (nm a)) (nI k) m := by
  intro r
  have h9 := hw.2.1
  induction r with
  | zero =>
    intro k m hk hF h83 hd
    have c0 : k = n := by omega
    subst c0
    obtain ⟨b1, b2, b3⟩ := goN_w k a hw
    unfold L_X9_like_68
    refine ⟨s, rfl, hs, ct1 (by rw [hF.c 98 (by omega) (by omega), hsz]; exact nI_le (Nat.le_refl _) (by omega)) (s_putsBack (a := a) (fun j hj => by rw [hF.c 85 (by omega) (by omega)]; exact h85 j hj) (fun j hj => by rw [h83]; exact b3 j (by omega)) (fun m2 f2 e2 => ?_))⟩
    exact hK m2 (hF.trans (f2.mono (fun q hq => by omega))) e2 (fun i hi => by rw [f2.c 88 (by omega) (by omega)]; exact hd i hi)
  | succ r ih =>
    intro k m hk hF h83 hd
    obtain ⟨b1, b2, b3⟩ := goN_w k a hw
    unfold L_X9_like_68
    refine ⟨s, rfl, hs, cf1 (by rw [hF.c 98 (by omega) (by omega), hsz]; exact nI_ge (by omega) (by omega)) ⟨24 * s + k, ix_24 s k, by omega, ?_⟩⟩
    rw [hF.c 99 (by omega) (by omega), hy k (by omega)]
    by_cases c1 : y k = -1000000005
    · refine ⟨0 + 1, ?_⟩
      unfold L_X9_like_96
      have go : W_X9_aGo m (fun m_139 => L_X9_like_68 p0 p1 K (r + 1) (nI s) w1 (nI (nm a)) (nI k + 1) m_139) := by
        refine s_aGo (by rw [h83]; exact b1) (by rw [h83]; exact hW.eq b3) (fun m2 f2 e2 => ?_)
        rw [nI_1]
        refine ih (k + 1) m2 (by omega) (hF.trans (f2.mono (fun q hq => by omega))) (by rw [e2, h83, goN_s]) (fun i hi => ?_)
        rw [f2.c 88 (by omega) (by omega), hd i hi]
        show _ = (if y k = -1000000005 then dfS a y k i else _)
        rw [if_pos c1]
      exact ⟨fun _ => go, fun _ => ct1 c1 go⟩
    · have hr : -99999 ≤ (y k).toInt ∧ (y k).toInt ≤ 99999 := by
        rcases hp k (by omega) with z | z
        · exact absurd z c1
        · exact z
      have nn : nm (m 83) = nm a := by rw [h83]; exact b2
      refine ⟨nm a + 1, l_add9 (n := nm a) (by rw [h83]; exact b1) (by rw [h83]; exact hW.eq b3) nn c1 hr (fun m2 g1 g2 g3 => ?_) (nm a) 0 m (by omega) (fun _ _ => rfl) rfl⟩
      refine ih (k + 1) m2 (by omega) (hF.trans g1) (by rw [g3, h83, goN_s]) (fun i hi => ?_)
      rw [g2, adN_v, if_pos hi, hd i hi, h83]
      show _ = (if y k = -1000000005 then dfS a y k i else _)
      rw [if_neg c1]
theorem l_zero9 {n : Nat} {p0 p1 w0 w1 : Int32} {m0 : Mm} {K : Int32 → Mm → Prop} (hn : n ≤ 9) (hK : ∀ m, (∀ q, q ≠ 88 → m q = m0 q) → (∀ i, i < n → m 88 i = 0) → ∃ nz : Nat, L_X9_like_68 p0 p1 K nz w0 w1 (nI n) 0 m) : ∀ (d i : Nat) (m : Mm), i + d = n → (∀ q, q ≠ 88 → m q = m0 q) → (∀ i2, i2 < i → m 88 i2 = 0) → L_X9_like_45 p0 p1 K (d + 1) w0 w1 (nI n) (nI i) m := by
  intro d
  induction d with
  | zero =>
    intro i m hi h1 h2
    have c0 : i = n := by omega
    subst c0
    unfold L_X9_like_45
    exact ct1 (nI_le (Nat.le_refl _) (by omega)) (hK m h1 h2)
  | succ d ih =>
    intro i m hi h1 h2
    unfold L_X9_like_45
    refine cf1 (nI_ge (by omega) (by omega)) ⟨i, rfl, by omega, fun m2 e2 => ?_⟩
    rw [nI_1]
    refine ih (i + 1) m2 (by omega) (fun q nq => ?_) (fun i2 hi2 => ?_)
    · rw [e2, mu_row_n _ _ _ nq]; exact h1 q nq
    · rw [e2, mu_row_s]
      by_cases c1 : i2 = i
      · rw [c1, pk_us]
      · rw [pk_un c1]; exact h2 i2 (by omega)
set_option maxHeartbeats 4000000 in
theorem ak_like {c : Nat} (w0 w1 : Int32) (mem : Mm) (h : Iv c mem) : W_X8_like w0 w1 mem (fun v m => W_X9_like w0 w1 m (fun v2 m2 => v = v2 ∧ Iv (c + 1) m2)) := by
  obtain ⟨hA, hR⟩ := h.1
  have hw := hR.1
  have hW := hR.2.1
  have h9 := hw.2.1
  have ek : mem 1 1 = nI (nm (mem 83)) := by rw [hA.1.1]; exact hw.1
  have h4 := h.2.2.2.1
  unfold W_X8_like
  by_cases c0 : 0 ≤ w0 ∧ w0 ≤ 3
  · have c0b := c0
    obtain ⟨s, hs, rfl⟩ := Rg.of (y := 3) (n := 3) rfl c0
    obtain ⟨g1, g2, g3, ⟨n, hn, en⟩, g5⟩ := h4 s (by omega)
    have esz : mem (54 + 2 * s) 1 = nI n := g2.trans en
    refine s8_sheet_y c0b ?_
    first | refine zt1 ?_ | refine zt2 ?_
    by_cases c1 : 0 ≤ w1 ∧ w1 ≤ 1
    · refine s_iw_y c1 ?_
      first | refine zt1 ?_ | refine zt2 ?_
      refine ⟨s, rfl, by omega, ?_⟩
      rcases srt_or g3 with ⟨d1, d2, d3⟩ | ⟨d1, d2, d3⟩
      · refine s_miss_y (g1.trans d1) ?_
        first | refine zt1 ?_ | refine zt2 ?_
        show W_X9_like _ _ _ _
        unfold W_X9_like
        refine s9_sheet_y c0b ?_
        first | refine zt1 ?_ | refine zt2 ?_
        refine s_in_y c1 ?_
        first | refine zt1 ?_ | refine zt2 ?_
        refine ⟨s, rfl, by omega, ?_⟩
        first | refine cf1 d2 ?_ | refine cf2 d2 ?_
        exact ⟨rfl, h.up⟩
      · refine s_miss_n (by rw [g1]; exact d1) ?_
        first | refine zf1 ?_ | refine zf2 ?_
        have hp : ∀ k, k < 24 → mem 99 (24 * s + k) = -1000000005 ∨ (-99999 ≤ (mem 99 (24 * s + k)).toInt ∧ (mem 99 (24 * s + k)).toInt ≤ 99999) := by
          intro k hk
          rcases g5 k hk with ⟨_, z⟩ | ⟨z1, z2, z3⟩
          · exact Or.inl z
          · rw [z1] at z2 z3; exact Or.inr ⟨z2, z3⟩
        have ref : ∀ (m : Mm) (v : Int32), Fr (fun q => PAl 27 q ∨ q = 53) mem m → (v = if nm (mem 83) = 0 then -1000000005 else if w1 = 0 then nI (liN (dfS (mem 83) (fun k => mem 99 (24 * s + k)) n) (nm (mem 83) - 1)) else dfS (mem 83) (fun k => mem 99 (24 * s + k)) n (liN (dfS (mem 83) (fun k => mem 99 (24 * s + k)) n) (nm (mem 83) - 1))) → W_X9_like (nI s) w1 m (fun v2 m2 => v = v2 ∧ Iv (c + 1) m2) := by
          intro m v f1 ev1
          have q83 : m 83 = mem 83 := f1.c 83 (by omega) (by omega)
          unfold W_X9_like
          refine s9_sheet_y c0b ?_
          first | refine zt1 ?_ | refine zt2 ?_
          refine s_in_y c1 ?_
          first | refine zt1 ?_ | refine zt2 ?_
          refine ⟨s, rfl, by omega, ?_⟩
          rw [f1.c 97 (by omega) (by omega)]
          first | refine ct1 d2 ?_ | refine ct2 d2 ?_
          refine s_thinks (fun m2 f2 e2 => ?_)
          have r83 : m2 83 = mem 83 := by rw [f2.c 83 (by omega) (by omega)]; exact q83
          rw [r83, hw.1]
          refine ⟨nm (mem 83) + 1, l_zero9 h9 (fun m3 x1 x2 => ?_) (nm (mem 83)) 0 m2 (by omega) (fun _ _ => rfl) (fun i2 hi2 => by omega)⟩
          have s83 : m3 83 = mem 83 := by rw [x1 83 (by omega)]; exact r83
          have F3 : Fr PTh mem m3 := ((f1.mono (fun q hq => by omega)).trans (f2.mono (fun q hq => by omega))).trans ⟨fun q p1 _ => x1 q (by omega), fun q p1 => by unfold iSt at p1; rw [x1 q (by omega)]⟩
          refine ⟨n + 1, l_diff9 (a := mem 83) (y := fun k => mem 99 (24 * s + k)) (by omega) hn hw hW (by rw [F3.c 98 (by omega) (by omega)]; exact en) (fun k hk => by rw [F3.c 99 (by omega) (by omega)]) hp (fun j hj => by rw [x1 85 (by omega), e2 j hj, q83]) (fun m4 f4 e4 dd => ?_) n 0 m3 (by omega) (Fr.refl _ _) s83 (fun i hi => x2 i hi)⟩
          have F4 : Fr PTh mem m4 := F3.trans (f4.mono (fun q hq => by omega))
          have fin := h.th F4 e4
          by_cases cz : nm (mem 83) = 0
          · rw [if_pos cz] at ev1
            refine ⟨0 + 1, ?_⟩
            unfold L_X9_like_158
            rw [cz]
            exact ct1 (by decide) (ct2 rfl ⟨ev1, fin⟩)
          · rw [if_neg cz] at ev1
            obtain ⟨nn, enn⟩ : ∃ nn, nm (mem 83) = nn + 1 := ⟨nm (mem 83) - 1, by omega⟩
            rw [enn] at ev1 dd h9 ⊢
            exact ⟨nn + 1, l_like9 (d := dfS (mem 83) (fun k => mem 99 (24 * s + k)) n) h9 dd ⟨ev1, fin⟩ nn 0 (by omega)⟩
        rw [ek]
        by_cases cz : nm (mem 83) = 0
        · first | refine ct1 (by rw [cz]; rfl) ?_ | refine ct2 (by rw [cz]; rfl) ?_
          refine ref mem _ (Fr.refl _ _) ?_
          rw [if_pos cz]
        · first | refine cf1 (nI_ne0 (by omega) (by omega)) ?_ | refine cf2 (nI_ne0 (by omega) (by omega)) ?_
          refine ⟨s, rfl, by omega, ?_⟩
          unfold W_X8_addDifferences
          refine s_fill (by omega) (fun m1 x1 x2 x3 => ?_)
          have f1 : Fr (fun q => q = 53) mem m1 := ⟨fun q p1 _ => x1 q p1, fun q p1 => by unfold iSt at p1; rw [x1 q (by omega)]⟩
          have A1 : AlA m1 1 (mem 83) := hA.fr f1 h9 (by omega) (by omega) (fun q a1 a2 => by omega) (fun q a1 => by omega)
          refine s_becomeAs (by omega) (by omega) (fun q a1 a2 => by omega) (by omega) hw hW A1 (fun m2 f2 A2 => ?_)
          have F2 : Fr (fun q => PAl 27 q ∨ q = 53) mem m2 := (f1.mono (fun q hq => Or.inr hq)).trans (f2.mono (fun q hq => Or.inl hq))
          refine ⟨n + 1, l_diff8 (a := mem 83) (y := fun k => mem 99 (24 * s + k)) (m0 := m2) (by omega) hn hw hW (by rw [F2.c _ (by omega) (by omega)]; exact esz) (fun k hk => by rw [F2.c _ (by omega) (by omega)]; exact g5 k hk) (fun m3 f3 dd => ?_) n 0 m2 (by omega) (Fr.refl _ _) (fun _ => A2) (fun k2 e9 => by omega) (fun i hi => ?_)⟩
          · have F3 := F2.trans f3
            obtain ⟨nn, enn⟩ : ∃ nn, nm (mem 83) = nn + 1 := ⟨nm (mem 83) - 1, by omega⟩
            refine ⟨nn + 1, l_like8 (n := nn) (d := dfS (mem 83) (fun k => mem 99 (24 * s + k)) n) (by rw [F3.c 1 (by omega) (by omega), ek, enn]) (by omega) (fun i hi => dd i (by omega)) ?_ nn 0 (by omega)⟩
            refine ref m3 _ F3 ?_
            rw [if_neg cz, enn]
            rfl
          · rw [f2.c 53 (by omega) (by omega), x2 i (by omega)]
            rfl
    · refine s_iw_n c1 ?_
      first | refine zf1 ?_ | refine zf2 ?_
      show W_X9_like _ _ _ _
      unfold W_X9_like
      refine s9_sheet_y c0b ?_
      first | refine zt1 ?_ | refine zt2 ?_
      refine s_in_n c1 ?_
      first | refine zf1 ?_ | refine zf2 ?_
      exact ⟨rfl, h.up⟩
  · refine s8_sheet_n c0 ?_
    first | refine zf1 ?_ | refine zf2 ?_
    show W_X9_like _ _ _ _
    unfold W_X9_like
    refine s9_sheet_n c0 ?_
    first | refine zf1 ?_ | refine zf2 ?_
    exact ⟨rfl, h.up⟩
