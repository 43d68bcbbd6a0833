/-! the class's search: what is looked up -/
theorem tb_sub : ∀ m, m < 9 → ∀ s, s < 512 → ∀ i, i < 9 → inB (rmB s m) i → inB s i := by decide +kernel
theorem tb_rm : ∀ m, m < 9 → ∀ s, s < 512 → pc9 (rmB s m) ≤ pc9 s ∧ rmB s m ≤ s := by decide +kernel
theorem rm_eq {m s : Nat} (hm : m < 9) (hs : s < 512) : nI s &&& ((1 <<< (nI m &&& 31)) ^^^ (-1)) = nI (rmB s m) := (tb_out m hm s hs).1
/-- a set of those that stand -/
def SbR (a : Rw) (s : Nat) : Prop := s < 2 ^ nm a ∧ (∀ i, i < nm a → inB s i → inB (stS a) i) ∧ pc9 s ≤ pc9 (stS a)
theorem SbR.l5 {a : Rw} {s : Nat} (h : SbR a s) (hn : nm a ≤ 9) : s < 512 := Nat.lt_of_lt_of_le h.1 (Nat.pow_le_pow_right (by decide) hn)
theorem SbR.rm {a : Rw} {s m : Nat} (h : SbR a s) (hn : nm a ≤ 9) (hm : m < 9) : SbR a (rmB s m) := by
  obtain ⟨x1, x2⟩ := tb_rm m hm s (h.l5 hn)
  exact ⟨Nat.lt_of_le_of_lt x2 h.1, fun i hi hb => h.2.1 i hi (tb_sub m hm s (h.l5 hn) i (by omega) hb), Nat.le_trans x1 h.2.2⟩
theorem SbR.in9 {a : Rw} {s j : Nat} (h : SbR a s) (hn : nm a ≤ 9) (hj : j ≤ 9) (hb : inB s j) : j < nm a := by
  by_cases c1 : j < nm a
  · exact c1
  · exact absurd hb (tb_no9 (nm a) (by omega) s h.1 j (by omega) (by omega))
theorem SbR.gs {a : Rw} {s j : Nat} {p t : Int32} {rs : Nat → Nat → Nat} (h : SbR a s) (hn : nm a ≤ 9) (hj : j ≤ 9) (hr : ∀ s2 i, SbR a s2 → i < nm a → SbR a (rs s2 i)) : SbR a (lbG rs a p s j t) := by
  unfold lbG
  split
  · rename_i hc
    exact hr s j h (h.in9 hn hj hc.1)
  · exact h
theorem SbR.lb {a : Rw} {t u : Int32} (hn : nm a ≤ 9) : ∀ (n s m : Nat), SbR a s → m < nm a → SbR a (lbF a n s m t u) := by
  intro n
  induction n with
  | zero => intro s m h _; exact h
  | succ n ih =>
    intro s m h hm
    obtain ⟨_, y1, y2, y3, y4⟩ := tb_nx m (by omega)
    have h1 : SbR a (if u = 1 then rmB s m else lbG (fun s2 j => lbF a n s2 j t u) a (puS a m) (rmB s m) (nxL m) t) := by
      split
      · exact h.rm hn (by omega)
      · exact (h.rm hn (by omega)).gs hn y2 ih
    unfold lbF
    split
    · exact h1
    · exact h1.gs hn y4 ih
theorem SbR.fl {a : Rw} {f : Int32} {s k : Nat} (h : SbR a s) (hn : nm a ≤ 9) (hk : k < 216) : SbR a (flS a f s k) := h.gs hn (by omega) (SbR.lb hn 12)
theorem SbR.st {a : Rw} (hw : Wm a) : SbR a (stS a) := ⟨stN_lt a (nm a), fun i hi h => h, Nat.le_refl _⟩
theorem in_pc {s i : Nat} (hi : i < 9) (hs : s < 512) (hb : inB s i) : 1 ≤ pc9 s := by
  have z := (tb_out i hi s hs).2 hb
  omega
/-- what the search has written down of a row -/
def TbR (a : Rw) (f : Int32) (m : Mm) : Prop := m 40 5 = nI (stS a) ∧ m 40 6 = f ∧ (∀ i, i < nm a → inB (stS a) i → m (40 + 1 + 1) i = puS a i) ∧ ∀ i t cnt, i < nm a → inB (stS a) i → t < 8 → 1 ≤ cnt → cnt ≤ pc9 (stS a) → m (40 + 1 + 0) ((i * 8 + t) * 10 + cnt) = btS a i (nI t) cnt
theorem ix_bp (i t cc : Nat) : ((nI i * 8 + nI t) * 10) + nI cc = nI ((i * 8 + t) * 10 + cc) := by
  rw [show (8 : Int32) = nI 8 from rfl, show (10 : Int32) = nI 10 from rfl, pk_mul, nI_add, pk_mul, nI_add]
theorem s_isIn {j s : Nat} {mem : Mm} {K : Bool → Mm → Prop} (hj : j < 9) (hs : s < 512) (h : K (decide (inB s j)) mem) : W_X2_isIn (nI j) (nI s) mem K := by
  unfold W_X2_isIn
  refine cf1 (nI_pos (by omega)) ?_
  rw [tb_shr j hj s hs]
  by_cases c1 : inB s j
  · rw [decide_eq_true c1] at h
    rw [show nI (s / 2 ^ j % 2) = nI 1 from congrArg nI c1]
    exact cf1 (by decide) h
  · rw [decide_eq_false c1] at h
    have c2 : s / 2 ^ j % 2 = 0 := by unfold inB at c1; omega
    rw [c2]
    exact ct1 (by decide) h
theorem s_fallsBy {a : Rw} {f p : Int32} {j s t : Nat} {mem : Mm} {K : Bool → Mm → Prop} (hn : nm a ≤ 9) (hT : TbR a f mem) (hj : j ≤ 9) (hS : SbR a s) (ht : t < 8) (h : K (decide (fbB a p s j (nI t))) mem) : W_X2_fallsBy p (nbI j) (nI t) (nI s) mem K := by
  have hs := hS.l5 hn
  unfold W_X2_fallsBy
  by_cases c9 : j = 9
  · have no : ¬ fbB a p s j (nI t) := fun z => absurd z.1 (tb_no9 (nm a) (by omega) s hS.1 j (by omega) (by omega))
    rw [decide_eq_false no] at h
    have en : nbI j = -1 := by unfold nbI; rw [if_pos c9]
    rw [en]
    unfold W_X2_isIn
    exact ct1 (by decide) (zf1 h)
  · have en : nbI j = nI j := by unfold nbI; rw [if_neg c9]
    rw [en]
    refine s_isIn (by omega) hs ?_
    by_cases c1 : inB s j
    · rw [decide_eq_true c1]
      have hjn := hS.in9 hn hj c1
      have hp := in_pc (by omega) hs c1
      refine zt1 (s_bitCount hs ?_)
      unfold W_X2_bearingPlace
      rw [ix_bp]
      have p9 := pc9_le s
      refine ⟨(j * 8 + t) * 10 + pc9 s, rfl, by omega, ?_⟩
      rw [hT.2.2.2 j t (pc9 s) hjn (hS.2.1 j hjn c1) ht hp hS.2.2]
      refine ⟨fun hc => ?_, fun hc => ?_⟩
      · rw [decide_eq_false (fun z => absurd z.2 (Int32.not_lt.mpr hc))] at h; exact h
      · rw [decide_eq_true ⟨c1, Int32.not_le.mp hc⟩] at h; exact h
    · rw [decide_eq_false c1]
      rw [decide_eq_false (fun z => c1 z.1)] at h
      exact zf1 h
set_option maxHeartbeats 4000000 in
theorem s_leftBehind {a : Rw} {f u : Int32} {t : Nat} {mem : Mm} (hn : nm a ≤ 9) (hT : TbR a f mem) (ht : t < 8) : ∀ (n s m ee : Nat) (K : Int32 → Mm → Prop), 10 ≤ n + m → m < nm a → inB (stS a) m → ee ≤ m → SbR a s → K (nI (lbF a n s m (nI t) u)) mem → W_X2_leftBehind n (nI s) (nI m) (nI t) u (nI ee) mem K := by
  intro n
  induction n with
  | zero => intro s m ee K h1 h2; omega
  | succ n ih =>
    intro s m ee K h10 hm hin hee hS hK
    obtain ⟨⟨x1, x2, x3, x4⟩, y1, y2, y3, y4⟩ := tb_nx m (by omega)
    have hR := hS.rm hn (show m < 9 by omega)
    unfold W_X2_leftBehind
    rw [rm_eq (by omega) (hS.l5 hn)]
    refine ct1 (nI_lt (a := ee) (b := 9) (by omega) (by omega)) ⟨m, rfl, by omega, ?_⟩
    unfold lbF at hK
    have right : ∀ s2 : Nat, SbR a s2 → K (nI (if u = -1 then s2 else lbG (fun s3 j => lbF a n s3 j (nI t) u) a (puS a m) s2 (nxR m) (nI t))) mem → B_X2_leftBehind_67 (nI s) (nI m) (nI t) u (nI ee) (W_X2_leftBehind n) K (nI m) (nI t) u (nI ee) (nI s2) mem := by
      intro s2 hS2 hK2
      unfold B_X2_leftBehind_67
      refine ⟨m, rfl, by omega, fun hu => ?_, fun hu => ⟨m, rfl, by omega, ?_⟩⟩
      · rw [if_pos hu] at hK2; exact hK2
      · rw [if_neg hu] at hK2
        rw [hT.2.2.1 m hm hin, x3]
        refine s_fallsBy hn hT y4 hS2 ht ?_
        unfold lbG at hK2
        by_cases c1 : fbB a (puS a m) s2 (nxR m) (nI t)
        · rw [if_pos c1] at hK2
          rw [decide_eq_true c1]
          have hj := hS2.in9 hn y4 c1.1
          have en : nbI (nxR m) = nI (nxR m) := by unfold nbI; rw [if_neg (by omega)]
          rw [en, nI_1]
          exact zt1 (ih s2 (nxR m) (ee + 1) _ (by omega) hj (hS2.2.1 _ hj c1.1) (by omega) hS2 hK2)
        · rw [if_neg c1] at hK2
          rw [decide_eq_false c1]
          exact zf1 hK2
    refine ⟨fun hu => ?_, fun hu => ⟨m, rfl, by omega, ?_⟩⟩
    · refine right (rmB s m) hR ?_
      rw [if_pos hu] at hK
      by_cases hu2 : u = -1
      · rw [if_pos hu2] at hK ⊢; exact hK
      · rw [if_neg hu2] at hK ⊢; exact hK
    · rw [if_neg hu] at hK
      rw [hT.2.2.1 m hm hin, x1]
      refine s_fallsBy hn hT y2 hR ht ?_
      by_cases c1 : fbB a (puS a m) (rmB s m) (nxL m) (nI t)
      · have e1 : lbG (fun s2 j => lbF a n s2 j (nI t) u) a (puS a m) (rmB s m) (nxL m) (nI t) = lbF a n (rmB s m) (nxL m) (nI t) u := by
          unfold lbG
          rw [if_pos c1]
        rw [e1] at hK
        rw [decide_eq_true c1]
        have hj := hR.in9 hn y2 c1.1
        have en : nbI (nxL m) = nI (nxL m) := by unfold nbI; rw [if_neg (by omega)]
        rw [en, nI_1]
        refine zt1 (ih (rmB s m) (nxL m) (ee + 1) _ (by omega) hj (hR.2.1 _ hj c1.1) (by omega) hR ?_)
        refine right _ (SbR.lb hn n _ _ hR hj) ?_
        by_cases hu2 : u = -1
        · rw [if_pos hu2] at hK ⊢; exact hK
        · rw [if_neg hu2] at hK ⊢; exact hK
      · have e1 : lbG (fun s2 j => lbF a n s2 j (nI t) u) a (puS a m) (rmB s m) (nxL m) (nI t) = rmB s m := by
          unfold lbG
          rw [if_neg c1]
        rw [e1] at hK
        rw [decide_eq_false c1]
        refine zf1 (right _ hR ?_)
        by_cases hu2 : u = -1
        · rw [if_pos hu2] at hK ⊢; exact hK
        · rw [if_neg hu2] at hK ⊢; exact hK
/-! the table is written -/
abbrev P40 : Nat → Prop := fun q => 40 ≤ q ∧ q ≤ 44
/-- bearings of one man are written for topics below t9 at count cc, for all topics below count cc; other places are as they were -/
theorem l_write {a : Rw} {i cc : Nat} {pl : Int32} {p1 p2 : Int32} {m0 : Mm} {K : Mm → Prop} (hn : nm a ≤ 9) (hi : i < nm a) (hcc : 1 ≤ cc ∧ cc ≤ 9) (hA : AlM m0 1 a) (hpl : pl = plS a i (nI cc)) (hK : ∀ m, (∀ q, q ≠ 40 + 1 + 0 → m q = m0 q) → (∀ t, t < 8 → m (40 + 1 + 0) ((i * 8 + t) * 10 + cc) = btS a i (nI t) cc) → (∀ i2 t c2, t < 8 → c2 < 10 → (i2 ≠ i ∨ c2 ≠ cc) → m (40 + 1 + 0) ((i2 * 8 + t) * 10 + c2) = m0 (40 + 1 + 0) ((i2 * 8 + t) * 10 + c2)) → K m) :
    ∀ (d t9 : Nat) (m : Mm), t9 + d = 8 → (∀ q, q ≠ 40 + 1 + 0 → m q = m0 q) → (∀ t, t < t9 → m (40 + 1 + 0) ((i * 8 + t) * 10 + cc) = btS a i (nI t) cc) → (∀ i2 t c2, t < 8 → c2 < 10 → (i2 ≠ i ∨ c2 ≠ cc) → m (40 + 1 + 0) ((i2 * 8 + t) * 10 + c2) = m0 (40 + 1 + 0) ((i2 * 8 + t) * 10 + c2)) → L_X2_writeBearings_11 1 p1 p2 K (d + 1) (nI i) (nI cc) pl (nI t9) m := by
  intro d
  induction d with
  | zero =>
    intro t9 m ht h1 h2 h3
    have c0 : t9 = 8 := by omega
    subst c0
    unfold L_X2_writeBearings_11
    exact ct1 (by decide) (hK m h1 h2 h3)
  | succ d ih =>
    intro t9 m ht h1 h2 h3
    unfold L_X2_writeBearings_11
    refine cf1 (nI_ge (a := t9) (b := 8) (by omega) (by omega)) ?_
    unfold W_X2_bearingPlace
    rw [ix_bp]
    refine ⟨i, rfl, by omega, s_X1_bearing ⟨(i * 8 + t9) * 10 + cc, rfl, by omega, fun m2 e2 => ?_⟩⟩
    have ec : m (1 + 4 + i) = m0 (1 + 4 + i) := h1 _ (by omega)
    rw [ec, hA.2 i 0 hi (by omega), hA.2 i 3 hi (by omega), hA.2 i 2 hi (by omega), hpl] at e2
    have e3 : m2 = mu m (40 + 1 + 0) ((i * 8 + t9) * 10 + cc) (btS a i (nI t9) cc) := e2
    rw [nI_1]
    refine ih (t9 + 1) m2 (by omega) (fun q nq => ?_) (fun t ht2 => ?_) (fun i2 t c2 a1 a2 a3 => ?_)
    · rw [e3, mu_row_n _ _ _ nq]; exact h1 q nq
    · rw [e3, mu_row_s]
      by_cases c1 : t = t9
      · rw [c1, pk_us]
      · rw [pk_un (by omega)]; exact h2 t (by omega)
    · rw [e3, mu_row_s, pk_un (by omega)]; exact h3 i2 t c2 a1 a2 a3
/-- all of man i below a count -/
def TbI (a : Rw) (i cc : Nat) (m : Mm) : Prop := ∀ t cnt, t < 8 → 1 ≤ cnt → cnt < cc → m (40 + 1 + 0) ((i * 8 + t) * 10 + cnt) = btS a i (nI t) cnt
theorem l_look60 {a : Rw} {i M : Nat} {p1 : Int32} {m0 : Mm} {K : Mm → Prop} {kb : Int32 → Int32 → Mm → Prop} (hw : Wm a) (hW : Wt a) (hi : i < nm a) (hM : M ≤ 9) (hA : AlA m0 1 a) (hK : ∀ m, Fr (fun q => q = 40 + 1 + 0) m0 m → TbI a i (M + 1) m → (∀ i2 t c2, i2 ≠ i → t < 8 → c2 < 10 → m (40 + 1 + 0) ((i2 * 8 + t) * 10 + c2) = m0 (40 + 1 + 0) ((i2 * 8 + t) * 10 + c2)) → kb (nI M) (nI (i + 1)) m) :
    ∀ (d cc : Nat) (m : Mm), cc + d = M + 1 → 1 ≤ cc → Fr (fun q => q = 40 + 1 + 0) m0 m → TbI a i cc m → (∀ i2 t c2, i2 ≠ i → t < 8 → c2 < 10 → m (40 + 1 + 0) ((i2 * 8 + t) * 10 + c2) = m0 (40 + 1 + 0) ((i2 * 8 + t) * 10 + c2)) → L_X2_lookAt_60 1 p1 kb K (d + 1) (nI M) (nI i) (nI cc) m := by
  intro d
  have h9 := hw.2.1
  induction d with
  | zero =>
    intro cc m hc h1 hF hT ho
    have c0 : cc = M + 1 := by omega
    subst c0
    unfold L_X2_lookAt_60
    refine ct1 (nI_lt (by omega) (by omega)) ?_
    rw [nI_1]
    exact hK m hF hT ho
  | succ d ih =>
    intro cc m hc h1 hF hT ho
    have hAm : AlA m 1 a := hA.fr hF h9 (by omega) (by omega) (fun q a1 a2 => by omega) (fun q a1 => by omega)
    unfold L_X2_lookAt_60
    refine cf1 (nI_nlt (by omega) (by omega)) ?_
    unfold W_X2_writeBearings
    refine s_plainBearing hw hW hAm.1 hAm.2.2 hi (fun m1 f1 => ⟨8 + 1, ?_⟩)
    have hA1 : AlA m1 1 a := hAm.fr f1 h9 (by omega) (fun z => z) (fun _ _ _ => fun z => z) (fun _ _ => fun z => z)
    have e41 : m1 (40 + 1 + 0) = m (40 + 1 + 0) := f1.c _ (by omega) (fun z => z)
    refine l_write (a := a) (i := i) (cc := cc) h9 hi ⟨h1, by omega⟩ hA1.1 rfl (fun m2 x1 x2 x3 => ?_) 8 0 m1 (by omega) (fun _ _ => rfl) (fun t ht => by omega) (fun _ _ _ _ _ _ => rfl)
    have f2 : Fr (fun q => q = 40 + 1 + 0) m1 m2 := ⟨fun q p1 _ => x1 q p1, fun q p1 => by unfold iSt at p1; rw [x1 q (by omega)]⟩
    rw [nI_1]
    refine ih (cc + 1) m2 (by omega) (by omega) ((hF.trans (f1.mono (fun q hq => hq.elim))).trans f2) (fun t cnt a1 a2 a3 => ?_) (fun i2 t c2 a1 a2 a3 => ?_)
    · by_cases c1 : cnt = cc
      · rw [c1]; exact x2 t a1
      · rw [x3 i t cnt a1 (by omega) (Or.inr c1), e41]
        exact hT t cnt a1 a2 (by omega)
    · rw [x3 i2 t c2 a2 a3 (Or.inl a1), e41]
      exact ho i2 t c2 a1 a2 a3
/-- men below j are written -/
def TbJ (a : Rw) (j : Nat) (m : Mm) : Prop := ∀ i, i < j → i < nm a → inB (stS a) i → m (40 + 1 + 1) i = puS a i ∧ TbI a i (pc9 (stS a) + 1) m
theorem l_look24 {a : Rw} {p1 : Int32} {m0 : Mm} {K : Mm → Prop} (hw : Wm a) (hW : Wt a) (hA : AlA m0 1 a) (hK : ∀ m, Fr P40 m0 m → m 40 = m0 40 → TbJ a 9 m → K m) : ∀ (d j : Nat) (m : Mm), j + d = 9 → Fr P40 m0 m → m 40 = m0 40 → TbJ a j m → L_X2_lookAt_24 1 p1 K (d + 1) (nI (pc9 (stS a))) (nI j) m := by
  intro d
  have h9 := hw.2.1
  have p9 := pc9_le (stS a)
  induction d with
  | zero =>
    intro j m hj hF h40 hT
    have c0 : j = 9 := by omega
    subst c0
    unfold L_X2_lookAt_24
    exact ct1 (by decide) (hK m hF h40 hT)
  | succ d ih =>
    intro j m hj hF h40 hT
    have hAm : AlA m 1 a := hA.fr hF h9 (by omega) (by omega) (fun q a1 a2 => by omega) (fun q a1 => by omega)
    unfold L_X2_lookAt_24
    refine cf1 (nI_ge (a := j) (b := 9) (by omega) (by omega)) ?_
    rw [nI_1]
    have skip : (¬ (j < nm a ∧ inB (stS a) j)) → L_X2_lookAt_24 1 p1 K (d + 1) (nI (pc9 (stS a))) (nI (j + 1)) m := by
      intro hno
      refine ih (j + 1) m (by omega) hF h40 (fun i a1 a2 a3 => ?_)
      by_cases c1 : i = j
      · rw [c1] at a2 a3; exact absurd ⟨a2, a3⟩ hno
      · exact hT i (by omega) a2 a3
    by_cases c1 : j < nm a
    · refine s_stands hw hAm.1 c1 ?_
      have bit : inB (stS a) j ↔ a (7 + 6 * j + 5) = 0 := stN_bit h9 c1
      by_cases c2 : a (7 + 6 * j + 5) = 0
      · rw [decide_eq_true c2]
        refine zt1 ⟨j, rfl, by omega, s_X1_pushing ⟨j, rfl, by omega, fun m1 e1 => ⟨pc9 (stS a) + 1, ?_⟩⟩⟩
        have ec1 := hAm.1.2 j 0 c1 (by omega)
        have ec2 := hAm.1.2 j 2 c1 (by omega)
        rw [ec1, ec2] at e1
        have e2 : m1 = mu m (40 + 1 + 1) j (puS a j) := e1
        have f1 : Fr P40 m m1 := by rw [e2]; exact Fr.m1 _ _ _ ⟨by omega, by omega⟩ (by omega)
        have hA1 : AlA m1 1 a := hAm.fr f1 h9 (by omega) (by omega) (fun q a1 a2 => by omega) (fun q a1 => by omega)
        have e41 : m1 (40 + 1 + 0) = m (40 + 1 + 0) := by rw [e2]; exact mu_row_n _ _ _ (by omega)
        refine l_look60 hw hW c1 p9 hA1 (fun m2 f2 t2 o2 => ?_) (pc9 (stS a)) 1 m1 (by omega) (by omega) (Fr.refl _ _) (fun t cnt a1 a2 a3 => by omega) (fun _ _ _ _ _ _ => rfl)
        refine ih (j + 1) m2 (by omega) ((hF.trans f1).trans (f2.mono (fun q hq => by omega))) (by rw [f2.c 40 (by omega) (by omega), e2, mu_row_n _ _ _ (by omega)]; exact h40) (fun i a1 a2 a3 => ?_)
        have e42 : m2 (40 + 1 + 1) = m1 (40 + 1 + 1) := f2.c _ (by omega) (by omega)
        by_cases c3 : i = j
        · rw [c3, e42, e2, mu_s]
          exact ⟨rfl, t2⟩
        · obtain ⟨y1, y2⟩ := hT i (by omega) a2 a3
          refine ⟨by rw [e42, e2, mu_j _ _ _ c3]; exact y1, fun t cnt b1 b2 b3 => ?_⟩
          rw [o2 i t cnt c3 b1 (by omega), e41]
          exact y2 t cnt b1 b2 b3
      · rw [decide_eq_false c2]
        exact zf1 (skip (fun z => c2 (bit.mp z.2)))
    · refine s_stands_n hw hAm.1 (Or.inr (nI_le (by omega) (by omega))) (zf1 (skip (fun z => c1 z.1)))
theorem s_lookAt {a : Rw} {f : Int32} {mem : Mm} {K : Mm → Prop} (hw : Wm a) (hW : Wt a) (hA : AlA mem 1 a) (hK : ∀ m, Fr P40 mem m → TbR a f m → K m) : W_X2_lookAt 1 f mem K := by
  have h9 := hw.2.1
  unfold W_X2_lookAt
  intro m1 e1
  have f1 : Fr P40 mem m1 := by rw [e1]; exact Fr.m1 _ _ _ ⟨by omega, by omega⟩ (by omega)
  have A1 : AlA m1 1 a := hA.fr f1 h9 (by omega) (by omega) (fun q a1 a2 => by omega) (fun q a1 => by omega)
  refine s_X0_standingSet hw A1.1 (fun m2 e2 => ?_)
  have f2 : Fr P40 mem m2 := by rw [e2]; exact f1.trans (Fr.m1 _ _ _ ⟨by omega, by omega⟩ (by omega))
  have A2 : AlA m2 1 a := hA.fr f2 h9 (by omega) (by omega) (fun q a1 a2 => by omega) (fun q a1 => by omega)
  have x5 : m2 40 5 = nI (stS a) := by rw [e2, mu_s]
  have x6 : m2 40 6 = f := by rw [e2, mu_j _ _ _ (by omega), e1, mu_s]
  rw [x5]
  refine s_bitCount (stS_lt hw) ⟨9 + 1, l_look24 hw hW A2 (fun m3 f3 e3 t3 => ?_) 9 0 m2 (by omega) (Fr.refl _ _) rfl (fun i hi => by omega)⟩
  refine hK m3 (f2.trans f3) ⟨by rw [e3]; exact x5, by rw [e3]; exact x6, fun i hi hb => (t3 i (by omega) hi hb).1, fun i t cnt hi hb ht h1 h2 => (t3 i (by omega) hi hb).2 t cnt ht h1 (by omega)⟩
