/-! PAIR -/
def mnQ (p : Nat → Nat) : Nat → Nat
  | 0 => 9
  | i + 1 => if p i < mnQ p i then p i else mnQ p i
theorem mnQ_le (p : Nat → Nat) (n : Nat) : mnQ p n ≤ 9 ∧ ∀ i, i < n → mnQ p n ≤ p i := by
  induction n with
  | zero => exact ⟨Nat.le_refl _, fun i hi => by omega⟩
  | succ n ih =>
    unfold mnQ
    refine ⟨?_, fun i hi => ?_⟩
    · split <;> omega
    · by_cases c1 : i = n
      · rw [c1]; split <;> omega
      · have := ih.2 i (by omega)
        split <;> omega
theorem mnQ_at (p : Nat → Nat) (n : Nat) : mnQ p n = 9 ∨ ∃ i, i < n ∧ mnQ p n = p i := by
  induction n with
  | zero => exact Or.inl rfl
  | succ n ih =>
    unfold mnQ
    split
    · exact Or.inr ⟨n, by omega, rfl⟩
    · rcases ih with z | ⟨i, z1, z2⟩
      · exact Or.inl z
      · exact Or.inr ⟨i, by omega, z2⟩
def mxN (g : Nat → Nat) : Nat → Nat
  | 0 => 0
  | k + 1 => if g k ≤ mxN g k then mxN g k else g k
theorem mxN_ge (g : Nat → Nat) (n : Nat) : ∀ k, k < n → g k ≤ mxN g n := by
  induction n with
  | zero => intro k hk; omega
  | succ n ih =>
    intro k hk
    unfold mxN
    by_cases c1 : k = n
    · rw [c1]; split <;> omega
    · have := ih k (by omega)
      split <;> omega
theorem mxN_at (g : Nat → Nat) (n : Nat) : mxN g n = 0 ∨ ∃ k, k < n ∧ mxN g n = g k := by
  induction n with
  | zero => exact Or.inl rfl
  | succ n ih =>
    unfold mxN
    split
    · rcases ih with z | ⟨i, z1, z2⟩
      · exact Or.inl z
      · exact Or.inr ⟨i, by omega, z2⟩
    · exact Or.inr ⟨n, by omega, rfl⟩
/-- sets that come by one saying, by two -/
def Tw (a : Rw) (f : Int32) (s : Nat) : Prop := s = stS a ∨ (∃ k, k < 216 ∧ s = flS a f (stS a) k) ∨ ∃ k k2, k < 216 ∧ k2 < 216 ∧ s = flS a f (flS a f (stS a) k) k2
def inQ (m : Mm) (qn s : Nat) : Prop := ∃ i, i < qn ∧ m (40 + 1 + 3) i = nI s
theorem l_two52 {a : Rw} {f : Int32} {qn : Nat} {mem : Mm} {K : Int32 → Mm → Prop} (hw : Wm a) (hQ : QbR a f mem qn) (h : ∀ F : Nat, F ≤ 9 → (∀ s, s < 512 → inQ mem qn s → F ≤ pc9 s) → (F = 9 ∨ ∃ s, s < 512 ∧ inQ mem qn s ∧ F = pc9 s) → K (nI (pc9 (stS a)) - nI F) mem) : ∃ nz : Nat, L_X2_mostByTwo_52 K nz 9 0 mem := by
  have h9 := hw.2.1
  have hq5 := hQ.le
  have qs : ∀ i, i < qn → mem (40 + 1 + 3) i = nI (mem (40 + 1 + 3) i).toNatClampNeg ∧ (mem (40 + 1 + 3) i).toNatClampNeg < 512 := by
    intro i hi
    obtain ⟨s, x1, x2, x3⟩ := hQ.2.2.2.1 i hi
    have hs := x2.l5 h9
    rw [x1, nI_clamp (by omega)]
    exact ⟨rfl, hs⟩
  have main : ∀ (d i : Nat), i + d = qn → L_X2_mostByTwo_52 K (d + 1) (nI (mnQ (fun i => pc9 (mem (40 + 1 + 3) i).toNatClampNeg) i)) (nI i) mem := by
    intro d
    induction d with
    | zero =>
      intro i hi
      have c0 : i = qn := by omega
      subst c0
      unfold L_X2_mostByTwo_52
      rw [hQ.2.1, hQ.1.1]
      refine ct1 (nI_le (Nat.le_refl _) (by omega)) (s_bitCount (stS_lt hw) (h _ (mnQ_le _ _).1 (fun s hs hin => ?_) ?_))
      · obtain ⟨j, hj, ej⟩ := hin
        have z := (mnQ_le (fun i => pc9 (mem (40 + 1 + 3) i).toNatClampNeg) i).2 j hj
        rw [ej, nI_clamp (by omega)] at z
        exact z
      · rcases mnQ_at (fun i => pc9 (mem (40 + 1 + 3) i).toNatClampNeg) i with z | ⟨j, hj, z⟩
        · exact Or.inl z
        · exact Or.inr ⟨_, (qs j hj).2, ⟨j, hj, (qs j hj).1⟩, z⟩
    | succ d ih =>
      intro i hi
      have z := ih (i + 1) (by omega)
      obtain ⟨y1, y2⟩ := qs i (by omega)
      unfold L_X2_mostByTwo_52
      rw [hQ.2.1]
      refine cf1 (nI_ge (by omega) (by omega)) ⟨i, rfl, by omega, ?_⟩
      rw [y1]
      refine s_bitCount y2 ?_
      rw [nI_1]
      have p9 := pc9_le (mem (40 + 1 + 3) i).toNatClampNeg
      have m9 := (mnQ_le (fun i => pc9 (mem (40 + 1 + 3) i).toNatClampNeg) i).1
      unfold mnQ at z
      by_cases c1 : pc9 (mem (40 + 1 + 3) i).toNatClampNeg < mnQ (fun i => pc9 (mem (40 + 1 + 3) i).toNatClampNeg) i
      · rw [if_pos (nI_lt c1 (by omega))]
        rw [if_pos c1] at z
        exact z
      · rw [if_neg (nI_nlt (by omega) (by omega))]
        rw [if_neg c1] at z
        exact z
  exact ⟨qn + 1, main qn 0 (by omega)⟩
/-- the second round of the queue: those before i are through -/
def PrR (a : Rw) (f : Int32) (m2 : Mm) (q2 i : Nat) (m : Mm) (qn : Nat) : Prop := QbR a f m qn ∧ (∀ q, q ≠ 40 → q ≠ 40 + 1 + 2 → q ≠ 40 + 1 + 3 → m q = m2 q) ∧ q2 ≤ qn ∧ (∀ j, j < q2 → m (40 + 1 + 3) j = m2 (40 + 1 + 3) j) ∧ (∀ s, s < 512 → viS m2 s → m (40 + 1 + 2) s = m2 (40 + 1 + 2) s) ∧ (∀ j s k, 1 ≤ j → j < i → m2 (40 + 1 + 3) j = nI s → s < 512 → k < 216 → viS m (flS a f s k)) ∧ ∀ s, s < 512 → inQ m qn s → Tw a f s
set_option maxHeartbeats 4000000 in
theorem l_two19 {a : Rw} {f : Int32} {m2 : Mm} {q2 : Nat} {K : Int32 → Mm → Prop} (hw : Wm a) (hq : q2 ≤ 512) (h2 : ∀ j, 1 ≤ j → j < q2 → ∃ k, k < 216 ∧ m2 (40 + 1 + 3) j = nI (flS a f (stS a) k) ∧ m2 (40 + 1 + 2) (flS a f (stS a) k) = nI 1) (hvis : ∀ s, s < 512 → viS m2 s → s = stS a ∨ ∃ j, 1 ≤ j ∧ j < q2 ∧ m2 (40 + 1 + 3) j = nI s)
    (hK : ∀ m qn, PrR a f m2 q2 q2 m qn → ∃ nz : Nat, L_X2_mostByTwo_52 K nz 9 0 m) : ∀ (r i : Nat) (m : Mm) (qn : Nat), i + r = q2 → 1 ≤ i → PrR a f m2 q2 i m qn → L_X2_mostByTwo_19 K (r + 1) (nI q2) (nI i) m := by
  intro r
  have h9 := hw.2.1
  induction r with
  | zero =>
    intro i m qn hi h1 hP
    have c0 : i = q2 := by omega
    subst c0
    unfold L_X2_mostByTwo_19
    exact ct1 (nI_le (Nat.le_refl _) (by omega)) (hK m qn hP)
  | succ r ih =>
    intro i m qn hi h1 hP
    obtain ⟨p1, p2, p3, p4, p5, p6, p7⟩ := hP
    obtain ⟨k, hk, x1, x2⟩ := h2 i h1 (by omega)
    have hS : SbR a (flS a f (stS a) k) := (SbR.st hw).fl h9 hk
    have hs := hS.l5 h9
    have vi2 : viS m2 (flS a f (stS a) k) := by unfold viS; rw [x2]; decide
    have e43 : m (40 + 1 + 2) (flS a f (stS a) k) = nI 1 := (p5 _ hs vi2).trans x2
    have vi1 : viS m (flS a f (stS a) k) := by unfold viS; rw [e43]; decide
    obtain ⟨_, _, d, y3, y4⟩ := p1.2.2.2.2 _ hs vi1
    have hd1 : d = 1 := (nI_eq (by omega) (by omega)).mp (y3.symm.trans e43)
    subst hd1
    unfold L_X2_mostByTwo_19
    refine cf1 (nI_ge (by omega) (by omega)) (cf1 (nI_ge (a := i) (b := 512) (by omega) (by omega)) ⟨i, rfl, by omega, ?_⟩)
    rw [p4 i (by omega), x1]
    refine s_queueAll hw p1 hS vi1 e43 y4 (fun m3 qn3 hQ => ?_)
    rw [nI_1]
    obtain ⟨b1, b2, b3, b4, b5, b6, b7⟩ := hQ
    refine ih (i + 1) m3 qn3 (by omega) (by omega) ⟨b1, fun q n0 n2 n3 => by rw [b2 q n0 n2 n3]; exact p2 q n0 n2 n3, by omega, fun j hj => by rw [b4 j (by omega)]; exact p4 j hj, fun s hs2 hv => ?_, fun j s k2 j1 j2 ej hs2 hk2 => ?_, fun s hs2 hin => ?_⟩
    · have e1 := p5 s hs2 hv
      rw [b5 s hs2 (by unfold viS; rw [e1]; exact hv)]
      exact e1
    · by_cases c1 : j = i
      · rw [c1, x1] at ej
        have c2 : flS a f (stS a) k = s := (nI_eq (by omega) (by omega)).mp ej
        rw [← c2]
        exact b6 k2 hk2
      · have hvo := p6 j s k2 j1 (by omega) ej hs2 hk2
        have hSs : s < 512 := hs2
        have hfl : flS a f s k2 < 512 := by
          obtain ⟨k5, hk5, z1, z2⟩ := h2 j j1 (by omega)
          have z3 : flS a f (stS a) k5 = s := (nI_eq (by have := ((SbR.st hw).fl (f := f) h9 hk5).l5 h9; omega) (by omega)).mp (z1.symm.trans ej)
          rw [← z3]
          exact (((SbR.st hw).fl h9 hk5).fl h9 hk2).l5 h9
        unfold viS
        rw [b5 _ hfl hvo]
        exact hvo
    · obtain ⟨j, hj, ej⟩ := hin
      by_cases c1 : j < qn
      · exact p7 s hs2 ⟨j, c1, by rw [← b4 j c1]; exact ej⟩
      · obtain ⟨k2, w1, w2, w3⟩ := b7 j (by omega) hj
        have hfl := (hS.fl (f := f) h9 w1).l5 h9
        have w4 : flS a f (flS a f (stS a) k) k2 = s := (nI_eq (by omega) (by omega)).mp (w2.symm.trans ej)
        exact Or.inr (Or.inr ⟨k, k2, hk, w1, w4.symm⟩)
set_option maxHeartbeats 4000000 in
theorem s_mostByTwo {a : Rw} {f : Int32} {mem : Mm} {K : Int32 → Mm → Prop} (hw : Wm a) (hT : TbR a f mem) (hK : ∀ m F, (∀ q, q ≠ 40 → q ≠ 40 + 1 + 2 → q ≠ 40 + 1 + 3 → m q = mem q) → F ≤ pc9 (stS a) → (∀ s, Tw a f s → F ≤ pc9 s) → (∃ s, Tw a f s ∧ F = pc9 s) → K (nI (pc9 (stS a) - F)) m) : W_X2_mostByTwo mem K := by
  have h9 := hw.2.1
  have hl := stS_lt hw
  have hS0 := SbR.st hw
  unfold W_X2_mostByTwo
  refine s_startQueue hw hT (fun m1 x1 hQ1 x2 x3 x4 => ?_)
  have v0 : viS m1 (stS a) := by unfold viS; rw [x3]; decide
  rw [hQ1.1.1]
  have p9 := pc9_le (stS a)
  refine s_queueAll hw hQ1 hS0 v0 x3 (by omega) (fun m2 q2 hQ2 => ?_)
  obtain ⟨b1, b2, b3, b4, b5, b6, b7⟩ := hQ2
  have hq5 := b1.le
  rw [b1.2.1]
  have hvis : ∀ s, s < 512 → viS m2 s → s = stS a ∨ ∃ j, 1 ≤ j ∧ j < q2 ∧ m2 (40 + 1 + 3) j = nI s := by
    intro s hs hv
    obtain ⟨_, ⟨j, hj, ej⟩, _⟩ := b1.2.2.2.2 s hs hv
    by_cases c1 : j = 0
    · left
      rw [c1, b4 0 (by omega), x2] at ej
      exact ((nI_eq (by omega) (by omega)).mp ej).symm
    · exact Or.inr ⟨j, by omega, hj, ej⟩
  refine ⟨q2 - 1 + 1, l_two19 hw hq5 (fun j j1 j2 => b7 j j1 j2) hvis (fun m qn hP => ?_) (q2 - 1) 1 m2 q2 (by omega) (by omega) ⟨b1, fun _ _ _ _ => rfl, Nat.le_refl _, fun _ _ => rfl, fun _ _ _ => rfl, fun j s k j1 j2 => by omega, fun s hs hin => ?_⟩⟩
  · obtain ⟨p1, p2, p3, p4, p5, p6, p7⟩ := hP
    have vto : ∀ s, s < 512 → viS m s → inQ m qn s := fun s hs hv => (p1.2.2.2.2 s hs hv).2.1
    have v2 : ∀ s, s < 512 → viS m2 s → viS m s := fun s hs hv => by unfold viS; rw [p5 s hs hv]; exact hv
    have vS0 : viS m2 (stS a) := by unfold viS; rw [b5 _ hl v0, x3]; decide
    have all : ∀ s, Tw a f s → s < 512 ∧ viS m s := by
      intro s hs
      rcases hs with rfl | ⟨k, hk, rfl⟩ | ⟨k, k2, hk, hk2, rfl⟩
      · exact ⟨hl, v2 _ hl vS0⟩
      · have h5 := (hS0.fl (f := f) h9 hk).l5 h9
        exact ⟨h5, v2 _ h5 (b6 k hk)⟩
      · have h5 := (hS0.fl (f := f) h9 hk).l5 h9
        have h6 := ((hS0.fl (f := f) h9 hk).fl (f := f) h9 hk2).l5 h9
        refine ⟨h6, ?_⟩
        rcases hvis _ h5 (b6 k hk) with z | ⟨j, j1, j2, ej⟩
        · rw [z] at h6 ⊢
          exact v2 _ h6 (b6 k2 hk2)
        · exact p6 j _ k2 j1 j2 ej h5 hk2
    refine l_two52 hw p1 (fun F hF hlo hat => ?_)
    have a0 := all (stS a) (Or.inl rfl)
    have F0 : F ≤ pc9 (stS a) := hlo _ a0.1 (vto _ a0.1 a0.2)
    rw [pk_sub F0]
    refine hK m F (fun q n0 n2 n3 => by rw [p2 q n0 n2 n3, b2 q n0 n2 n3]; exact x1 q n0 n2 n3) F0 (fun s hs => ?_) ?_
    · obtain ⟨c1, c2⟩ := all s hs
      exact hlo s c1 (vto s c1 c2)
    · rcases hat with z | ⟨s, hs, hin, z⟩
      · exact ⟨stS a, Or.inl rfl, by omega⟩
      · exact ⟨s, p7 s hs hin, z⟩
  · obtain ⟨j, hj, ej⟩ := hin
    by_cases c1 : j = 0
    · left
      rw [c1, b4 0 (by omega), x2] at ej
      exact ((nI_eq (by omega) (by omega)).mp ej).symm
    · obtain ⟨k, w1, w2, w3⟩ := b7 j (by omega) hj
      have hfl := (hS0.fl (f := f) h9 w1).l5 h9
      exact Or.inr (Or.inl ⟨k, w1, ((nI_eq (by omega) (by omega)).mp (w2.symm.trans ej)).symm⟩)
/-! the reference's pair -/
def MbR (a : Rw) (f : Int32) (m : Mm) : Prop := ∀ s, s < 512 → m 86 s = -1 ∨ m 86 s = nI (mxN (fkS a f s) (24 * nm a))
theorem mxN_9 {a : Rw} {f : Int32} {s n : Nat} : mxN (fkS a f s) n ≤ 9 := by
  rcases mxN_at (fkS a f s) n with z | ⟨k, _, z⟩
  · omega
  · rw [z]; exact fkS_le a f s k
theorem ThR.m86 {a : Rw} {m0 m : Mm} (h : ThR a m0 m) (k j : Nat) (v : Int32) (hk : k = 86 ∨ k = 87) : ThR a m0 (mu m k j v) := by
  obtain ⟨h1, h2, h3, h4⟩ := h
  have e83 : mu m k j v 83 = m 83 := mu_row_n _ _ _ (by omega)
  have e82 : mu m k j v 82 = m 82 := mu_row_n _ _ _ (by omega)
  exact ⟨h1.trans (Fr.m1 _ _ _ (by omega) (by omega)), by rw [e83]; exact h2, by rw [e83]; exact h3, fun j nj => by rw [e82]; exact h4 j nj⟩
theorem ThR.e1 {a : Rw} {m0 m : Mm} (h : ThR a m0 m) (ha : Wm a) : 24 * m 83 1 = nI (24 * nm a) := by
  rw [h.2.1 1 (by unfold Kq; omega), ha.1, m24]
theorem l_most14 {a : Rw} {f p0 p1 : Int32} {s : Nat} {m0 : Mm} {K : Int32 → Mm → Prop} (ha : Wm a) (hW : Wt a) (h85 : ∀ j, j < 1433 → m0 85 j = a j) (hS : SbR a s) (hK : ∀ m, ThR a m0 m → MbR a f m → K (nI (mxN (fkS a f s) (24 * nm a))) m) : ∀ (r k : Nat) (m : Mm), k + r = 24 * nm a → ThR a m0 m → MbR a f m → L_X9_mostFrom_14 p0 p1 K (r + 1) (nI s) f (nI (mxN (fkS a f s) k)) (nI k) m := by
  intro r
  have h9 := ha.2.1
  have hs := hS.l5 h9
  induction r with
  | zero =>
    intro k m hk hT hM
    have c0 : k = 24 * nm a := by omega
    subst c0
    unfold L_X9_mostFrom_14
    rw [hT.e1 ha]
    refine ct1 (nI_le (Nat.le_refl _) (by omega)) ⟨s, rfl, hs, fun m1 e1 => ⟨s, rfl, hs, ?_⟩⟩
    have y1 : m1 86 s = nI (mxN (fkS a f s) (24 * nm a)) := by rw [e1, mu_s]
    rw [y1]
    refine hK m1 (by rw [e1]; exact hT.m86 86 s _ (Or.inl rfl)) (fun s2 hs2 => ?_)
    rw [e1, mu_row_s]
    by_cases c1 : s2 = s
    · rw [c1, pk_us]; exact Or.inr rfl
    · rw [pk_un c1]; exact hM s2 hs2
  | succ r ih =>
    intro k m hk hT hM
    unfold L_X9_mostFrom_14
    rw [hT.e1 ha]
    refine cf1 (nI_ge (by omega) (by omega)) (s_fellBy ha hW h85 hS.1 (by omega) hT (fun m2 T2 _ e86 _ _ _ => ?_))
    have M2 : MbR a f m2 := fun s2 hs2 => by rw [e86]; exact hM s2 hs2
    have z := ih (k + 1) m2 (by omega) T2 M2
    have f9 := fkS_le a f s k
    have m9 : mxN (fkS a f s) k ≤ 9 := mxN_9
    rw [nI_1]
    unfold mxN at z
    refine ⟨fun hc => ?_, fun hc => ?_⟩
    · have c1 : fkS a f s k ≤ mxN (fkS a f s) k := (nI_leI (a := fkS a f s k) (by omega) (by omega)).mp hc
      rw [if_pos c1] at z; exact z
    · have c1 : ¬ fkS a f s k ≤ mxN (fkS a f s) k := fun y => hc ((nI_leI (a := fkS a f s k) (by omega) (by omega)).mpr y)
      rw [if_neg c1] at z; exact z
theorem s_mostFrom {a : Rw} {f : Int32} {s : Nat} {m0 mem : Mm} {K : Int32 → Mm → Prop} (ha : Wm a) (hW : Wt a) (h85 : ∀ j, j < 1433 → m0 85 j = a j) (hS : SbR a s) (hT : ThR a m0 mem) (hM : MbR a f mem) (hK : ∀ m, ThR a m0 m → MbR a f m → K (nI (mxN (fkS a f s) (24 * nm a))) m) : W_X9_mostFrom (nI s) f mem K := by
  have h9 := ha.2.1
  have hs := hS.l5 h9
  unfold W_X9_mostFrom
  refine ⟨s, rfl, hs, fun hc => ⟨s, rfl, hs, ?_⟩, fun hc => ⟨24 * nm a + 1, l_most14 ha hW h85 hS hK (24 * nm a) 0 mem (by omega) hT hM⟩⟩
  rcases hM s hs with z | z
  · rw [z] at hc; exact absurd hc (by decide)
  · rw [z]; exact hK mem hT hM
def prG (a : Rw) (f : Int32) (k : Nat) : Nat := fkS a f (stS a) k + mxN (fkS a f (flS a f (stS a) k)) (24 * nm a)
theorem prG_le (a : Rw) (f : Int32) (k : Nat) : prG a f k ≤ 18 := by
  unfold prG
  have := fkS_le a f (stS a) k
  have : mxN (fkS a f (flS a f (stS a) k)) (24 * nm a) ≤ 9 := mxN_9
  omega
theorem l_pair49 {a : Rw} {f p0 : Int32} {m0 : Mm} {K : Int32 → Mm → Prop} (ha : Wm a) (hW : Wt a) (h85 : ∀ j, j < 1433 → m0 85 j = a j) (hK : ∀ m, Fr (fun q => q = 82 ∨ q = 83 ∨ (86 ≤ q ∧ q ≤ 87) ∨ q = 95 ∨ q = 96) m0 m → m 83 = a → (∀ j, j ≠ 4 → m 82 j = m0 82 j) → K (nI (mxN (prG a f) (24 * nm a))) m) : ∀ (r k : Nat) (m : Mm), k + r = 24 * nm a → ThR a m0 m → MbR a f m → L_X9_pair_49 p0 K (r + 1) f (nI (stS a)) (nI (mxN (prG a f) k)) (nI k) m := by
  intro r
  have h9 := ha.2.1
  have hS := SbR.st ha
  induction r with
  | zero =>
    intro k m hk hT hM
    have c0 : k = 24 * nm a := by omega
    subst c0
    unfold L_X9_pair_49
    rw [hT.e1 ha]
    refine ct1 (nI_le (Nat.le_refl _) (by omega)) (s_putsBack (a := a) (fun j hj => by rw [hT.1.c 85 (by omega) (by omega)]; exact h85 j hj) (fun j hj => hT.2.1 j (by unfold Kq; omega)) (fun m2 f2 e2 => ?_))
    exact hK m2 (hT.1.trans (f2.mono (fun q hq => by omega))) e2 (fun j nj => by rw [f2.c 82 (by omega) (by omega)]; exact hT.2.2.2 j nj)
  | succ r ih =>
    intro k m hk hT hM
    unfold L_X9_pair_49
    rw [hT.e1 ha]
    refine cf1 (nI_ge (by omega) (by omega)) (s_fellBy ha hW h85 hS.1 (by omega) hT (fun m2 T2 e4 e86 _ _ _ => ?_))
    have M2 : MbR a f m2 := fun s2 hs2 => by rw [e86]; exact hM s2 hs2
    rw [e4]
    refine s_mostFrom ha hW h85 (hS.fl h9 (by omega)) T2 M2 (fun m3 T3 M3 => ?_)
    have z := ih (k + 1) m3 (by omega) T3 M3
    have f9 := prG_le a f k
    have m9 : mxN (prG a f) k ≤ 18 := by
      rcases mxN_at (prG a f) k with y | ⟨k2, _, y⟩
      · omega
      · rw [y]; exact prG_le a f k2
    have eg : nI (pc9 (stS a) - pc9 (flS a f (stS a) k)) + nI (mxN (fkS a f (flS a f (stS a) k)) (24 * nm a)) = nI (prG a f k) := nI_add _ _
    rw [eg, nI_1]
    unfold mxN at z
    refine ⟨fun hc => ?_, fun hc => ?_⟩
    · have c1 : prG a f k ≤ mxN (prG a f) k := (nI_leI (by omega) (by omega)).mp hc
      rw [if_pos c1] at z; exact z
    · have c1 : ¬ prG a f k ≤ mxN (prG a f) k := fun y => hc ((nI_leI (by omega) (by omega)).mpr y)
      rw [if_neg c1] at z; exact z
theorem l_pair24 {f p0 s : Int32} {m0 : Mm} {K : Int32 → Mm → Prop} (hK : ∀ m, (∀ q, q ≠ 86 → m q = m0 q) → (∀ i, i < 512 → m 86 i = -1) → ∃ nz : Nat, L_X9_pair_49 p0 K nz f s 0 0 m) : ∀ (d i : Nat) (m : Mm), i + d = 512 → (∀ q, q ≠ 86 → m q = m0 q) → (∀ i2, i2 < i → m 86 i2 = -1) → L_X9_pair_24 p0 K (d + 1) f s (nI i) m := by
  intro d
  induction d with
  | zero =>
    intro i m hi h1 h2
    have c0 : i = 512 := by omega
    subst c0
    unfold L_X9_pair_24
    exact ct1 (by decide) (hK m h1 h2)
  | succ d ih =>
    intro i m hi h1 h2
    unfold L_X9_pair_24
    refine cf1 (nI_ge (a := i) (b := 512) (by omega) (by omega)) ⟨i, rfl, by omega, fun m2 e2 => ?_⟩
    rw [nI_1]
    refine ih (i + 1) m2 (by omega) (fun q nq => ?_) (fun i2 hi2 => ?_)
    · rw [e2, mu_row_n _ _ _ nq]; exact h1 q nq
    · rw [e2, mu_row_s]
      by_cases c1 : i2 = i
      · rw [c1, pk_us]
      · rw [pk_un c1]; exact h2 i2 (by omega)
theorem fl_far {a : Rw} {f : Int32} {s k : Nat} (hn : nm a ≤ 9) (hS : SbR a s) (hk : k < 216) (h : 24 * nm a ≤ k) : flS a f s k = s := by
  refine fl_no (fun z => ?_)
  have := hS.in9 hn (show k / 24 ≤ 9 by omega) z.1
  omega
theorem pair_eq {a : Rw} {f : Int32} {F : Nat} (hw : Wm a) (hF : F ≤ pc9 (stS a)) (h1 : ∀ s, Tw a f s → F ≤ pc9 s) (h2 : ∃ s, Tw a f s ∧ F = pc9 s) : pc9 (stS a) - F = mxN (prG a f) (24 * nm a) := by
  have h9 := hw.2.1
  have hS := SbR.st hw
  have gk : ∀ k k2, k < 24 * nm a → k2 < 24 * nm a → pc9 (stS a) - pc9 (flS a f (flS a f (stS a) k) k2) ≤ mxN (prG a f) (24 * nm a) := by
    intro k k2 hk hk2
    have z1 := mxN_ge (prG a f) (24 * nm a) k hk
    have z2 := mxN_ge (fkS a f (flS a f (stS a) k)) (24 * nm a) k2 hk2
    have l1 := fl_le (f := f) h9 hS (show k < 216 by omega)
    have l2 := fl_le (f := f) h9 (hS.fl (f := f) h9 (show k < 216 by omega)) (show k2 < 216 by omega)
    have z3 : prG a f k = fkS a f (stS a) k + mxN (fkS a f (flS a f (stS a) k)) (24 * nm a) := rfl
    have z4 : fkS a f (stS a) k = pc9 (stS a) - pc9 (flS a f (stS a) k) := rfl
    have z5 : fkS a f (flS a f (stS a) k) k2 = pc9 (flS a f (stS a) k) - pc9 (flS a f (flS a f (stS a) k) k2) := rfl
    omega
  have up : mxN (prG a f) (24 * nm a) ≤ pc9 (stS a) - F := by
    rcases mxN_at (prG a f) (24 * nm a) with z | ⟨k, hk, z⟩
    · omega
    · rw [z]
      have hSk := hS.fl (f := f) h9 (show k < 216 by omega)
      have l1 := fl_le (f := f) h9 hS (show k < 216 by omega)
      unfold prG
      rcases mxN_at (fkS a f (flS a f (stS a) k)) (24 * nm a) with y | ⟨k2, hk2, y⟩
      · have t1 := h1 _ (Or.inr (Or.inl ⟨k, by omega, rfl⟩))
        rw [y]
        unfold fkS
        omega
      · have t1 := h1 _ (Or.inr (Or.inr ⟨k, k2, by omega, by omega, rfl⟩))
        have l2 := fl_le (f := f) h9 hSk (show k2 < 216 by omega)
        rw [y]
        unfold fkS
        omega
  have lo : pc9 (stS a) - F ≤ mxN (prG a f) (24 * nm a) := by
    obtain ⟨s, hs, eF⟩ := h2
    have one : ∀ k, k < 216 → F = pc9 (flS a f (stS a) k) → pc9 (stS a) - F ≤ mxN (prG a f) (24 * nm a) := by
      intro k hk e1
      by_cases c1 : k < 24 * nm a
      · have hSk := hS.fl (f := f) h9 hk
        have l2 := fl_le (f := f) h9 hSk (show 0 < 216 by omega)
        have z := gk k 0 c1 (by omega)
        omega
      · rw [fl_far h9 hS hk (by omega)] at e1
        omega
    rcases hs with rfl | ⟨k, hk, rfl⟩ | ⟨k, k2, hk, hk2, rfl⟩
    · omega
    · exact one k hk eF
    · have hSk := hS.fl (f := f) h9 hk
      by_cases c2 : k2 < 24 * nm a
      · by_cases c1 : k < 24 * nm a
        · have z := gk k k2 c1 c2
          omega
        · rw [fl_far h9 hS hk (by omega)] at eF
          exact one k2 hk2 eF
      · rw [fl_far h9 hSk hk2 (by omega)] at eF
        exact one k hk eF
  omega
set_option maxHeartbeats 4000000 in
theorem ak_pair {c : Nat} (w0 : Int32) (mem : Mm) (h : Iv c mem) : W_X8_pair w0 mem (fun v m => W_X9_pair w0 m (fun v2 m2 => v = v2 ∧ Iv (c + 1) m2)) := by
  obtain ⟨hA, hR⟩ := h.1
  have hw := hR.1
  have hW := hR.2.1
  have h9 := hw.2.1
  unfold W_X8_pair
  by_cases c0 : 0 ≤ w0 ∧ w0 ≤ 99
  · refine s_iw_y c0 ?_
    first | refine zt1 ?_ | refine zt2 ?_
    refine s_lookAt hw hW hA (fun m1 f1 T1 => ?_)
    refine s_mostByTwo hw T1 (fun m2 F q2 F1 F2 F3 => ?_)
    have f2 : Fr P40 mem m2 := f1.trans ⟨fun q p1 _ => q2 q (by omega) (by omega) (by omega), fun q p1 => by unfold iSt at p1; rw [q2 q (by omega) (by omega) (by omega)]⟩
    have q83 : m2 83 = mem 83 := f2.c 83 (by omega) (by omega)
    have q82 : m2 82 = mem 82 := f2.c 82 (by omega) (by omega)
    show W_X9_pair _ _ _
    unfold W_X9_pair
    refine s_in_y c0 ?_
    first | refine zt1 ?_ | refine zt2 ?_
    refine s_X9_standing (by rw [q83]; exact hw) ?_
    rw [q83]
    refine s_thinks (fun m3 f3 e3 => ?_)
    have g83 : m3 83 = mem 83 := by rw [f3.c 83 (by omega) (by omega)]; exact q83
    refine ⟨512 + 1, l_pair24 (fun m4 x1 x2 => ?_) 512 0 m3 (by omega) (fun _ _ => rfl) (fun i2 hi2 => by omega)⟩
    have f34 : Fr (fun q => q = 82 ∨ q = 83 ∨ (86 ≤ q ∧ q ≤ 87) ∨ q = 95 ∨ q = 96) m3 m4 := ⟨fun q p1 _ => x1 q (by omega), fun q p1 => by unfold iSt at p1; rw [x1 q (by omega)]⟩
    have g4 : m4 83 = mem 83 := by rw [x1 83 (by omega)]; exact g83
    refine ⟨24 * nm (mem 83) + 1, l_pair49 (a := mem 83) (f := w0) (m0 := m3) hw hW (fun j hj => by rw [e3 j hj, q83]) (fun m5 f5 e5 u5 => ⟨?_, ?_⟩) (24 * nm (mem 83)) 0 m4 (by omega) ⟨f34, by rw [g4]; exact fun q _ => rfl, by rw [g4]; exact hw, fun j nj => by rw [x1 82 (by omega)]⟩ (fun s hs => Or.inl (x2 s hs))⟩
    · rw [pair_eq hw F1 F2 F3]
    · refine h.sr f2 ((f3.mono (fun q hq => by omega)).trans (f5.mono (fun q hq => by omega))) e5 (fun j nj => ?_)
      rw [u5 j nj, f3.c 82 (by omega) (by omega), q82]
  · refine s_iw_n c0 ?_
    first | refine zf1 ?_ | refine zf2 ?_
    show W_X9_pair _ _ _
    unfold W_X9_pair
    refine s_in_n c0 ?_
    first | refine zf1 ?_ | refine zf2 ?_
    exact ⟨rfl, h.up⟩
