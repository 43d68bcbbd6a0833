/-! CLEAR -/
def RcR (a : Rw) (f : Int32) : Nat → Nat → Prop
  | 0, s => s = stS a
  | d + 1, s => RcR a f d s ∨ ∃ s2, RcR a f d s2 ∧ ∃ k, k < 216 ∧ s = flS a f s2 k
def ExR (a : Rw) (f : Int32) (s d : Nat) : Prop := RcR a f d s ∧ ∀ e, e < d → ¬ RcR a f e s
theorem RcR.mo {a : Rw} {f : Int32} {d s : Nat} (h : RcR a f d s) : ∀ j, RcR a f (d + j) s := by
  intro j
  induction j with
  | zero => exact h
  | succ j ih => exact Or.inl ih
theorem RcR.up {a : Rw} {f : Int32} {d e s : Nat} (h : RcR a f d s) (hd : d ≤ e) : RcR a f e s := by
  have z := h.mo (e - d)
  rw [show d + (e - d) = e by omega] at z
  exact z
theorem lb_num {a : Rw} {t u : Int32} (hn : nm a ≤ 9) : ∀ (n s m : Nat), SbR a s → m < nm a → lbF a n s m t u ≤ s := by
  intro n
  induction n with
  | zero => intro s m _ _; exact Nat.le_refl _
  | succ n ih =>
    intro s m hS hm
    obtain ⟨_, y1, y2, y3, y4⟩ := tb_nx m (by omega)
    have hR := hS.rm hn (show m < 9 by omega)
    have r1 := (tb_rm m (by omega) s (hS.l5 hn)).2
    have gs : ∀ (p : Int32) (s2 j : Nat), SbR a s2 → j ≤ 9 → lbG (fun s2 j => lbF a n s2 j t u) a p s2 j t ≤ s2 := by
      intro p s2 j hS2 hj
      unfold lbG
      split
      · rename_i hc
        exact ih s2 j hS2 (hS2.in9 hn hj hc.1)
      · exact Nat.le_refl _
    have h1 : (if u = 1 then rmB s m else lbG (fun s2 j => lbF a n s2 j t u) a (puS a m) (rmB s m) (nxL m) t) ≤ s ∧ SbR a (if u = 1 then rmB s m else lbG (fun s2 j => lbF a n s2 j t u) a (puS a m) (rmB s m) (nxL m) t) := by
      split
      · exact ⟨r1, hR⟩
      · exact ⟨Nat.le_trans (gs _ _ _ hR y2) r1, hR.gs hn y2 (SbR.lb hn n)⟩
    unfold lbF
    split
    · exact h1.1
    · exact Nat.le_trans (gs _ _ _ h1.2 y4) h1.1
theorem fl_num {a : Rw} {f : Int32} {s k : Nat} (hn : nm a ≤ 9) (hS : SbR a s) (hk : k < 216) : flS a f s k ≤ s := by
  unfold flS lbG
  split
  · rename_i hc
    exact lb_num hn 12 s (k / 24) hS (hS.in9 hn (show k / 24 ≤ 9 by omega) hc.1)
  · exact Nat.le_refl _
theorem RcR.sb {a : Rw} {f : Int32} (hw : Wm a) : ∀ (d s : Nat), RcR a f d s → SbR a s ∧ s ≤ stS a := by
  intro d
  have h9 := hw.2.1
  induction d with
  | zero => intro s h; have e1 : s = stS a := h; rw [e1]; exact ⟨SbR.st hw, Nat.le_refl _⟩
  | succ d ih =>
    intro s h
    rcases h with h | ⟨s2, h2, k, hk, e1⟩
    · exact ih s h
    · obtain ⟨x1, x2⟩ := ih s2 h2
      rw [e1]
      exact ⟨x1.fl h9 hk, Nat.le_trans (fl_num h9 x1 hk) x2⟩
theorem RcR.ex {a : Rw} {f : Int32} {d s : Nat} (h : RcR a f d s) : ∃ e, e ≤ d ∧ ExR a f s e := by
  obtain ⟨e, h1, h2⟩ := pk_least (fun e => RcR a f e s) ⟨d, h⟩
  refine ⟨e, ?_, h1, h2⟩
  by_cases c1 : e ≤ d
  · exact c1
  · exact absurd h (h2 d (by omega))
theorem ExR.un {a : Rw} {f : Int32} {s d e : Nat} (h : ExR a f s d) (k : ExR a f s e) : d = e := by
  have c1 : ¬ d < e := fun z => k.2 d z h.1
  have c2 : ¬ e < d := fun z => h.2 e z k.1
  omega
theorem ExR.b9 {a : Rw} {f : Int32} (hw : Wm a) : ∀ (d s : Nat), ExR a f s d → d + pc9 s ≤ 9 := by
  intro d
  have h9 := hw.2.1
  induction d with
  | zero => intro s _; have := pc9_le s; omega
  | succ d ih =>
    intro s h
    rcases h.1 with z | ⟨s2, h2, k, hk, e1⟩
    · exact absurd z (h.2 d (by omega))
    · have hS2 := (RcR.sb hw d s2 h2).1
      have ex2 : ExR a f s2 d := by
        refine ⟨h2, fun e he z => ?_⟩
        have : RcR a f (e + 1) s := Or.inr ⟨s2, z, k, hk, e1⟩
        exact h.2 (e + 1) (by omega) this
      have y := ih s2 ex2
      rcases fl_lt (f := f) h9 hS2 hk with z | z
      · rw [z] at e1
        rw [e1] at h
        exact absurd h2 (h.2 d (by omega))
      · rw [← e1] at z
        omega
theorem RcR.nine {a : Rw} {f : Int32} {d s : Nat} (hw : Wm a) (h : RcR a f d s) : RcR a f 9 s := by
  obtain ⟨e, _, h2⟩ := h.ex
  have z := ExR.b9 hw e s h2
  exact h2.1.up (by omega)
/-- the answer -/
def ClR (a : Rw) (f : Int32) (v : Int32) : Prop := (∃ d, ExR a f 0 d ∧ v = nI d) ∨ ((∀ d, ¬ RcR a f d 0) ∧ v = -1000000005)
theorem ClR.un {a : Rw} {f v w : Int32} (h : ClR a f v) (k : ClR a f w) : v = w := by
  rcases h with ⟨d, h1, h2⟩ | ⟨h1, h2⟩
  · rcases k with ⟨e, k1, k2⟩ | ⟨k1, k2⟩
    · rw [h2, k2, h1.un k1]
    · exact absurd h1.1 (k1 d)
  · rcases k with ⟨e, k1, k2⟩ | ⟨k1, k2⟩
    · exact absurd k1.1 (h1 e)
    · rw [h2, k2]
/-! the class's queue goes from near to far -/
def qfV (m : Mm) (i : Nat) : Nat := (m (40 + 1 + 3) i).toNatClampNeg
def dfV (m : Mm) (i : Nat) : Nat := (m (40 + 1 + 2) (qfV m i)).toNatClampNeg
theorem QbR.at {a : Rw} {f : Int32} {m : Mm} {qn i : Nat} (hn : nm a ≤ 9) (h : QbR a f m qn) (hi : i < qn) : m (40 + 1 + 3) i = nI (qfV m i) ∧ qfV m i < 512 ∧ SbR a (qfV m i) ∧ viS m (qfV m i) ∧ m (40 + 1 + 2) (qfV m i) = nI (dfV m i) ∧ dfV m i + pc9 (qfV m i) ≤ 9 := by
  obtain ⟨s, x1, x2, x3⟩ := h.2.2.2.1 i hi
  have hs := x2.l5 hn
  have e1 : qfV m i = s := by unfold qfV; rw [x1]; exact nI_clamp (by omega)
  obtain ⟨_, _, d, y1, y2⟩ := h.2.2.2.2 s hs x3
  have e2 : dfV m i = d := by unfold dfV; rw [e1, y1]; exact nI_clamp (by omega)
  rw [e2, e1]
  exact ⟨x1, hs, x2, x3, y1, y2⟩
def BfR (a : Rw) (f : Int32) (h : Nat) (m : Mm) (qn : Nat) : Prop := QbR a f m qn ∧ viS m (stS a) ∧ (∀ i, i < qn → ExR a f (qfV m i) (dfV m i)) ∧ (∀ i j, i ≤ j → j < qn → dfV m i ≤ dfV m j) ∧ (∀ i k, i < h → i < qn → k < 216 → viS m (flS a f (qfV m i) k)) ∧ (h < qn → ∀ j, j < qn → dfV m j ≤ dfV m h + 1)
theorem BfR.vis {a : Rw} {f : Int32} {h qn s : Nat} {m : Mm} (hw : Wm a) (hB : BfR a f h m qn) (hs : s < 512) (hv : viS m s) : ∃ i, i < qn ∧ qfV m i = s := by
  obtain ⟨_, ⟨i, hi, ei⟩, _⟩ := hB.1.2.2.2.2 s hs hv
  exact ⟨i, hi, by unfold qfV; rw [ei]; exact nI_clamp (by omega)⟩
theorem BfR.all {a : Rw} {f : Int32} {h qn : Nat} {m : Mm} (hw : Wm a) (hB : BfR a f h m qn) : ∀ (e s : Nat), RcR a f e s → (h < qn → e ≤ dfV m h) → viS m s := by
  intro e
  have h9 := hw.2.1
  induction e with
  | zero => intro s hs _; have e1 : s = stS a := hs; rw [e1]; exact hB.2.1
  | succ e ih =>
    intro s hs hb
    rcases hs with z | ⟨s2, h2, k, hk, e1⟩
    · exact ih s z (fun y => by have := hb y; omega)
    · have v2 := ih s2 h2 (fun y => by have := hb y; omega)
      obtain ⟨i, hi, ei⟩ := hB.vis hw ((RcR.sb hw e s2 h2).1.l5 h9) v2
      have ex := hB.2.2.1 i hi
      rw [ei] at ex
      have hde : dfV m i ≤ e := by
        by_cases c1 : dfV m i ≤ e
        · exact c1
        · exact absurd h2 (ex.2 e (by omega))
      have hih : i < h := by
        by_cases c1 : i < h
        · exact c1
        · by_cases c2 : h < qn
          · have z1 := hB.2.2.2.1 h i (by omega) hi
            have z2 := hb c2
            omega
          · omega
      rw [e1, ← ei]
      exact hB.2.2.2.2.1 i k hih hi hk
set_option maxHeartbeats 4000000 in
theorem BfR.next {a : Rw} {f : Int32} {h qn qn2 : Nat} {m m2 : Mm} (hw : Wm a) (hB : BfR a f h m qn) (hh : h < qn) (hQ : QsR a f (qfV m h) (dfV m h) m qn 216 m2 qn2) : BfR a f (h + 1) m2 qn2 := by
  have h9 := hw.2.1
  obtain ⟨b1, b2, b3, b4, b5, b6, b7⟩ := hQ
  obtain ⟨c1, c2, c3, c4, c5, c6⟩ := id hB
  obtain ⟨x1, x2, x3, x4, x5, x6⟩ := c1.at h9 hh
  have keepv : ∀ s, s < 512 → viS m s → viS m2 s := fun s hs hv => by unfold viS; rw [b5 s hs hv]; exact hv
  have old : ∀ i, i < qn → qfV m2 i = qfV m i ∧ dfV m2 i = dfV m i := by
    intro i hi
    have e1 : qfV m2 i = qfV m i := by unfold qfV; rw [b4 i hi]
    obtain ⟨y1, y2, y3, y4, y5, y6⟩ := c1.at h9 hi
    refine ⟨e1, ?_⟩
    unfold dfV
    rw [e1, b5 _ y2 y4]
  have new : ∀ i, qn ≤ i → i < qn2 → ∃ k, k < 216 ∧ qfV m2 i = flS a f (qfV m h) k ∧ dfV m2 i = dfV m h + 1 := by
    intro i i1 i2
    obtain ⟨k, k1, k2, k3⟩ := b7 i i1 i2
    have hfl := (x3.fl (f := f) h9 k1).l5 h9
    have e1 : qfV m2 i = flS a f (qfV m h) k := by unfold qfV; rw [k2]; exact nI_clamp (by omega)
    refine ⟨k, k1, e1, ?_⟩
    unfold dfV
    rw [e1, k3]
    exact nI_clamp (by omega)
  have mono : ∀ i j, i ≤ j → j < qn2 → dfV m2 i ≤ dfV m2 j := by
    intro i j hij hj
    by_cases cj : j < qn
    · rw [(old i (by omega)).2, (old j cj).2]; exact c4 i j hij cj
    · obtain ⟨_, _, _, ej⟩ := new j (by omega) hj
      by_cases ci : i < qn
      · rw [(old i ci).2, ej]; exact c6 hh i ci
      · obtain ⟨_, _, _, ei⟩ := new i (by omega) (by omega)
        rw [ei, ej]; exact Nat.le_refl _
  have top : ∀ j, j < qn2 → dfV m2 j ≤ dfV m h + 1 := by
    intro j hj
    by_cases cj : j < qn
    · rw [(old j cj).2]; exact c6 hh j cj
    · obtain ⟨_, _, _, ej⟩ := new j (by omega) hj
      rw [ej]; exact Nat.le_refl _
  have exh := c3 h hh
  refine ⟨b1, keepv _ (stS_lt hw) c2, fun i hi => ?_, mono, fun i k i1 i2 hk => ?_, fun hlt j hj => ?_⟩
  · by_cases ci : i < qn
    · obtain ⟨e1, e2⟩ := old i ci
      rw [e1, e2]; exact c3 i ci
    · obtain ⟨k, k1, e1, e2⟩ := new i (by omega) hi
      rw [e1, e2]
      have hfl := (x3.fl (f := f) h9 k1).l5 h9
      by_cases cv : viS m (flS a f (qfV m h) k)
      · obtain ⟨i3, hi3, ei3⟩ := hB.vis hw hfl cv
        have ex3 := c3 i3 hi3
        rw [ei3] at ex3
        have y5 := (c1.at h9 hi3).2.2.2.2.1
        rw [ei3] at y5
        have z := b5 _ hfl cv
        obtain ⟨k9, k91, k92, k93⟩ := b7 i (by omega) hi
        have hfl9 := (x3.fl (f := f) h9 k91).l5 h9
        have e9 : flS a f (qfV m h) k9 = flS a f (qfV m h) k := by
          have y1 : qfV m2 i = flS a f (qfV m h) k9 := by unfold qfV; rw [k92]; exact nI_clamp (by omega)
          exact y1.symm.trans e1
        rw [e9, z, y5] at k93
        have d9 : dfV m i3 = dfV m h + 1 := (nI_eq (by have := (c1.at h9 hi3).2.2.2.2.2; omega) (by omega)).mp k93
        rw [← d9]
        exact ex3
      · refine ⟨Or.inr ⟨qfV m h, exh.1, k, k1, rfl⟩, fun e he z => cv ?_⟩
        exact hB.all hw e _ z (fun _ => by omega)
  · by_cases ci : i < qn
    · obtain ⟨e1, _⟩ := old i ci
      rw [e1]
      by_cases ch : i = h
      · rw [ch]; exact b6 k hk
      · have y3 := (c1.at h9 ci).2.2.1
        exact keepv _ ((y3.fl (f := f) h9 hk).l5 h9) (c5 i k (by omega) ci hk)
    · omega
  · have z1 := top j hj
    have z2 := mono h (h + 1) (by omega) hlt
    rw [(old h hh).2] at z2
    omega
set_option maxHeartbeats 4000000 in
theorem l_fewest {a : Rw} {f : Int32} {m0 : Mm} {K : Int32 → Mm → Prop} (hw : Wm a) (hK : ∀ m v, (∀ q, q ≠ 40 → q ≠ 40 + 1 + 2 → q ≠ 40 + 1 + 3 → m q = m0 q) → ClR a f v → K v m) : ∀ (r h : Nat) (m : Mm) (qn : Nat), h + r = 512 → (∀ q, q ≠ 40 → q ≠ 40 + 1 + 2 → q ≠ 40 + 1 + 3 → m q = m0 q) → BfR a f h m qn → L_X2_fewestForAll_6 K (r + 1) (nI h) m := by
  intro r
  have h9 := hw.2.1
  have seen : ∀ (h : Nat) (m : Mm) (qn : Nat), (∀ q, q ≠ 40 → q ≠ 40 + 1 + 2 → q ≠ 40 + 1 + 3 → m q = m0 q) → BfR a f h m qn → viS m 0 → K (m (40 + 1 + 2) 0) m := by
    intro h m qn ho hB hv
    obtain ⟨i, hi, ei⟩ := hB.vis hw (by omega) hv
    have ex := hB.2.2.1 i hi
    have y5 := (hB.1.at h9 hi).2.2.2.2.1
    rw [ei] at ex y5
    exact hK m _ ho (Or.inl ⟨_, ex, y5⟩)
  have out : ∀ (h : Nat) (m : Mm) (qn : Nat), (∀ q, q ≠ 40 → q ≠ 40 + 1 + 2 → q ≠ 40 + 1 + 3 → m q = m0 q) → BfR a f h m qn → qn ≤ h → ((¬ m (40 + 1 + 2) 0 = -1 → K (m (40 + 1 + 2) 0) m) ∧ (m (40 + 1 + 2) 0 = -1 → K (-1000000005) m)) := by
    intro h m qn ho hB hq
    refine ⟨fun hv => seen h m qn ho hB hv, fun hv => hK m _ ho (Or.inr ⟨fun d hd => ?_, rfl⟩)⟩
    exact hB.all hw d 0 hd (fun z => by omega) hv
  induction r with
  | zero =>
    intro h m qn hr ho hB
    have hq := hB.1.le
    unfold L_X2_fewestForAll_6
    rw [hB.1.2.1]
    exact ct1 (nI_le (by omega) (by omega)) (out h m qn ho hB (by omega))
  | succ r ih =>
    intro h m qn hr ho hB
    have hq := hB.1.le
    unfold L_X2_fewestForAll_6
    rw [hB.1.2.1]
    by_cases c1 : qn ≤ h
    · exact ct1 (nI_le c1 (by omega)) (out h m qn ho hB c1)
    · refine cf1 (nI_ge (by omega) (by omega)) (cf1 (nI_ge (a := h) (b := 512) (by omega) (by omega)) ⟨fun hv => ⟨fun _ => seen h m qn ho hB hv, fun z => absurd z hv⟩, fun hv => ⟨h, rfl, by omega, ?_⟩⟩)
      obtain ⟨x1, x2, x3, x4, x5, x6⟩ := hB.1.at h9 (show h < qn by omega)
      rw [x1]
      refine s_queueAll hw hB.1 x3 x4 x5 x6 (fun m2 qn2 hQ => ?_)
      rw [nI_1]
      exact ih (h + 1) m2 qn2 (by omega) (fun q n0 n2 n3 => by rw [hQ.2.1 q n0 n2 n3]; exact ho q n0 n2 n3) (hB.next hw (by omega) hQ)
theorem s_fewest {a : Rw} {f : Int32} {mem : Mm} {K : Int32 → Mm → Prop} (hw : Wm a) (hT : TbR a f mem) (hK : ∀ m v, (∀ q, q ≠ 40 → q ≠ 40 + 1 + 2 → q ≠ 40 + 1 + 3 → m q = mem q) → ClR a f v → K v m) : W_X2_fewestForAll mem K := by
  have h9 := hw.2.1
  have hl := stS_lt hw
  unfold W_X2_fewestForAll
  refine s_startQueue hw hT (fun m1 x1 hQ1 x2 x3 x4 => ⟨512 + 1, l_fewest hw (fun m v ho hc => hK m v (fun q n0 n2 n3 => by rw [ho q n0 n2 n3]; exact x1 q n0 n2 n3) hc) 512 0 m1 1 (by omega) (fun _ _ _ _ => rfl) ?_⟩)
  have e1 : qfV m1 0 = stS a := by unfold qfV; rw [x2]; exact nI_clamp (by omega)
  have e2 : dfV m1 0 = 0 := by unfold dfV; rw [e1, x3]; exact nI_clamp (by omega)
  refine ⟨hQ1, by unfold viS; rw [x3]; decide, fun i hi => ?_, fun i j hij hj => ?_, fun i k hi => by omega, fun _ j hj => ?_⟩
  · have c0 : i = 0 := by omega
    rw [c0, e1, e2]
    exact ⟨rfl, fun e he => by omega⟩
  · have c0 : i = 0 := by omega
    have c1 : j = 0 := by omega
    rw [c0, c1]; exact Nat.le_refl _
  · have c1 : j = 0 := by omega
    rw [c1]; omega
/-! the reference goes level by level -/
def LvR (a : Rw) (f : Int32) (n : Nat) (m : Mm) : Prop := ∀ s, s < 512 → (∃ d, d ≤ n ∧ ExR a f s d ∧ m 87 s = nI d) ∨ (¬ RcR a f n s ∧ m 87 s = -1)
/-- in level n: all sayings of the sets of Pz are through, of s0 those below k0 -/
def LmR (a : Rw) (f : Int32) (n : Nat) (Pz : Nat → Prop) (s0 k0 : Nat) (m : Mm) : Prop := ∀ s, s < 512 → (∃ d, d ≤ n ∧ ExR a f s d ∧ m 87 s = nI d) ∨ (¬ RcR a f n s ∧ ((m 87 s = nI (n + 1) ∧ RcR a f (n + 1) s) ∨ (m 87 s = -1 ∧ (∀ s2 k, Pz s2 → ExR a f s2 n → k < 216 → ¬ flS a f s2 k = s) ∧ ∀ k, k < k0 → ¬ flS a f s0 k = s)))
theorem s_zero {a : Rw} {f : Int32} {k : Nat} : flS a f 0 k = 0 := by
  refine fl_no (fun z => ?_)
  have z1 := z.1
  unfold inB at z1
  rw [Nat.zero_div] at z1
  exact absurd z1 (by decide)
set_option maxHeartbeats 4000000 in
theorem l_goesFrom {a : Rw} {f p0 p1 : Int32} {n s0 : Nat} {Pz : Nat → Prop} {m0 : Mm} {K : Mm → Prop} (ha : Wm a) (hW : Wt a) (h85 : ∀ j, j < 1433 → m0 85 j = a j) (hn9 : n ≤ 9) (hE : ExR a f s0 n) (hK : ∀ m, ThR a m0 m → LmR a f n Pz s0 216 m → K m) : ∀ (r k : Nat) (m : Mm), k + r = 24 * nm a → ThR a m0 m → LmR a f n Pz s0 k m → L_X9_goesFrom_2 p0 p1 K (r + 1) (nI s0) f (nI k) m := by
  intro r
  have h9 := ha.2.1
  obtain ⟨hS, _⟩ := RcR.sb ha n s0 hE.1
  have hs := hS.l5 h9
  induction r with
  | zero =>
    intro k m hk hT hL
    have c0 : k = 24 * nm a := by omega
    subst c0
    unfold L_X9_goesFrom_2
    rw [hT.e1 ha]
    refine ct1 (nI_le (Nat.le_refl _) (by omega)) (hK m hT (fun s hs2 => ?_))
    rcases hL s hs2 with z | ⟨z1, z2 | ⟨z2, z3, z4⟩⟩
    · exact Or.inl z
    · exact Or.inr ⟨z1, Or.inl z2⟩
    · refine Or.inr ⟨z1, Or.inr ⟨z2, z3, fun k2 hk2 e1 => ?_⟩⟩
      by_cases c1 : k2 < 24 * nm a
      · exact z4 k2 c1 e1
      · rw [fl_far h9 hS hk2 (by omega)] at e1
        rw [← e1] at z1
        exact z1 hE.1
  | succ r ih =>
    intro k m hk hT hL
    have hk6 : k < 216 := by omega
    have hSf := hS.fl (f := f) h9 hk6
    have hsf := hSf.l5 h9
    have hrc : RcR a f (n + 1) (flS a f s0 k) := Or.inr ⟨s0, hE.1, k, hk6, rfl⟩
    have e0 : m 87 s0 = nI n := by
      rcases hL s0 hs with ⟨d, d1, d2, d3⟩ | ⟨z1, _⟩
      · rw [d3, d2.un hE]
      · exact absurd hE.1 z1
    unfold L_X9_goesFrom_2
    rw [hT.e1 ha]
    refine cf1 (nI_ge (by omega) (by omega)) (s_fellBy ha hW h85 hS.1 (by omega) hT (fun m2 T2 e4 _ e87 _ _ => ⟨flS a f s0 k, e4, hsf, ?_⟩))
    rw [e4, e87, nI_1]
    refine ⟨fun hc => ⟨flS a f s0 k, rfl, hsf, flS a f s0 k, rfl, hsf, fun m3 e3 => ?_⟩, fun hc => ⟨s0, rfl, hs, flS a f s0 k, rfl, hsf, fun m3 e3 => ?_⟩⟩
    · have same : m3 87 = m 87 := by rw [e3, mu_row_s, e87, upd_same]
      refine ih (k + 1) m3 (by omega) (by rw [e3]; exact T2.m86 87 _ _ (Or.inr rfl)) (fun s hs2 => ?_)
      rw [same]
      rcases hL s hs2 with z | ⟨z1, z2 | ⟨z2, z3, z4⟩⟩
      · exact Or.inl z
      · exact Or.inr ⟨z1, Or.inl z2⟩
      · refine Or.inr ⟨z1, Or.inr ⟨z2, z3, fun k2 hk2 e1 => ?_⟩⟩
        by_cases c1 : k2 = k
        · rw [c1] at e1
          rw [e1, z2] at hc
          exact absurd hc (by decide)
        · exact z4 k2 (by omega) e1
    · have new : m3 87 = upd (m 87) (flS a f s0 k) (nI (n + 1)) := by rw [e3, mu_row_s, e87, e0, nI_1]
      have nrc : ¬ RcR a f n (flS a f s0 k) := by
        rcases hL _ hsf with ⟨d, d1, d2, d3⟩ | ⟨z1, _⟩
        · rw [d3] at hc
          exact absurd (nI_pos' (by omega)) hc
        · exact z1
      refine ih (k + 1) m3 (by omega) (by rw [e3]; exact T2.m86 87 _ _ (Or.inr rfl)) (fun s hs2 => ?_)
      rw [new]
      by_cases c1 : s = flS a f s0 k
      · rw [c1, pk_us]
        exact Or.inr ⟨nrc, Or.inl ⟨rfl, hrc⟩⟩
      · rw [pk_un c1]
        rcases hL s hs2 with z | ⟨z1, z2 | ⟨z2, z3, z4⟩⟩
        · exact Or.inl z
        · exact Or.inr ⟨z1, Or.inl z2⟩
        · refine Or.inr ⟨z1, Or.inr ⟨z2, z3, fun k2 hk2 e1 => ?_⟩⟩
          by_cases c2 : k2 = k
          · rw [c2] at e1; exact c1 e1.symm
          · exact z4 k2 (by omega) e1
set_option maxHeartbeats 4000000 in
theorem l_clear71 {a : Rw} {f p0 l2 : Int32} {n : Nat} {m0 : Mm} {K : Int32 → Mm → Prop} {kb : Int32 → Int32 → Int32 → Mm → Prop} (ha : Wm a) (hW : Wt a) (h85 : ∀ j, j < 1433 → m0 85 j = a j) (hn9 : n ≤ 9) (hn0 : ¬ RcR a f n 0) (hK : ∀ m, ThR a m0 m → LvR a f (n + 1) m → kb f l2 (nI (n + 1)) m) : ∀ (s : Nat) (m : Mm), s ≤ stS a → ThR a m0 m → LmR a f n (fun s2 => s < s2 ∧ s2 ≤ stS a) 0 0 m → L_X9_clear_71 p0 kb K (s + 1) f l2 (nI n) (nI s) m := by
  intro s
  have h9 := ha.2.1
  have hl := stS_lt ha
  induction s with
  | zero =>
    intro m _ hT hL
    unfold L_X9_clear_71
    refine ct1 (by decide) ?_
    rw [nI_1]
    refine hK m hT (fun s hs => ?_)
    rcases hL s hs with ⟨d, d1, d2, d3⟩ | ⟨z1, ⟨z2, z3⟩ | ⟨z2, z3, z4⟩⟩
    · exact Or.inl ⟨d, by omega, d2, d3⟩
    · refine Or.inl ⟨n + 1, Nat.le_refl _, ⟨z3, fun e he y => z1 (y.up (by omega))⟩, z2⟩
    · refine Or.inr ⟨fun y => ?_, z2⟩
      rcases y with y | ⟨s2, h2, k, hk, e1⟩
      · exact z1 y
      · obtain ⟨e, he, hex⟩ := h2.ex
        obtain ⟨_, hle⟩ := RcR.sb ha n s2 h2
        by_cases c1 : e = n
        · subst c1
          have s20 : s2 ≠ 0 := fun y0 => by
            rw [y0, s_zero] at e1
            rw [e1] at z1
            rw [y0] at h2
            exact z1 h2
          exact z3 s2 k ⟨by omega, hle⟩ hex hk e1.symm
        · have y2 : RcR a f (e + 1) s := Or.inr ⟨s2, hex.1, k, hk, e1⟩
          exact z1 (y2.up (by omega))
  | succ s ih =>
    intro m hsl hT hL
    have hs5 : s + 1 < 512 := by omega
    unfold L_X9_clear_71
    refine cf1 (nI_nle (by omega) (by omega)) ⟨s + 1, rfl, hs5, fun hc => ?_, fun hc => ?_⟩
    · rw [pk_m1]
      refine ih m (by omega) hT (fun s2 hs2 => ?_)
      rcases hL s2 hs2 with z | ⟨z1, z2 | ⟨z2, z3, z4⟩⟩
      · exact Or.inl z
      · exact Or.inr ⟨z1, Or.inl z2⟩
      · refine Or.inr ⟨z1, Or.inr ⟨z2, fun s3 k hp hex hk => ?_, z4⟩⟩
        by_cases c1 : s3 = s + 1
        · exfalso
          rw [c1] at hex
          rcases hL (s + 1) hs5 with ⟨d, d1, d2, d3⟩ | ⟨y1, _⟩
          · rw [d2.un hex] at d3
            exact hc d3
          · exact y1 hex.1
        · exact z3 s3 k ⟨by omega, hp.2⟩ hex hk
    · have hex : ExR a f (s + 1) n := by
        rcases hL (s + 1) hs5 with ⟨d, d1, d2, d3⟩ | ⟨y1, ⟨y2, _⟩ | ⟨y2, _⟩⟩
        · rw [d3] at hc
          have dn : d = n := (nI_eq (by omega) (by omega)).mp hc
          rw [← dn]; exact d2
        · rw [y2] at hc
          have := (nI_eq (by omega) (by omega)).mp hc
          omega
        · rw [y2] at hc
          exact absurd hc.symm (nI_nm1 (by omega))
      unfold W_X9_goesFrom
      refine ⟨24 * nm a + 1, l_goesFrom (Pz := fun s2 => s + 1 < s2 ∧ s2 ≤ stS a) ha hW h85 hn9 hex (fun m2 T2 L2 => ?_) (24 * nm a) 0 m (by omega) hT (fun s2 hs2 => ?_)⟩
      · rw [pk_m1]
        refine ih m2 (by omega) T2 (fun s2 hs2 => ?_)
        rcases L2 s2 hs2 with z | ⟨z1, z2 | ⟨z2, z3, z4⟩⟩
        · exact Or.inl z
        · exact Or.inr ⟨z1, Or.inl z2⟩
        · refine Or.inr ⟨z1, Or.inr ⟨z2, fun s3 k hp hex3 hk => ?_, fun k hk => by omega⟩⟩
          by_cases c1 : s3 = s + 1
          · rw [c1]; exact z4 k hk
          · exact z3 s3 k ⟨by omega, hp.2⟩ hex3 hk
      · rcases hL s2 hs2 with z | ⟨z1, z2 | ⟨z2, z3, z4⟩⟩
        · exact Or.inl z
        · exact Or.inr ⟨z1, Or.inl z2⟩
        · exact Or.inr ⟨z1, Or.inr ⟨z2, z3, fun k hk => by omega⟩⟩
set_option maxHeartbeats 4000000 in
theorem l_clear53 {a : Rw} {f p0 : Int32} {m0 : Mm} {K : Int32 → Mm → Prop} (ha : Wm a) (hW : Wt a) (h85 : ∀ j, j < 1433 → m0 85 j = a j) (hK : ∀ m v, Fr (fun q => q = 82 ∨ q = 83 ∨ (86 ≤ q ∧ q ≤ 87) ∨ q = 95 ∨ q = 96) m0 m → m 83 = a → (∀ j, j ≠ 4 → m 82 j = m0 82 j) → ClR a f v → K v m) : ∀ (r n : Nat) (m : Mm), n + r = 9 → ThR a m0 m → LvR a f n m → L_X9_clear_53 p0 K (r + 1) f (nI (stS a)) (nI n) m := by
  intro r
  have h9 := ha.2.1
  have hl := stS_lt ha
  have done : ∀ (n : Nat) (m : Mm), n ≤ 9 → ThR a m0 m → LvR a f n m → (0 ≤ m 87 0 ∨ n = 9) → B_X9_clear_106 p0 K m := by
    intro n m hn hT hL ho
    unfold B_X9_clear_106
    refine s_putsBack (a := a) (fun j hj => by rw [hT.1.c 85 (by omega) (by omega)]; exact h85 j hj) (fun j hj => hT.2.1 j (by unfold Kq; omega)) (fun m2 f2 e2 => ?_)
    have kk := fun v hv => hK m2 v (hT.1.trans (f2.mono (fun q hq => by omega))) e2 (fun j nj => by rw [f2.c 82 (by omega) (by omega)]; exact hT.2.2.2 j nj) hv
    rw [f2.c 87 (by omega) (by omega)]
    refine ⟨fun hc => kk _ ?_, fun hc => kk _ ?_⟩
    · rcases hL 0 (by omega) with ⟨d, d1, d2, d3⟩ | ⟨_, z2⟩
      · exact Or.inl ⟨d, d2, d3⟩
      · rw [z2] at hc; exact absurd hc (by decide)
    · rcases ho with ho | ho
      · exact absurd ho hc
      · subst ho
        rcases hL 0 (by omega) with ⟨d, d1, d2, d3⟩ | ⟨z1, _⟩
        · rw [d3] at hc; exact absurd (nI_pos' (by omega)) hc
        · exact Or.inr ⟨fun d y => z1 (y.nine ha), rfl⟩
  induction r with
  | zero =>
    intro n m hn hT hL
    have c0 : n = 9 := by omega
    unfold L_X9_clear_53
    exact ct1 (nI_le (a := 9) (by omega) (by omega)) (done n m (by omega) hT hL (Or.inr c0))
  | succ r ih =>
    intro n m hn hT hL
    unfold L_X9_clear_53
    refine cf1 (nI_ge (a := n) (b := 9) (by omega) (by omega)) ⟨fun hc => done n m (by omega) hT hL (Or.inl hc), fun hc => ⟨stS a + 1, ?_⟩⟩
    have nr : ¬ RcR a f n 0 := by
      rcases hL 0 (by omega) with ⟨d, d1, d2, d3⟩ | ⟨z1, _⟩
      · rw [d3] at hc; exact absurd (nI_pos' (by omega)) hc
      · exact z1
    refine l_clear71 ha hW h85 (by omega) nr (fun m2 T2 L2 => ih (n + 1) m2 (by omega) T2 L2) (stS a) m (Nat.le_refl _) hT (fun s hs => ?_)
    rcases hL s hs with z | ⟨z1, z2⟩
    · exact Or.inl z
    · exact Or.inr ⟨z1, Or.inr ⟨z2, fun s2 k hp => by omega, fun k hk => by omega⟩⟩
theorem l_clear24 {f p0 s : Int32} {m0 : Mm} {K : Int32 → Mm → Prop} (hK : ∀ m, (∀ q, q ≠ 87 → m q = m0 q) → (∀ i, i < 512 → m 87 i = -1) → ∃ i_50 : Nat, s = nI i_50 ∧ i_50 < 512 ∧ ∀ m_50 : Mm, m_50 = mu m 87 i_50 0 → ∃ nz : Nat, L_X9_clear_53 p0 K nz f s 0 m_50) : ∀ (d i : Nat) (m : Mm), i + d = 512 → (∀ q, q ≠ 87 → m q = m0 q) → (∀ i2, i2 < i → m 87 i2 = -1) → L_X9_clear_24 p0 K (d + 1) f s (nI i) m := by
  intro d
  induction d with
  | zero =>
    intro i m hi h1 h2
    have c0 : i = 512 := by omega
    subst c0
    unfold L_X9_clear_24
    exact ct1 (by decide) (hK m h1 h2)
  | succ d ih =>
    intro i m hi h1 h2
    unfold L_X9_clear_24
    refine cf1 (nI_ge (a := i) (b := 512) (by omega) (by omega)) ⟨i, rfl, by omega, fun m2 e2 => ?_⟩
    rw [nI_1]
    refine ih (i + 1) m2 (by omega) (fun q nq => ?_) (fun i2 hi2 => ?_)
    · rw [e2, mu_row_n _ _ _ nq]; exact h1 q nq
    · rw [e2, mu_row_s]
      by_cases c1 : i2 = i
      · rw [c1, pk_us]
      · rw [pk_un c1]; exact h2 i2 (by omega)
set_option maxHeartbeats 4000000 in
theorem ak_clear {c : Nat} (w0 : Int32) (mem : Mm) (h : Iv c mem) : W_X8_clear w0 mem (fun v m => W_X9_clear w0 m (fun v2 m2 => v = v2 ∧ Iv (c + 1) m2)) := by
  obtain ⟨hA, hR⟩ := h.1
  have hw := hR.1
  have hW := hR.2.1
  have h9 := hw.2.1
  have hl := stS_lt hw
  unfold W_X8_clear
  by_cases c0 : 0 ≤ w0 ∧ w0 ≤ 99
  · refine s_iw_y c0 ?_
    first | refine zt1 ?_ | refine zt2 ?_
    refine s_lookAt hw hW hA (fun m1 f1 T1 => ?_)
    refine s_fewest hw T1 (fun m2 v q2 hC => ?_)
    have f2 : Fr P40 mem m2 := f1.trans ⟨fun q p1 _ => q2 q (by omega) (by omega) (by omega), fun q p1 => by unfold iSt at p1; rw [q2 q (by omega) (by omega) (by omega)]⟩
    have q83 : m2 83 = mem 83 := f2.c 83 (by omega) (by omega)
    have q82 : m2 82 = mem 82 := f2.c 82 (by omega) (by omega)
    show W_X9_clear _ _ _
    unfold W_X9_clear
    refine s_in_y c0 ?_
    first | refine zt1 ?_ | refine zt2 ?_
    refine s_X9_standing (by rw [q83]; exact hw) ?_
    rw [q83]
    refine s_thinks (fun m3 f3 e3 => ?_)
    have g83 : m3 83 = mem 83 := by rw [f3.c 83 (by omega) (by omega)]; exact q83
    refine ⟨512 + 1, l_clear24 (fun m4 x1 x2 => ⟨stS (mem 83), rfl, hl, fun m5 e5 => ?_⟩) 512 0 m3 (by omega) (fun _ _ => rfl) (fun i2 hi2 => by omega)⟩
    have x5 : ∀ q, q ≠ 87 → m5 q = m3 q := fun q nq => by rw [e5, mu_row_n _ _ _ nq]; exact x1 q nq
    have f35 : Fr (fun q => q = 82 ∨ q = 83 ∨ (86 ≤ q ∧ q ≤ 87) ∨ q = 95 ∨ q = 96) m3 m5 := ⟨fun q p1 _ => x5 q (by omega), fun q p1 => by unfold iSt at p1; rw [x5 q (by omega)]⟩
    have g5 : m5 83 = mem 83 := by rw [x5 83 (by omega)]; exact g83
    refine ⟨9 + 1, l_clear53 (a := mem 83) (f := w0) (m0 := m3) hw hW (fun j hj => by rw [e3 j hj, q83]) (fun m6 v2 f6 e6 u6 hC2 => ⟨hC.un hC2, ?_⟩) 9 0 m5 (by omega) ⟨f35, by rw [g5]; exact fun q _ => rfl, by rw [g5]; exact hw, fun j nj => by rw [x5 82 (by omega)]⟩ (fun s hs => ?_)⟩
    · rw [e5, mu_row_s]
      by_cases c1 : s = stS (mem 83)
      · rw [c1, pk_us]
        exact Or.inl ⟨0, Nat.le_refl _, ⟨rfl, fun e he => by omega⟩, rfl⟩
      · rw [pk_un c1]
        exact Or.inr ⟨c1, x2 s hs⟩
    · refine h.sr f2 ((f3.mono (fun q hq => by omega)).trans (f6.mono (fun q hq => by omega))) e6 (fun j nj => ?_)
      rw [u6 j nj, f3.c 82 (by omega) (by omega), q82]
  · refine s_iw_n c0 ?_
    first | refine zf1 ?_ | refine zf2 ?_
    show W_X9_clear _ _ _
    unfold W_X9_clear
    refine s_in_n c0 ?_
    first | refine zf1 ?_ | refine zf2 ?_
    exact ⟨rfl, h.up⟩
