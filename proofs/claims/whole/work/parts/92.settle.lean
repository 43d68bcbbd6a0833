section
/-! THE REFERENCE'S STACKS -/
theorem tb_sg2 : ∀ s, s < 12 → (sg s = -11 ↔ s = 11) ∧ (sg s = -10 ↔ s = 10) := by decide +kernel
theorem s9_rank {s : Nat} {m : Mm} {K : Int32 → Mm → Prop} (h1 : 1 ≤ s) (h10 : s ≤ 10) (h : K (nI (rk s)) m) : W_X9_rank (sg s) m K := by
  have e : s = 1 ∨ s = 2 ∨ s = 3 ∨ s = 4 ∨ s = 5 ∨ s = 6 ∨ s = 7 ∨ s = 8 ∨ s = 9 ∨ s = 10 := by omega
  unfold W_X9_rank
  rcases e with rfl | rfl | rfl | rfl | rfl | rfl | rfl | rfl | rfl | rfl
  all_goals
    repeat' (first | exact h | exact ct1 (by decide) h | exact ct2 (by decide) h | refine ct1 (by decide) ?_ | refine cf1 (by decide) ?_ | refine cf2 (by decide) ?_)
def RSk (w : List Nat) (rc : List Int32) (m : Mm) : Prop := m 82 22 = nI w.length ∧ m 82 19 = nI rc.length ∧ Sk (m 93) (w.map sg) ∧ Sk (m 92) rc
def FpR (m m2 : Mm) : Prop := (∀ q, q ≠ 82 → q ≠ 92 → m2 q = m q) ∧ ∀ j, j ≠ 19 → j ≠ 22 → m2 82 j = m 82 j
theorem FpR.refl (m : Mm) : FpR m m := ⟨fun _ _ _ => rfl, fun _ _ _ => rfl⟩
theorem FpR.tr {m m2 m3 : Mm} (h : FpR m m2) (k : FpR m2 m3) : FpR m m3 := ⟨fun q a b => (k.1 q a b).trans (h.1 q a b), fun j a b => (k.2 j a b).trans (h.2 j a b)⟩
/-- one sign goes over -/
theorem s9_pop {s : Nat} {w : List Nat} {rc : List Int32} {m : Mm} {K : Mm → Prop} (hS : RSk (s :: w) rc m) (hl : rc.length + w.length < 95) (hK : ∀ m2 : Mm, RSk w (sg s :: rc) m2 → FpR m m2 → K m2) : ∀ m_48 : Mm, m_48 = mu m 82 22 ((m 82 22) - 1) → (∃ i_67 : Nat, (m_48 82 22) = nI i_67 ∧ i_67 < 96 ∧ (∃ i_68 : Nat, (m_48 82 19) = nI i_68 ∧ i_68 < 96 ∧ (∀ m_68 : Mm, m_68 = mu m_48 92 i_68 (m_48 93 i_67) → (∀ m_76 : Mm, m_76 = mu m_68 82 19 ((m_68 82 19) + 1) → K m_76)))) := by
  obtain ⟨h1, h2, h3, h4⟩ := hS
  have h1b : m 82 22 = nI (w.length + 1) := h1
  have h3b := h3.1
  rw [List.length_map] at h3b
  intro m1 e1
  rw [h1b, nI_pred] at e1
  have g22 : m1 82 22 = nI w.length := by rw [e1, mu_s]
  have g19 : m1 82 19 = nI rc.length := by rw [e1, mu_j _ _ _ (by omega)]; exact h2
  refine ⟨w.length, g22, by omega, rc.length, g19, by omega, fun m2 e2 m3 e3 => ?_⟩
  have g93 : m1 93 = m 93 := by rw [e1, mu_row_n _ _ _ (by omega)]
  rw [g93, h3b] at e2
  have k19 : m2 82 19 = nI rc.length := by rw [e2, mu_k _ _ _ (by omega)]; exact g19
  rw [k19, nI_1] at e3
  refine hK m3 ⟨?_, ?_, ?_, ?_⟩ ⟨fun q a b => ?_, fun j a b => ?_⟩
  · rw [e3, mu_j _ _ _ (by omega), e2, mu_k _ _ _ (by omega)]; exact g22
  · rw [e3, mu_s]; rfl
  · rw [e3, mu_row_n _ _ _ (by omega), e2, mu_row_n _ _ _ (by omega), g93]; exact h3.2
  · rw [e3, mu_row_n _ _ _ (by omega), e2, mu_row_s, e1, mu_row_n _ _ _ (by omega)]
    exact Sk.push h4
  · rw [e3, mu_row_n _ _ _ a, e2, mu_row_n _ _ _ b, e1, mu_row_n _ _ _ a]
  · rw [e3, mu_j _ _ _ a, e2, mu_k _ _ _ (by omega), e1, mu_j _ _ _ b]
theorem l9_settle {p : Nat} {m0 : Mm} {K : Mm → Prop} (hp : p ≤ 5) : ∀ (w : List Nat) (rc : List Int32) (b : Nat) (m : Mm), okw b w → b ≤ 6 → RSk w rc m → rc.length + w.length < 96 → FpR m0 m → (∀ m2 : Mm, RSk (pbW p w) (pbC p w rc) m2 → FpR m0 m2 → K m2) → L_X9_settle_0 (nI p) K (w.length + 1) (nI p) m := by
  intro w
  induction w with
  | nil =>
    intro rc b m _ _ hS _ hF hK
    unfold L_X9_settle_0
    rw [hS.1]
    first | refine ct1 (by decide) ?_ | refine ct2 (by decide) ?_
    exact hK m hS hF
  | cons s r ih =>
    intro rc b m ho hb hS hl hF hK
    have hl2 : rc.length + (r.length + 1) < 96 := hl
    have hSb := hS
    obtain ⟨h1, h2, h3, h4⟩ := hS
    have h3b := h3.1
    rw [List.length_map] at h3b
    have h1b : m 82 22 = nI (r.length + 1) := h1
    have hL : (s :: r).length = r.length + 1 := rfl
    have e22 : m 82 22 - 1 = nI r.length := by rw [h1b, nI_pred]
    rw [hL]
    unfold L_X9_settle_0
    first | refine cf1 (by rw [h1b]; exact nI_nle (by omega) (by omega)) ?_ | refine cf2 (by rw [h1b]; exact nI_nle (by omega) (by omega)) ?_
    refine ⟨r.length, e22, by omega, ?_⟩
    rw [h3b]
    unfold okw at ho
    by_cases c1 : s = 11
    · first | refine ct1 ((tb_sg2 s (by omega)).1.mpr c1) ?_ | refine ct2 ((tb_sg2 s (by omega)).1.mpr c1) ?_
      have e1 : pbW p (s :: r) = s :: r := by unfold pbW; rw [if_neg (by omega)]
      have e2 : pbC p (s :: r) rc = rc := by unfold pbC; rw [if_neg (by omega)]
      rw [e1, e2] at hK
      exact hK m hSb hF
    · rw [if_neg c1] at ho
      by_cases c2 : s = 10
      · rw [if_pos c2] at ho; omega
      · rw [if_neg c2] at ho
        have hr := rk_b ho.2.1
        first | refine cf1 (fun z => c1 ((tb_sg2 s (by omega)).1.mp z)) ?_ | refine cf2 (fun z => c1 ((tb_sg2 s (by omega)).1.mp z)) ?_
        refine ⟨r.length, e22, by omega, ?_⟩
        rw [h3b]
        refine s9_rank ho.1 (by omega) ?_
        by_cases c3 : p ≤ rk s
        · have e1 : pbW p (s :: r) = pbW p r := by show (if _ then _ else _) = _; rw [if_pos ⟨ho.2.1, c3⟩]
          have e2 : pbC p (s :: r) rc = pbC p r (sg s :: rc) := by show (if _ then _ else _) = _; rw [if_pos ⟨ho.2.1, c3⟩]
          rw [e1, e2] at hK
          first | refine cf1 (Int32.not_lt.mpr (nI_le c3 (by omega))) ?_ | refine cf2 (Int32.not_lt.mpr (nI_le c3 (by omega))) ?_
          exact s9_pop hSb (by omega) (fun m2 a1 a2 => ih (sg s :: rc) (rk s) m2 ho.2.2.2 (by omega) a1 (by rw [List.length_cons]; omega) (hF.tr a2) hK)
        · have e1 : pbW p (s :: r) = s :: r := by unfold pbW; rw [if_neg (by omega)]
          have e2 : pbC p (s :: r) rc = rc := by unfold pbC; rw [if_neg (by omega)]
          rw [e1, e2] at hK
          first | refine ct1 (nI_lt (by omega) (by omega)) ?_ | refine ct2 (nI_lt (by omega) (by omega)) ?_
          exact hK m hSb hF
theorem s9_settle {p b : Nat} {w : List Nat} {rc : List Int32} {m : Mm} {K : Mm → Prop} (hp : p ≤ 5) (ho : okw b w) (hb : b ≤ 6) (hS : RSk w rc m) (hl : rc.length + w.length < 96) (hK : ∀ m2 : Mm, RSk (pbW p w) (pbC p w rc) m2 → FpR m m2 → K m2) : W_X9_settle (nI p) m K := by
  unfold W_X9_settle
  exact ⟨w.length + 1, l9_settle hp w rc b m ho hb hS hl (FpR.refl m) hK⟩
theorem pb_01 : ∀ (w : List Nat) (rc : List Int32), pbW 0 w = pbW 1 w ∧ pbC 0 w rc = pbC 1 w rc := by
  intro w
  induction w with
  | nil => intro rc; exact ⟨rfl, rfl⟩
  | cons s r ih =>
    intro rc
    unfold pbW pbC
    by_cases c1 : s ≤ 9
    · have hr := rk_b c1
      rw [if_pos ⟨c1, by omega⟩, if_pos ⟨c1, by omega⟩, if_pos ⟨c1, by omega⟩, if_pos ⟨c1, by omega⟩]
      exact ih _
    · rw [if_neg (fun z => c1 z.1), if_neg (fun z => c1 z.1), if_neg (fun z => c1 z.1), if_neg (fun z => c1 z.1)]
      exact ⟨rfl, rfl⟩
theorem l9_settle6 {m0 : Mm} {K : Mm → Prop} : ∀ (w : List Nat) (rc : List Int32) (m : Mm), okw 7 w → RSk w rc m → rc.length + w.length < 96 → FpR m0 m → (∀ m2 : Mm, RSk (pnW w) (pnC w rc) m2 → FpR m0 m2 → K m2) → L_X9_settle_0 6 K (w.length + 1) 6 m := by
  intro w
  induction w with
  | nil =>
    intro rc m _ hS _ hF hK
    unfold L_X9_settle_0
    rw [hS.1]
    first | refine ct1 (by decide) ?_ | refine ct2 (by decide) ?_
    exact hK m hS hF
  | cons s r ih =>
    intro rc m ho hS hl hF hK
    have hl2 : rc.length + (r.length + 1) < 96 := hl
    have hSb := hS
    obtain ⟨h1, h2, h3, h4⟩ := hS
    have h3b := h3.1
    rw [List.length_map] at h3b
    have h1b : m 82 22 = nI (r.length + 1) := h1
    have hL : (s :: r).length = r.length + 1 := rfl
    have e22 : m 82 22 - 1 = nI r.length := by rw [h1b, nI_pred]
    rw [hL]
    unfold L_X9_settle_0
    first | refine cf1 (by rw [h1b]; exact nI_nle (by omega) (by omega)) ?_ | refine cf2 (by rw [h1b]; exact nI_nle (by omega) (by omega)) ?_
    refine ⟨r.length, e22, by omega, ?_⟩
    rw [h3b]
    unfold okw at ho
    by_cases c1 : s = 11
    · first | refine ct1 ((tb_sg2 s (by omega)).1.mpr c1) ?_ | refine ct2 ((tb_sg2 s (by omega)).1.mpr c1) ?_
      have e1 : pnW (s :: r) = s :: r := by unfold pnW; rw [if_neg (by omega)]
      have e2 : pnC (s :: r) rc = rc := by unfold pnC; rw [if_neg (by omega)]
      rw [e1, e2] at hK
      exact hK m hSb hF
    · rw [if_neg c1] at ho
      by_cases c2 : s = 10
      · rw [if_pos c2] at ho
        have e1 : pnW (s :: r) = pnW r := by show (if _ then _ else _) = _; rw [if_pos c2]
        have e2 : pnC (s :: r) rc = pnC r (sg 10 :: rc) := by show (if _ then _ else _) = _; rw [if_pos c2]
        rw [e1, e2] at hK
        subst c2
        first | refine cf1 (by decide) ?_ | refine cf2 (by decide) ?_
        refine ⟨r.length, e22, by omega, ?_⟩
        rw [h3b]
        refine s9_rank (by omega) (by omega) ?_
        first | refine cf1 (by decide) ?_ | refine cf2 (by decide) ?_
        exact s9_pop hSb (by omega) (fun m2 a1 a2 => ih (sg 10 :: rc) m2 ho.2 a1 (by rw [List.length_cons]; omega) (hF.tr a2) hK)
      · rw [if_neg c2] at ho
        have hr := rk_b ho.2.1
        have e1 : pnW (s :: r) = s :: r := by unfold pnW; rw [if_neg c2]
        have e2 : pnC (s :: r) rc = rc := by unfold pnC; rw [if_neg c2]
        rw [e1, e2] at hK
        first | refine cf1 (fun z => c1 ((tb_sg2 s (by omega)).1.mp z)) ?_ | refine cf2 (fun z => c1 ((tb_sg2 s (by omega)).1.mp z)) ?_
        refine ⟨r.length, e22, by omega, ?_⟩
        rw [h3b]
        refine s9_rank ho.1 (by omega) ?_
        first | refine ct1 (nI_lt (b := 6) (by omega) (by omega)) ?_ | refine ct2 (nI_lt (b := 6) (by omega) (by omega)) ?_
        exact hK m hSb hF
theorem s9_settle6 {w : List Nat} {rc : List Int32} {m : Mm} {K : Mm → Prop} (ho : okw 7 w) (hS : RSk w rc m) (hl : rc.length + w.length < 96) (hK : ∀ m2 : Mm, RSk (pnW w) (pnC w rc) m2 → FpR m m2 → K m2) : W_X9_settle 6 m K := by
  unfold W_X9_settle
  exact ⟨w.length + 1, l9_settle6 w rc m ho hS hl (FpR.refl m) hK⟩
def cnR (row : Nat → Int32) : Nat → Nat
  | 0 => 0
  | k + 1 => if row k = -10 then cnR row k + 1 else cnR row k
theorem okw.el : ∀ {w : List Nat} {b : Nat}, okw b w → ∀ s, s ∈ w → s < 12 := by
  intro w
  induction w with
  | nil => intro b _ s hs; cases hs
  | cons x r ih =>
    intro b h s hs
    unfold okw at h
    by_cases c1 : x = 11
    · rw [if_pos c1] at h
      cases hs with
      | head => omega
      | tail _ hs => exact ih h s hs
    · rw [if_neg c1] at h
      by_cases c2 : x = 10
      · rw [if_pos c2] at h
        cases hs with
        | head => omega
        | tail _ hs => exact ih h.2 s hs
      · rw [if_neg c2] at h
        cases hs with
        | head => omega
        | tail _ hs => exact ih h.2.2.2 s hs
theorem cnR_w {row : Nat → Int32} : ∀ (w : List Nat), (∀ s, s ∈ w → s < 12) → Sk row (w.map sg) → cnR row w.length = c10 w := by
  intro w
  induction w with
  | nil => intro _ _; rfl
  | cons s r ih =>
    intro he h
    have h3b := h.1
    rw [List.length_map] at h3b
    show (if row r.length = -10 then cnR row r.length + 1 else cnR row r.length) = (if s = 10 then c10 r + 1 else c10 r)
    rw [ih (fun s2 hs2 => he s2 (List.mem_cons_of_mem _ hs2)) h.2, h3b]
    have t := (tb_sg2 s (he s (List.mem_cons_self ..))).2
    by_cases c1 : s = 10
    · rw [if_pos (t.mpr c1), if_pos c1]
    · rw [if_neg (fun z => c1 (t.mp z)), if_neg c1]
theorem l9_nots {L : Nat} {m : Mm} {K : Int32 → Mm → Prop} (hL : m 82 22 = nI L) (hL9 : L < 96) (h : K (nI (cnR (m 93) L)) m) : ∀ (d i : Nat), i + d = L → L_X9_notsOpen_4 K (d + 1) (nI (cnR (m 93) i)) (nI i) m := by
  intro d
  induction d with
  | zero =>
    intro i hi
    unfold L_X9_notsOpen_4
    first | refine ct1 (by rw [hL]; exact nI_le (by omega) (by omega)) ?_ | refine ct2 (by rw [hL]; exact nI_le (by omega) (by omega)) ?_
    rw [show i = L by omega]
    exact h
  | succ d ih =>
    intro i hi
    have z := ih (i + 1) (by omega)
    have e : cnR (m 93) (i + 1) = if m 93 i = -10 then cnR (m 93) i + 1 else cnR (m 93) i := rfl
    rw [e] at z
    unfold L_X9_notsOpen_4
    first | refine cf1 (by rw [hL]; exact nI_ge (by omega) (by omega)) ?_ | refine cf2 (by rw [hL]; exact nI_ge (by omega) (by omega)) ?_
    refine ⟨i, rfl, by omega, ?_⟩
    by_cases c1 : m 93 i = -10
    · rw [if_pos c1] at z
      first | refine ct1 c1 ?_ | refine ct2 c1 ?_
      rw [nI_1, nI_1]
      exact z
    · rw [if_neg c1] at z
      first | refine cf1 c1 ?_ | refine cf2 c1 ?_
      rw [Int32.add_zero, nI_1]
      exact z
theorem s9_nots {w : List Nat} {rc : List Int32} {b : Nat} {m : Mm} {K : Int32 → Mm → Prop} (hS : RSk w rc m) (ho : okw b w) (hl : w.length < 96) (h : K (nI (c10 w)) m) : W_X9_notsOpen m K := by
  unfold W_X9_notsOpen
  rw [← cnR_w w ho.el hS.2.2.1] at h
  exact ⟨w.length + 1, l9_nots hS.1 hl h w.length 0 (by omega)⟩
/-! comparing signs, part by part -/
def aft : List Nat → List Nat
  | [] => []
  | s :: r => if s = 11 then r else aft r
def lvd : Nat → List Nat → List Nat
  | 0, w => w
  | k + 1, w => lvd k (aft w)
def TsR (w : List Nat) (row : Nat → Int32) : Prop := ∀ j, j ≤ c11 w → (row (c11 w - j) ≠ 0 ↔ tst (lvd j w) = true)
theorem TsR.of {w w2 : List Nat} {row : Nat → Int32} (h : TsR w row) (hc : c11 w2 = c11 w) (ht : tst w2 = tst w) (ha : aft w2 = aft w) : TsR w2 row := by
  intro j hj
  rw [hc] at hj ⊢
  have z := h j hj
  cases j with
  | zero =>
    rw [show lvd 0 w2 = w2 from rfl, ht]
    exact z
  | succ j =>
    rw [show lvd (j + 1) w2 = lvd j (aft w2) from rfl, ha]
    exact z
theorem TsR.opn {w : List Nat} {row : Nat → Int32} (h : TsR w row) : TsR (11 :: w) (upd row (c11 w + 1) 0) := by
  intro j hj
  have hc : c11 (11 :: w) = c11 w + 1 := rfl
  rw [hc] at hj ⊢
  cases j with
  | zero =>
    rw [Nat.sub_zero, pk_us]
    exact ⟨fun z => absurd rfl z, fun z => by cases z⟩
  | succ j =>
    rw [show c11 w + 1 - (j + 1) = c11 w - j by omega, pk_un (by omega)]
    exact h j (by omega)
theorem TsR.set {w w2 : List Nat} {row : Nat → Int32} {v : Int32} (h : TsR w row) (hc : c11 w2 = c11 w) (ht : v ≠ 0 ↔ tst w2 = true) (ha : aft w2 = aft w) : TsR w2 (upd row (c11 w) v) := by
  intro j hj
  rw [hc] at hj ⊢
  cases j with
  | zero =>
    rw [Nat.sub_zero, pk_us]
    exact ht
  | succ j =>
    rw [pk_un (by omega), show lvd (j + 1) w2 = lvd j (aft w2) from rfl, ha]
    exact h (j + 1) hj
theorem TsR.cls {w r : List Nat} {row : Nat → Int32} (h : TsR w row) (hc : c11 w = c11 r + 1) (ha : aft w = r) : TsR r row := by
  intro j hj
  have z := h (j + 1) (by omega)
  rw [show c11 w - (j + 1) = c11 r - j by omega, show lvd (j + 1) w = lvd j (aft w) from rfl, ha] at z
  exact z
theorem pn_ts : ∀ w : List Nat, c11 (pnW w) = c11 w ∧ tst (pnW w) = tst w ∧ aft (pnW w) = aft w := by
  intro w
  induction w with
  | nil => exact ⟨rfl, rfl, rfl⟩
  | cons s r ih =>
    by_cases c2 : s = 10
    · subst c2
      exact ih
    · have e1 : pnW (s :: r) = s :: r := by unfold pnW; rw [if_neg c2]
      rw [e1]
      exact ⟨rfl, rfl, rfl⟩
theorem pb_aft (p : Nat) : ∀ w : List Nat, aft (pbW p w) = aft w := by
  intro w
  induction w with
  | nil => rfl
  | cons s r ih =>
    unfold pbW
    by_cases c1 : s ≤ 9 ∧ p ≤ rk s
    · rw [if_pos c1, ih]
      show _ = (if s = 11 then r else aft r)
      rw [if_neg (by omega)]
    · rw [if_neg c1]
theorem pb_t4 {p : Nat} (hp : 4 ≤ p) : ∀ w : List Nat, tst (pbW p w) = tst w := by
  intro w
  induction w with
  | nil => rfl
  | cons s r ih =>
    unfold pbW
    by_cases c1 : s ≤ 9 ∧ p ≤ rk s
    · rw [if_pos c1, ih]
      show _ = (if s = 11 then false else if rk s = 3 then true else tst r)
      rw [if_neg (by omega), if_neg (by omega)]
    · rw [if_neg c1]
theorem tst_cons {s : Nat} {r : List Nat} (hs : s ≤ 9) : tst (s :: r) = if rk s = 3 then true else tst r := by
  show (if s = 11 then false else if rk s = 3 then true else tst r) = _
  rw [if_neg (by omega)]
/-! one of the names; one of the signs -/
theorem s9_name {key b : Nat} {m : Mm} {K : Int32 → Mm → Prop} (hk : key < 3) (hb : b < 256) (h15 : m 82 15 = nI key) (h : K (if nmK key b = 9 then -1 else nI (nmK key b)) m) : W_X9_nameOf (nI b) m K := by
  have no : ∀ x : Nat, x < 256 → b ≠ x → ¬ nI b = nI x := fun x hx hq z => hq ((nI_eq (by omega) (by omega)).mp z)
  unfold W_X9_nameOf
  rw [h15]
  have e : key = 0 ∨ key = 1 ∨ key = 2 := by omega
  rcases e with rfl | rfl | rfl
  · first | refine ct1 (by decide) ?_ | refine ct2 (by decide) ?_
    by_cases d1 : b = 110
    · subst d1; first | exact ct1 (by decide) h | exact ct2 (by decide) h
    first | refine cf1 (no 110 (by omega) d1) ?_ | refine cf2 (no 110 (by omega) d1) ?_
    by_cases d2 : b = 119
    · subst d2; first | exact ct1 (by decide) h | exact ct2 (by decide) h
    first | refine cf1 (no 119 (by omega) d2) ?_ | refine cf2 (no 119 (by omega) d2) ?_
    by_cases d3 : b = 102
    · subst d3; first | exact ct1 (by decide) h | exact ct2 (by decide) h
    first | refine cf1 (no 102 (by omega) d3) ?_ | refine cf2 (no 102 (by omega) d3) ?_
    by_cases d4 : b = 115
    · subst d4; first | exact ct1 (by decide) h | exact ct2 (by decide) h
    first | refine cf1 (no 115 (by omega) d4) ?_ | refine cf2 (no 115 (by omega) d4) ?_
    have q : nmK 0 b = 9 := by unfold nmK; rw [if_pos rfl, if_neg d1, if_neg d2, if_neg d3, if_neg d4]
    rw [if_pos q] at h
    exact h
  · first | refine cf1 (by decide) ?_ | refine cf2 (by decide) ?_
    first | refine ct1 (by decide) ?_ | refine ct2 (by decide) ?_
    by_cases d3 : b = 102
    · subst d3; first | exact ct1 (by decide) h | exact ct2 (by decide) h
    first | refine cf1 (no 102 (by omega) d3) ?_ | refine cf2 (no 102 (by omega) d3) ?_
    by_cases d4 : b = 115
    · subst d4; first | exact ct1 (by decide) h | exact ct2 (by decide) h
    first | refine cf1 (no 115 (by omega) d4) ?_ | refine cf2 (no 115 (by omega) d4) ?_
    have q : nmK 1 b = 9 := by unfold nmK; rw [if_neg (by decide), if_pos rfl, if_neg d3, if_neg d4]
    rw [if_pos q] at h
    exact h
  · first | refine cf1 (by decide) ?_ | refine cf2 (by decide) ?_
    first | refine cf1 (by decide) ?_ | refine cf2 (by decide) ?_
    by_cases d1 : b = 110
    · subst d1; first | exact ct1 (by decide) h | exact ct2 (by decide) h
    first | refine cf1 (no 110 (by omega) d1) ?_ | refine cf2 (no 110 (by omega) d1) ?_
    by_cases d2 : b = 119
    · subst d2; first | exact ct1 (by decide) h | exact ct2 (by decide) h
    first | refine cf1 (no 119 (by omega) d2) ?_ | refine cf2 (no 119 (by omega) d2) ?_
    have q : nmK 2 b = 9 := by unfold nmK; rw [if_neg (by decide), if_neg (by decide), if_neg d1, if_neg d2]
    rw [if_pos q] at h
    exact h
theorem s9_sign {b : Nat} {m : Mm} {K : Int32 → Mm → Prop} (hb : b < 256) (h12 : m 82 12 = 3) (h13 : m 82 13 = nI b) (h : K (sg (sgB b)) m) : W_X9_signHere m K := by
  have no : ∀ x : Nat, x < 256 → b ≠ x → ¬ nI b = nI x := fun x hx hq z => hq ((nI_eq (by omega) (by omega)).mp z)
  unfold W_X9_signHere
  rw [h12, h13]
  first | refine ct1 (by decide) ?_ | refine ct2 (by decide) ?_
  by_cases d2 : b = 38
  · subst d2; first | exact ct1 (by decide) h | exact ct2 (by decide) h
  first | refine cf1 (no 38 (by omega) d2) ?_ | refine cf2 (no 38 (by omega) d2) ?_
  by_cases d8 : b = 42
  · subst d8; first | exact ct1 (by decide) h | exact ct2 (by decide) h
  first | refine cf1 (no 42 (by omega) d8) ?_ | refine cf2 (no 42 (by omega) d8) ?_
  by_cases d6 : b = 43
  · subst d6; first | exact ct1 (by decide) h | exact ct2 (by decide) h
  first | refine cf1 (no 43 (by omega) d6) ?_ | refine cf2 (no 43 (by omega) d6) ?_
  by_cases d7 : b = 45
  · subst d7; first | exact ct1 (by decide) h | exact ct2 (by decide) h
  first | refine cf1 (no 45 (by omega) d7) ?_ | refine cf2 (no 45 (by omega) d7) ?_
  by_cases d9 : b = 47
  · subst d9; first | exact ct1 (by decide) h | exact ct2 (by decide) h
  first | refine cf1 (no 47 (by omega) d9) ?_ | refine cf2 (no 47 (by omega) d9) ?_
  by_cases d3 : b = 60
  · subst d3; first | exact ct1 (by decide) h | exact ct2 (by decide) h
  first | refine cf1 (no 60 (by omega) d3) ?_ | refine cf2 (no 60 (by omega) d3) ?_
  by_cases d4 : b = 61
  · subst d4; first | exact ct1 (by decide) h | exact ct2 (by decide) h
  first | refine cf1 (no 61 (by omega) d4) ?_ | refine cf2 (no 61 (by omega) d4) ?_
  by_cases d5 : b = 62
  · subst d5; first | exact ct1 (by decide) h | exact ct2 (by decide) h
  first | refine cf1 (no 62 (by omega) d5) ?_ | refine cf2 (no 62 (by omega) d5) ?_
  by_cases d1 : b = 124
  · subst d1; first | exact ct1 (by decide) h | exact ct2 (by decide) h
  first | refine cf1 (no 124 (by omega) d1) ?_ | refine cf2 (no 124 (by omega) d1) ?_
  have q : sgB b = 0 := by unfold sgB; rw [if_neg d1, if_neg d2, if_neg d3, if_neg d4, if_neg d5, if_neg d6, if_neg d7, if_neg d8, if_neg d9]
  rw [q] at h
  exact h
end
