section
/-! THE CLASS'S STACKS -/
theorem ch_all : ∀ s, s < 12 → ((chS s = 33) ↔ s = 10) := by decide +kernel
theorem s7_tight {s : Nat} {m : Mm} {K : Int32 → Mm → Prop} (h1 : 1 ≤ s) (h11 : s ≤ 11) (h : K (nI (if s ≤ 9 then rk s else 0)) m) : W_X7_tightnessOf (chS s) m K := by
  have e : s = 1 ∨ s = 2 ∨ s = 3 ∨ s = 4 ∨ s = 5 ∨ s = 6 ∨ s = 7 ∨ s = 8 ∨ s = 9 ∨ s = 10 ∨ s = 11 := by omega
  unfold W_X7_tightnessOf
  rcases e with rfl | rfl | rfl | rfl | rfl | rfl | rfl | rfl | rfl | rfl | rfl
  all_goals
    repeat' (first | exact h | exact ct1 (by decide) h | refine cf1 (by decide) ?_)
def CSk (w : List Nat) (rc : List Int32) (m : Mm) : Prop := m 45 11 = nI w.length ∧ m 45 13 = nI rc.length ∧ Sk (m 48) (w.map chS) ∧ Sk (m 49) (rc.map trS)
def Fpp (m m2 : Mm) : Prop := (∀ q, q ≠ 45 → q ≠ 49 → m2 q = m q) ∧ ∀ j, j ≠ 9 → j ≠ 11 → j ≠ 13 → m2 45 j = m 45 j
theorem Fpp.refl (m : Mm) : Fpp m m := ⟨fun _ _ _ => rfl, fun _ _ _ _ => rfl⟩
theorem Fpp.tr {m m2 m3 : Mm} (h : Fpp m m2) (k : Fpp m2 m3) : Fpp m m3 := ⟨fun q a b => (k.1 q a b).trans (h.1 q a b), fun j a b c => (k.2 j a b c).trans (h.2 j a b c)⟩
theorem s7_emit {w : List Nat} {rc : List Int32} {v : Int32} {m : Mm} {K : Mm → Prop} (hS : CSk w rc m) (hl : rc.length < 96) (hK : ∀ m2 : Mm, CSk w (v :: rc) m2 → Fpp m m2 → m2 45 9 = m 45 9 → K m2) : W_X7_emit (trS v) m K := by
  obtain ⟨h1, h2, h3, h4⟩ := hS
  unfold W_X7_emit
  rw [h2]
  first | refine cf1 (nI_ge (b := 96) hl (by omega)) ?_ | refine cf2 (nI_ge (b := 96) hl (by omega)) ?_
  refine ⟨rc.length, rfl, hl, fun m2 e2 m3 e3 => ?_⟩
  have g13 : m2 45 13 = nI rc.length := by rw [e2, mu_k _ _ _ (by omega)]; exact h2
  rw [g13, nI_1] at e3
  have r49 : m3 49 = upd (m 49) rc.length (trS v) := by
    rw [e3, mu_row_n _ _ _ (by omega), e2]
    exact mu_row_s _ _ _ _
  have r48 : m3 48 = m 48 := by rw [e3, mu_row_n _ _ _ (by omega), e2, mu_row_n _ _ _ (by omega)]
  have r47 : ∀ j, j ≠ 13 → m3 45 j = m 45 j := fun j nj => by rw [e3, mu_j _ _ _ nj, e2, mu_k _ _ _ (by omega)]
  refine hK m3 ⟨by rw [r47 11 (by omega)]; exact h1, by rw [e3, mu_s]; rfl, by rw [r48]; exact h3, ?_⟩ ⟨fun q a b => ?_, fun j _ _ a => r47 j a⟩ (r47 9 (by omega))
  · rw [r49]
    show Sk (upd (m 49) rc.length (trS v)) (trS v :: rc.map trS)
    have z := Sk.push (v := trS v) h4
    rw [List.length_map] at z
    exact z
  · rw [e3, mu_row_n _ _ _ a, e2, mu_row_n _ _ _ b]
theorem s7_popSign {s : Nat} {w : List Nat} {rc : List Int32} {m : Mm} {K : Mm → Prop} (hS : CSk (s :: w) rc m) (hs : s < 11) (hl : rc.length + w.length < 95) (hK : ∀ m2 : Mm, CSk w (sg s :: rc) m2 → Fpp m m2 → m2 45 9 = m 45 9 → K m2) : W_X7_popSign m K := by
  obtain ⟨h1, h2, h3, h4⟩ := hS
  have h1b : m 45 11 = nI (w.length + 1) := h1
  unfold W_X7_popSign
  rw [h1b]
  first | refine cf1 (nI_nle (by omega) (by omega)) ?_ | refine cf2 (nI_nle (by omega) (by omega)) ?_
  rw [nI_pred]
  intro m2 e2
  have g11 : m2 45 11 = nI w.length := by rw [e2, mu_s]
  have g48 : m2 48 = m 48 := by rw [e2, mu_row_n _ _ _ (by omega)]
  have g : ∀ j, j ≠ 11 → m2 45 j = m 45 j := fun j nj => by rw [e2, mu_j _ _ _ nj]
  refine ⟨w.length, g11, by omega, ?_⟩
  show W_X7_emit (-(m2 48 w.length)) m2 _
  have h3b := h3.1
  rw [List.length_map] at h3b
  rw [g48, h3b, ← tr_sg s hs]
  refine s7_emit (w := w) (rc := rc) ⟨g11, by rw [g 13 (by omega)]; exact h2, by rw [g48]; exact h3.2, by rw [e2, mu_row_n _ _ _ (by omega)]; exact h4⟩ (by omega) (fun m3 a1 a2 a3 => hK m3 a1 (Fpp.tr ⟨fun q a b => by rw [e2, mu_row_n _ _ _ a], fun j _ b _ => g j b⟩ a2) (by rw [a3]; exact g 9 (by omega)))
theorem l7_pops {p : Nat} {m0 : Mm} {K : Mm → Prop} (hp : 1 ≤ p) (hp7 : p ≤ 7) : ∀ (w : List Nat) (rc : List Int32) (b : Nat) (m : Mm), okw b w → b ≤ 6 → CSk w rc m → rc.length + w.length < 96 → Fpp m0 m → m 45 9 = m0 45 9 → (∀ m2 : Mm, CSk (pbW p w) (pbC p w rc) m2 → Fpp m0 m2 → m2 45 9 = m0 45 9 → K m2) → L_X7_popSignsFrom_5 (nI p) K (w.length + 1) (nI p) (nI w.length) m := by
  intro w
  induction w with
  | nil =>
    intro rc b m _ _ hS _ hF h9 hK
    unfold L_X7_popSignsFrom_5
    first | refine ct1 (by decide) ?_ | refine ct2 (by decide) ?_
    exact hK m hS hF h9
  | cons s r ih =>
    intro rc b m ho hb hS hl hF h9 hK
    have hl2 : rc.length + (r.length + 1) < 96 := hl
    have hSb := hS
    obtain ⟨h1, h2, h3, h4⟩ := hS
    have h3b := h3.1
    rw [List.length_map] at h3b
    have hL : (s :: r).length = r.length + 1 := rfl
    rw [hL]
    unfold L_X7_popSignsFrom_5
    first | refine cf1 (nI_nle (by omega) (by omega)) ?_ | refine cf2 (nI_nle (by omega) (by omega)) ?_
    rw [nI_pred]
    refine ⟨r.length, rfl, by omega, ?_⟩
    show W_X7_tightnessOf (m 48 r.length) m _
    rw [h3b]
    unfold okw at ho
    by_cases c1 : s = 11
    · refine s7_tight (by omega) (by omega) ?_
      rw [if_neg (by omega)]
      first | refine ct1 (nI_lt (a := 0) (by omega) (by omega)) ?_ | refine ct2 (nI_lt (a := 0) (by omega) (by omega)) ?_
      have e1 : pbW p (s :: r) = s :: r := by unfold pbW; rw [if_neg (by omega)]
      have e2 : pbC p (s :: r) rc = rc := by unfold pbC; rw [if_neg (by omega)]
      rw [e1, e2] at hK
      exact hK m hSb hF h9
    · rw [if_neg c1] at ho
      by_cases c2 : s = 10
      · rw [if_pos c2] at ho; omega
      · rw [if_neg c2] at ho
        have hr := rk_b ho.2.1
        refine s7_tight ho.1 (by omega) ?_
        rw [if_pos ho.2.1]
        by_cases c3 : p ≤ rk s
        · have e1 : pbW p (s :: r) = pbW p r := by show (if _ then _ else _) = _; rw [if_pos ⟨ho.2.1, c3⟩]
          have e2 : pbC p (s :: r) rc = pbC p r (sg s :: rc) := by show (if _ then _ else _) = _; rw [if_pos ⟨ho.2.1, c3⟩]
          rw [e1, e2] at hK
          first | refine cf1 (Int32.not_lt.mpr (nI_le c3 (by omega))) ?_ | refine cf2 (Int32.not_lt.mpr (nI_le c3 (by omega))) ?_
          refine s7_popSign hSb (by omega) (by omega) (fun m2 a1 a2 a3 => ?_)
          rw [pk_m1]
          exact ih (sg s :: rc) (rk s) m2 ho.2.2.2 (by omega) a1 (by rw [List.length_cons]; omega) (hF.tr a2) (a3.trans h9) hK
        · have e1 : pbW p (s :: r) = s :: r := by unfold pbW; rw [if_neg (by omega)]
          have e2 : pbC p (s :: r) rc = rc := by unfold pbC; rw [if_neg (by omega)]
          rw [e1, e2] at hK
          first | refine ct1 (nI_lt (by omega) (by omega)) ?_ | refine ct2 (nI_lt (by omega) (by omega)) ?_
          exact hK m hSb hF h9
theorem s7_pops {p b : Nat} {w : List Nat} {rc : List Int32} {m : Mm} {K : Mm → Prop} (hp : 1 ≤ p) (hp7 : p ≤ 7) (ho : okw b w) (hb : b ≤ 6) (hS : CSk w rc m) (hl : rc.length + w.length < 96) (hK : ∀ m2 : Mm, CSk (pbW p w) (pbC p w rc) m2 → Fpp m m2 → m2 45 9 = m 45 9 → K m2) : W_X7_popSignsFrom (nI p) m K := by
  unfold W_X7_popSignsFrom
  refine ⟨w.length + 1, ?_⟩
  rw [hS.1]
  exact l7_pops hp hp7 w rc b m ho hb hS hl (Fpp.refl m) rfl hK
theorem l7_endp {m0 : Mm} {K : Mm → Prop} : ∀ (w : List Nat) (rc : List Int32) (m : Mm), okw 7 w → CSk w rc m → rc.length + w.length < 96 → m 45 9 = nI (c10 w) → Fpp m0 m → (∀ m2 : Mm, CSk (pnW w) (pnC w rc) m2 → m2 45 9 = nI (c10 (pnW w)) → Fpp m0 m2 → K m2) → L_X7_endPiece_10 K (w.length + 1) (nI w.length) m := by
  intro w
  induction w with
  | nil =>
    intro rc m _ hS _ h9 hF hK
    unfold L_X7_endPiece_10
    first | refine ct1 (by decide) ?_ | refine ct2 (by decide) ?_
    exact hK m hS h9 hF
  | cons s r ih =>
    intro rc m ho hS hl h9 hF hK
    have hl2 : rc.length + (r.length + 1) < 96 := hl
    have hSb := hS
    obtain ⟨h1, h2, h3, h4⟩ := hS
    have h3b := h3.1
    rw [List.length_map] at h3b
    have hL : (s :: r).length = r.length + 1 := rfl
    have hs12 : s < 12 := by
      unfold okw at ho
      by_cases c1 : s = 11
      · omega
      · rw [if_neg c1] at ho
        by_cases c2 : s = 10
        · omega
        · rw [if_neg c2] at ho; omega
    rw [hL]
    unfold L_X7_endPiece_10
    first | refine cf1 (nI_nle (by omega) (by omega)) ?_ | refine cf2 (nI_nle (by omega) (by omega)) ?_
    rw [nI_pred]
    refine ⟨r.length, rfl, by omega, ?_⟩
    show (¬ (m 48 r.length) = 33 → _) ∧ ((m 48 r.length) = 33 → _)
    rw [h3b]
    by_cases c2 : s = 10
    · have e1 : pnW (s :: r) = pnW r := by show (if _ then _ else _) = _; rw [if_pos c2]
      have e2 : pnC (s :: r) rc = pnC r (sg 10 :: rc) := by show (if _ then _ else _) = _; rw [if_pos c2]
      have q2 : c10 (s :: r) = c10 r + 1 := by show (if _ then _ else _) = _; rw [if_pos c2]
      rw [e1, e2] at hK
      unfold okw at ho
      rw [if_neg (by omega), if_pos c2] at ho
      first | refine ct1 ((ch_all s hs12).mpr c2) ?_ | refine ct2 ((ch_all s hs12).mpr c2) ?_
      refine s7_popSign hSb (by omega) (by omega) (fun m2 a1 a2 a3 m3 e3 => ?_)
      rw [a3, h9, q2, nI_pred] at e3
      rw [pk_m1]
      rw [c2] at a1
      have g : ∀ j, j ≠ 9 → m3 45 j = m2 45 j := fun j nj => by rw [e3, mu_j _ _ _ nj]
      have gq : ∀ q, q ≠ 45 → m3 q = m2 q := fun q nq => by rw [e3, mu_row_n _ _ _ nq]
      refine ih (sg 10 :: rc) m3 ho.2 ⟨by rw [g 11 (by omega)]; exact a1.1, by rw [g 13 (by omega)]; exact a1.2.1, by rw [gq 48 (by omega)]; exact a1.2.2.1, by rw [gq 49 (by omega)]; exact a1.2.2.2⟩ (by rw [List.length_cons]; omega) (by rw [e3, mu_s]) ((hF.tr a2).tr ⟨fun q a _ => gq q a, fun j a _ _ => g j a⟩) hK
    · have e1 : pnW (s :: r) = s :: r := by unfold pnW; rw [if_neg c2]
      have e2 : pnC (s :: r) rc = rc := by unfold pnC; rw [if_neg c2]
      rw [e1, e2] at hK
      first | refine cf1 (fun z => c2 ((ch_all s hs12).mp z)) ?_ | refine cf2 (fun z => c2 ((ch_all s hs12).mp z)) ?_
      exact hK m hSb h9 hF
/-- what the class keeps between two words -/
def CSt (key : Nat) (wt : Bool) (w : List Nat) (rc : List Int32) (a : Nat) (m : Mm) : Prop := m 45 5 = bZ wt ∧ m 45 6 = nI key ∧ m 45 7 = nI a ∧ m 45 8 = nI (c11 w) ∧ m 45 9 = nI (c10 w) ∧ CSk w rc m
def Fcl (m m2 : Mm) : Prop := (∀ q, q < 45 ∨ 49 < q ∨ q = 46 ∨ q = 47 → m2 q = m q) ∧ ∀ j, j < 5 → m2 45 j = m 45 j
theorem Fpp.cl {m m2 : Mm} (h : Fpp m m2) : Fcl m m2 := ⟨fun q hq => h.1 q (by omega) (by omega), fun j hj => h.2 j (by omega) (by omega) (by omega)⟩
theorem Fcl.tr {m m2 m3 : Mm} (h : Fcl m m2) (k : Fcl m2 m3) : Fcl m m3 := ⟨fun q a => (k.1 q a).trans (h.1 q a), fun j a => (k.2 j a).trans (h.2 j a)⟩
theorem Fcl.f {m m2 : Mm} {j : Nat} {v : Int32} (e : m2 = mu m 45 j v) (hj : 5 ≤ j) : Fcl m m2 := ⟨fun q hq => by rw [e, mu_row_n _ _ _ (by omega)], fun i hi => by rw [e, mu_j _ _ _ (by omega)]⟩
theorem CSk.f {w : List Nat} {rc : List Int32} {m m2 : Mm} {j : Nat} {v : Int32} (h : CSk w rc m) (e : m2 = mu m 45 j v) (h1 : j ≠ 11) (h3 : j ≠ 13) : CSk w rc m2 := by
  unfold CSk
  rw [e, mu_j _ _ _ (Ne.symm h1), mu_j _ _ _ (Ne.symm h3), mu_row_n _ _ _ (by omega), mu_row_n _ _ _ (by omega)]
  exact h
theorem s7_endPiece {key a : Nat} {w : List Nat} {rc : List Int32} {m : Mm} {K : Mm → Prop} (ho : okw 7 w) (hS : CSk w rc m) (hl : rc.length + w.length < 96) (h6 : m 45 6 = nI key) (h7 : m 45 7 = nI a) (h8 : m 45 8 = nI (c11 w)) (h9 : m 45 9 = nI (c10 w)) (hK : ∀ m2 : Mm, CSt key false (pnW w) (pnC w rc) a m2 → Fcl m m2 → K m2) : W_X7_endPiece m K := by
  unfold W_X7_endPiece
  intro m1 e1
  have hS1 := hS.f e1 (by omega) (by omega)
  have g : ∀ j, j ≠ 5 → m1 45 j = m 45 j := fun j nj => by rw [e1, mu_j _ _ _ nj]
  refine ⟨w.length + 1, ?_⟩
  rw [hS1.1]
  refine l7_endp (m0 := m1) w rc m1 ho hS1 hl (by rw [g 9 (by omega)]; exact h9) (Fpp.refl _) (fun m2 a1 a2 a3 => hK m2 ⟨?_, ?_, ?_, ?_, a2, a1⟩ ((Fcl.f e1 (by omega)).tr a3.cl))
  · rw [a3.2 5 (by omega) (by omega) (by omega), e1, mu_s]; rfl
  · rw [a3.2 6 (by omega) (by omega) (by omega), g 6 (by omega)]; exact h6
  · rw [a3.2 7 (by omega) (by omega) (by omega), g 7 (by omega)]; exact h7
  · rw [a3.2 8 (by omega) (by omega) (by omega), g 8 (by omega), h8]
    have z : ∀ u : List Nat, c11 (pnW u) = c11 u := by
      intro u
      induction u with
      | nil => rfl
      | cons s r ih =>
        show c11 (if s = 10 then pnW r else s :: r) = _
        by_cases c2 : s = 10
        · rw [if_pos c2, ih]
          show _ = (if s = 11 then c11 r + 1 else c11 r)
          rw [if_neg (by omega)]
        · rw [if_neg c2]
    rw [z]
theorem s7_takesValue {key a q : Nat} {w : List Nat} {rc : List Int32} {m : Mm} {K : Bool → Mm → Prop} (ho : okw 7 w) (hS : CSt key true w rc a m) (hl : rc.length + w.length < 95) (hq : q < 2 ^ 31) (hK : ∀ m2 : Mm, CSt key false (pnW w) (pnC w (nI q :: rc)) (a + 1) m2 → Fcl m m2 → K true m2) : W_X7_takesValue (nI q) m K := by
  obtain ⟨h5, h6, h7, h8, h9, hk⟩ := hS
  unfold W_X7_takesValue
  rw [h7, nI_1]
  intro m1 e1
  have hk1 := hk.f e1 (by omega) (by omega)
  have g : ∀ j, j ≠ 7 → m1 45 j = m 45 j := fun j nj => by rw [e1, mu_j _ _ _ nj]
  have z := s7_emit (v := nI q) (K := fun m_12 => W_X7_endPiece m_12 (fun m_16 => K true m_16)) hk1 (by omega) (fun m2 a1 a2 a3 => s7_endPiece (key := key) (a := a + 1) ho a1 (by rw [List.length_cons]; omega) (by rw [a2.2 6 (by omega) (by omega) (by omega), g 6 (by omega)]; exact h6) (by rw [a2.2 7 (by omega) (by omega) (by omega), e1, mu_s]) (by rw [a2.2 8 (by omega) (by omega) (by omega), g 8 (by omega)]; exact h8) (by rw [a3, g 9 (by omega)]; exact h9) (fun m3 b1 b2 => hK m3 b1 (((Fcl.f e1 (by omega)).tr a2.cl).tr b2)))
  rw [trS_n hq] at z
  exact z
theorem s7_pushes {s : Nat} {w : List Nat} {rc : List Int32} {m : Mm} {K : Bool → Mm → Prop} (hS : CSk w rc m) (hl : w.length < 96) (hK : ∀ m2 : Mm, CSk (s :: w) rc m2 → Fcl m m2 → (∀ j, j ≠ 11 → m2 45 j = m 45 j) → K true m2) : W_X7_pushes (chS s) m K := by
  obtain ⟨h1, h2, h3, h4⟩ := hS
  unfold W_X7_pushes
  rw [h1]
  first | refine ct1 (nI_lt (b := 96) hl (by omega)) ?_ | refine ct2 (nI_lt (b := 96) hl (by omega)) ?_
  refine ⟨w.length, rfl, hl, fun m2 e2 m3 e3 => ?_⟩
  have g11 : m2 45 11 = nI w.length := by rw [e2, mu_k _ _ _ (by omega)]; exact h1
  rw [g11, nI_1] at e3
  have r48 : m3 48 = upd (m 48) w.length (chS s) := by
    rw [e3, mu_row_n _ _ _ (by omega), e2]
    exact mu_row_s _ _ _ _
  have r49 : m3 49 = m 49 := by rw [e3, mu_row_n _ _ _ (by omega), e2, mu_row_n _ _ _ (by omega)]
  have r47 : ∀ j, j ≠ 11 → m3 45 j = m 45 j := fun j nj => by rw [e3, mu_j _ _ _ nj, e2, mu_k _ _ _ (by omega)]
  refine hK m3 ⟨by rw [e3, mu_s]; rfl, by rw [r47 13 (by omega)]; exact h2, ?_, by rw [r49]; exact h4⟩ ⟨fun q hq => ?_, fun j hj => r47 j (by omega)⟩ r47
  · rw [r48]
    show Sk (upd (m 48) w.length (chS s)) (chS s :: w.map chS)
    have z := Sk.push (v := chS s) h3
    rw [List.length_map] at z
    exact z
  · rw [e3, mu_row_n _ _ _ (by omega), e2, mu_row_n _ _ _ (by omega)]
theorem s7_close {key a : Nat} {w : List Nat} {rc : List Int32} {m : Mm} {K : Mm → Prop} (ho : okw 6 w) (hc : 0 < c11 w) (hS : CSt key false w rc a m) (hl : rc.length + w.length < 96) (hK : ∀ m2 : Mm, CSt key false (pnW (pbW 1 w).tail) (pnC (pbW 1 w).tail (pbC 1 w rc)) a m2 → Fcl m m2 → K m2) : W_X7_closeParen m K := by
  obtain ⟨h5, h6, h7, h8, h9, hk⟩ := hS
  obtain ⟨r, y1, y2, y3, y4⟩ := pb_top w 6 ho (Nat.le_refl _) hc
  have hlen : ∀ (w : List Nat) (rc : List Int32), (pbC 1 w rc).length + (pbW 1 w).length = rc.length + w.length := by
    intro w
    induction w with
    | nil => intro rc; rfl
    | cons s r ih =>
      intro rc
      unfold pbC pbW
      by_cases c1 : s ≤ 9 ∧ 1 ≤ rk s
      · rw [if_pos c1, if_pos c1, ih, List.length_cons, List.length_cons]; omega
      · rw [if_neg c1, if_neg c1]
  have hl2 := hlen w rc
  rw [y1] at hK hl2
  rw [List.length_cons] at hl2
  unfold W_X7_closeParen
  refine s7_pops (p := 1) (by omega) (by omega) ho (by omega) hk hl (fun m2 a1 a2 a3 => ?_)
  rw [y1] at a1
  have e11 : m2 45 11 = nI (r.length + 1) := a1.1
  rw [e11]
  first | refine cf1 (nI_nle (by omega) (by omega)) ?_ | refine cf2 (nI_nle (by omega) (by omega)) ?_
  rw [nI_pred]
  intro m3 e3 m4 e4
  have g3 : ∀ j, j ≠ 11 → m3 45 j = m2 45 j := fun j nj => by rw [e3, mu_j _ _ _ nj]
  have e8 : m3 45 8 = nI (c11 r + 1) := by rw [g3 8 (by omega), a2.2 8 (by omega) (by omega) (by omega), h8, y3]
  rw [e8, nI_pred] at e4
  have g4 : ∀ j, j ≠ 8 → m4 45 j = m3 45 j := fun j nj => by rw [e4, mu_j _ _ _ nj]
  have gq : ∀ q, q ≠ 45 → m4 q = m2 q := fun q nq => by rw [e4, mu_row_n _ _ _ nq, e3, mu_row_n _ _ _ nq]
  have hk4 : CSk r (pbC 1 w rc) m4 := ⟨by rw [g4 11 (by omega), e3, mu_s], by rw [g4 13 (by omega), g3 13 (by omega)]; exact a1.2.1, by rw [gq 48 (by omega)]; exact a1.2.2.1.2, by rw [gq 49 (by omega)]; exact a1.2.2.2⟩
  refine s7_endPiece (key := key) (a := a) y2 hk4 (by omega) ?_ ?_ ?_ ?_ (fun m5 b1 b2 => hK m5 b1 (a2.cl.tr (((Fcl.f e3 (by omega)).tr (Fcl.f e4 (by omega))).tr b2)))
  · rw [g4 6 (by omega), g3 6 (by omega), a2.2 6 (by omega) (by omega) (by omega)]; exact h6
  · rw [g4 7 (by omega), g3 7 (by omega), a2.2 7 (by omega) (by omega) (by omega)]; exact h7
  · rw [e4, mu_s]
  · rw [g4 9 (by omega), g3 9 (by omega), a3, h9, y4]
end
