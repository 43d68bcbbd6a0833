section
/-! READING A TEXT: a parser that both are -/
def srt (T : Nat → Nat) (n p : Nat) : Nat := if n ≤ p then 0 else if 97 ≤ T p ∧ T p ≤ 122 then 1 else if 48 ≤ T p ∧ T p ≤ 57 then 2 else 3
def skp (T : Nat → Nat) : Nat → Nat → Nat
  | 0, p => p
  | k + 1, p => if T p = 32 then skp T k (p + 1) else p
def exw (T : Nat → Nat) (n s : Nat) : Nat → Nat → Nat
  | 0, p => p
  | k + 1, p => if srt T n p = s then exw T n s k (p + 1) else p
def wFm (T : Nat → Nat) (n e : Nat) : Nat := skp T (n - e) e
def wTo (T : Nat → Nat) (n f : Nat) : Nat := if srt T n f = 0 then f else if srt T n f = 3 then f + 1 else exw T n (srt T n f) (n - (f + 1)) (f + 1)
theorem srt_le (T : Nat → Nat) (n p : Nat) : srt T n p ≤ 3 := by
  unfold srt
  split
  · omega
  · split
    · omega
    · split <;> omega
theorem srt_0 {T : Nat → Nat} {n p : Nat} : srt T n p = 0 ↔ n ≤ p := by
  unfold srt
  split
  · simp_all
  · split
    · simp_all
    · split <;> simp_all
theorem srt_1 {T : Nat → Nat} {n p : Nat} : srt T n p = 1 ↔ p < n ∧ 97 ≤ T p ∧ T p ≤ 122 := by
  unfold srt
  by_cases c1 : n ≤ p
  · rw [if_pos c1]; exact ⟨fun e => by omega, fun e => by omega⟩
  · rw [if_neg c1]
    by_cases c2 : 97 ≤ T p ∧ T p ≤ 122
    · rw [if_pos c2]; exact ⟨fun e => ⟨by omega, c2⟩, fun e => rfl⟩
    · rw [if_neg c2]
      refine ⟨fun e => ?_, fun e => absurd e.2 c2⟩
      split at e <;> omega
theorem srt_2 {T : Nat → Nat} {n p : Nat} : srt T n p = 2 ↔ p < n ∧ 48 ≤ T p ∧ T p ≤ 57 := by
  unfold srt
  by_cases c1 : n ≤ p
  · rw [if_pos c1]; exact ⟨fun e => by omega, fun e => by omega⟩
  · rw [if_neg c1]
    by_cases c2 : 97 ≤ T p ∧ T p ≤ 122
    · rw [if_pos c2]; exact ⟨fun e => by omega, fun e => by omega⟩
    · rw [if_neg c2]
      by_cases c3 : 48 ≤ T p ∧ T p ≤ 57
      · rw [if_pos c3]; exact ⟨fun e => ⟨by omega, c3⟩, fun e => rfl⟩
      · rw [if_neg c3]; exact ⟨fun e => by omega, fun e => absurd e.2 c3⟩
theorem skp_le (T : Nat → Nat) : ∀ k p, p ≤ skp T k p ∧ skp T k p ≤ p + k := by
  intro k
  induction k with
  | zero => intro p; exact ⟨Nat.le_refl _, Nat.le_refl _⟩
  | succ k ih =>
    intro p
    unfold skp
    split
    · have := ih (p + 1); omega
    · omega
theorem wFm_le {T : Nat → Nat} {n e : Nat} (h : e ≤ n) : e ≤ wFm T n e ∧ wFm T n e ≤ n := by
  have := skp_le T (n - e) e
  unfold wFm
  omega
theorem exw_le (T : Nat → Nat) (n s : Nat) : ∀ k p, p ≤ exw T n s k p ∧ exw T n s k p ≤ p + k := by
  intro k
  induction k with
  | zero => intro p; exact ⟨Nat.le_refl _, Nat.le_refl _⟩
  | succ k ih =>
    intro p
    unfold exw
    split
    · have := ih (p + 1); omega
    · omega
theorem wTo_le {T : Nat → Nat} {n f : Nat} (h : f < n) : f + 1 ≤ wTo T n f ∧ wTo T n f ≤ n := by
  have h0 : srt T n f ≠ 0 := fun e => by have := srt_0.mp e; omega
  unfold wTo
  rw [if_neg h0]
  split
  · omega
  · have := exw_le T n (srt T n f) (n - (f + 1)) (f + 1); omega
/-! signs: 1 .. 9 join, 10 is not, 11 opens -/
def sgB (b : Nat) : Nat := if b = 124 then 1 else if b = 38 then 2 else if b = 60 then 3 else if b = 61 then 4 else if b = 62 then 5 else if b = 43 then 6 else if b = 45 then 7 else if b = 42 then 8 else if b = 47 then 9 else 0
def rk (s : Nat) : Nat := if s ≤ 1 then 1 else if s = 2 then 2 else if s ≤ 5 then 3 else if s ≤ 7 then 4 else if s ≤ 9 then 5 else 6
def chS (s : Nat) : Int32 := [0, 124, 38, 60, 61, 62, 43, 45, 42, 47, 33, 40].getD s 0
def sg (s : Nat) : Int32 := -(nI s)
theorem rk_b {s : Nat} (h : s ≤ 9) : 1 ≤ rk s ∧ rk s ≤ 5 := by
  unfold rk
  split
  · omega
  · split
    · omega
    · split
      · omega
      · split
        · omega
        · omega
theorem sgn_le (b : Nat) : sgB b ≤ 9 := by
  unfold sgB
  repeat' split
  all_goals omega
theorem tr_sg : ∀ s, s < 11 → trS (sg s) = -(chS s) := by decide +kernel
def pbW (p : Nat) : List Nat → List Nat
  | [] => []
  | s :: r => if s ≤ 9 ∧ p ≤ rk s then pbW p r else s :: r
def pbC (p : Nat) : List Nat → List Int32 → List Int32
  | [], c => c
  | s :: r, c => if s ≤ 9 ∧ p ≤ rk s then pbC p r (sg s :: c) else c
def pnW : List Nat → List Nat
  | [] => []
  | s :: r => if s = 10 then pnW r else s :: r
def pnC : List Nat → List Int32 → List Int32
  | [], c => c
  | s :: r, c => if s = 10 then pnC r (sg 10 :: c) else c
def c10 : List Nat → Nat
  | [] => 0
  | s :: r => if s = 10 then c10 r + 1 else c10 r
def c11 : List Nat → Nat
  | [] => 0
  | s :: r => if s = 11 then c11 r + 1 else c11 r
def nbW : List Nat → Nat
  | [] => 0
  | s :: r => if s ≤ 9 then nbW r + 1 else nbW r
def tst : List Nat → Bool
  | [] => false
  | s :: r => if s = 11 then false else if rk s = 3 then true else tst r
def okw : Nat → List Nat → Prop
  | _, [] => True
  | b, s :: r => if s = 11 then okw 7 r else if s = 10 then b = 7 ∧ okw 7 r else 1 ≤ s ∧ s ≤ 9 ∧ rk s < b ∧ okw (rk s) r
def nvl (T : Nat → Nat) (f : Nat) : Nat → Nat
  | 0 => 0
  | k + 1 => 10 * nvl T f k + (T (f + k) - 48)
def nmK (key b : Nat) : Nat := if key = 0 then (if b = 110 then 0 else if b = 119 then 1 else if b = 102 then 2 else if b = 115 then 3 else 9) else if key = 1 then (if b = 102 then 0 else if b = 115 then 1 else 9) else (if b = 110 then 0 else if b = 119 then 1 else 9)
theorem nmK_f (key b : Nat) : nmK key b = 9 ∨ nmK key b < nfK key := by
  unfold nmK nfK
  repeat' split
  all_goals omega
abbrev Res : Type := Nat ⊕ (List Nat × List Int32 × Nat)
def prs (T : Nat → Nat) (n key : Nat) : Nat → Nat → Bool → Bool → List Nat → List Int32 → Nat → Res
  | 0, _, _, _, _, _, _ => .inl 0
  | k + 1, e, pw, wt, w, rc, a =>
    if srt T n (wFm T n e) = 0 then (if wt = true then .inl (wFm T n e) else if c11 w = 0 then .inr (w, rc, a) else .inl (wFm T n e))
    else if pw = true ∧ srt T n (wFm T n e) ≤ 2 ∧ wFm T n e = e then .inl (wFm T n e)
    else if wt = true then
      (if srt T n (wFm T n e) = 1 then
        (if wTo T n (wFm T n e) = wFm T n e + 1 ∧ nmK key (T (wFm T n e)) < 9 then prs T n key k (wTo T n (wFm T n e)) true false (pnW w) (pnC w (nI (10000 + nmK key (T (wFm T n e))) :: rc)) (a + 1) else .inl (wFm T n e))
      else if srt T n (wFm T n e) = 2 then
        (if wTo T n (wFm T n e) ≤ wFm T n e + 4 then prs T n key k (wTo T n (wFm T n e)) true false (pnW w) (pnC w (nI (nvl T (wFm T n e) (wTo T n (wFm T n e) - wFm T n e)) :: rc)) (a + 1) else .inl (wFm T n e))
      else if T (wFm T n e) = 40 ∧ c11 w < 8 then prs T n key k (wTo T n (wFm T n e)) false true (11 :: w) rc a
      else if T (wFm T n e) = 33 ∧ c10 w < 8 then prs T n key k (wTo T n (wFm T n e)) false true (10 :: w) rc a
      else .inl (wFm T n e))
    else if T (wFm T n e) = 41 ∧ 0 < c11 w then prs T n key k (wTo T n (wFm T n e)) false false (pnW (pbW 1 w).tail) (pnC (pbW 1 w).tail (pbC 1 w rc)) a
    else if sgB (T (wFm T n e)) ≠ 0 ∧ ¬ (rk (sgB (T (wFm T n e))) = 3 ∧ tst w = true) then prs T n key k (wTo T n (wFm T n e)) false true (sgB (T (wFm T n e)) :: pbW (rk (sgB (T (wFm T n e)))) w) (pbC (rk (sgB (T (wFm T n e)))) w rc) a
    else .inl (wFm T n e)
/-! a code that works out -/
def CdR (nf : Nat) : List Int32 → Nat → Nat → Prop
  | [], _, e => e = 0
  | s :: r, a, e => ∃ d, CdR nf r a d ∧ kStp nf a s d e
theorem kStp.mo {nf a a2 : Nat} {s : Int32} {d e : Nat} (h : kStp nf a s d e) (ha : a ≤ a2) : kStp nf a2 s d e := by
  rcases h with ⟨h1, h2, h3⟩ | h | h
  · exact Or.inl ⟨h1, h2, by omega⟩
  · exact Or.inr (Or.inl h)
  · exact Or.inr (Or.inr h)
theorem CdR.mo {nf a a2 : Nat} (ha : a ≤ a2) : ∀ {rc : List Int32} {e : Nat}, CdR nf rc a e → CdR nf rc a2 e := by
  intro rc
  induction rc with
  | nil => intro e h; exact h
  | cons s r ih =>
    intro e h
    obtain ⟨d, h1, h2⟩ := h
    exact ⟨d, ih h1, h2.mo ha⟩
theorem CdR.ok {nf a : Nat} {row : Nat → Int32} : ∀ {rc : List Int32} {e : Nat}, CdR nf rc a e → Sk row rc → ∃ d : Nat → Nat, d 0 = 0 ∧ d rc.length = e ∧ ∀ k, k < rc.length → kStp nf a (row k) (d k) (d (k + 1)) := by
  intro rc
  induction rc with
  | nil => intro e h _; exact ⟨fun _ => 0, rfl, h.symm, fun k hk => absurd hk (Nat.not_lt_zero k)⟩
  | cons s r ih =>
    intro e h hs
    obtain ⟨d0, h1, h2⟩ := h
    obtain ⟨d, y0, y1, y2⟩ := ih h1 hs.2
    refine ⟨fun k => if k = r.length + 1 then e else d k, ?_, ?_, fun k hk => ?_⟩
    · show (if 0 = r.length + 1 then e else d 0) = 0
      rw [if_neg (by omega)]; exact y0
    · exact if_pos rfl
    · have hk2 : k < r.length + 1 := hk
      show kStp nf a (row k) (if k = r.length + 1 then e else d k) (if k + 1 = r.length + 1 then e else d (k + 1))
      rw [if_neg (by omega)]
      by_cases c1 : k = r.length
      · subst c1
        rw [if_pos rfl, y1, hs.1]
        exact h2
      · rw [if_neg (by omega)]
        exact y2 k (by omega)
/-- what holds between two words -/
def PIv (nf e : Nat) (wt : Bool) (w : List Nat) (rc : List Int32) (a : Nat) : Prop :=
  okw (if wt = true then 7 else 6) w ∧ rc.length + w.length + 3 ≤ e ∧ 2 * a + (if wt = true then 3 else 2) ≤ e ∧ c11 w ≤ 8 ∧ c10 w ≤ 8 ∧ CdR nf rc a (nbW w + (if wt = true then 0 else 1)) ∧ nbW w + (if wt = true then 0 else 1) ≤ a
theorem okw.mo : ∀ {w : List Nat} {b b2 : Nat}, okw b w → b ≤ b2 → b2 ≤ 7 → okw b2 w := by
  intro w
  cases w with
  | nil => intro _ _ _ _ _; trivial
  | cons s r =>
    intro b b2 h hb h7
    unfold okw at h ⊢
    by_cases c1 : s = 11
    · rw [if_pos c1] at h ⊢; exact h
    · rw [if_neg c1] at h ⊢
      by_cases c2 : s = 10
      · rw [if_pos c2] at h ⊢; exact ⟨by omega, h.2⟩
      · rw [if_neg c2] at h ⊢; exact ⟨h.1, h.2.1, by omega, h.2.2.2⟩
/-- what popping the signs that join leaves -/
theorem pb_all (p : Nat) (hp : 1 ≤ p) : ∀ (w : List Nat) (rc : List Int32) (b a nf : Nat), okw b w → b ≤ 6 → CdR nf rc a (nbW w + 1) → okw (min b p) (pbW p w) ∧ (pbC p w rc).length + (pbW p w).length = rc.length + w.length ∧ c11 (pbW p w) = c11 w ∧ c10 (pbW p w) = c10 w ∧ CdR nf (pbC p w rc) a (nbW (pbW p w) + 1) ∧ nbW (pbW p w) ≤ nbW w ∧ (pbW p w).length ≤ w.length := by
  intro w
  induction w with
  | nil => intro rc b a nf h hb hC; exact ⟨trivial, rfl, rfl, rfl, hC, Nat.le_refl _, Nat.le_refl _⟩
  | cons s r ih =>
    intro rc b a nf h hb hC
    unfold okw at h
    by_cases c1 : s = 11
    · have e1 : pbW p (s :: r) = s :: r := by unfold pbW; rw [if_neg (by omega)]
      have e2 : pbC p (s :: r) rc = rc := by unfold pbC; rw [if_neg (by omega)]
      rw [e1, e2]
      rw [if_pos c1] at h
      refine ⟨?_, rfl, rfl, rfl, hC, Nat.le_refl _, Nat.le_refl _⟩
      unfold okw; rw [if_pos c1]; exact h
    · rw [if_neg c1] at h
      by_cases c2 : s = 10
      · rw [if_pos c2] at h; omega
      · rw [if_neg c2] at h
        have q1 : c11 (s :: r) = c11 r := by show (if _ then _ else _) = _; rw [if_neg c1]
        have q2 : c10 (s :: r) = c10 r := by show (if _ then _ else _) = _; rw [if_neg c2]
        have q3 : nbW (s :: r) = nbW r + 1 := by show (if _ then _ else _) = _; rw [if_pos h.2.1]
        by_cases c3 : p ≤ rk s
        · have e1 : pbW p (s :: r) = pbW p r := by show (if _ then _ else _) = _; rw [if_pos ⟨h.2.1, c3⟩]
          have e2 : pbC p (s :: r) rc = pbC p r (sg s :: rc) := by show (if _ then _ else _) = _; rw [if_pos ⟨h.2.1, c3⟩]
          rw [q3] at hC
          have hk : kStp nf a (sg s) (nbW r + 1 + 1) (nbW r + 1) := Or.inr (Or.inr ⟨⟨s - 1, by omega, by unfold sg; rw [show s - 1 + 1 = s by omega]⟩, rfl, by omega⟩)
          have z := ih (sg s :: rc) (rk s) a nf h.2.2.2 (by omega) ⟨_, hC, hk⟩
          rw [e1, e2, q1, q2, q3]
          refine ⟨z.1.mo (by omega) (by omega), ?_, z.2.2.1, z.2.2.2.1, z.2.2.2.2.1, by have := z.2.2.2.2.2.1; omega, by have := z.2.2.2.2.2.2; rw [List.length_cons]; omega⟩
          have := z.2.1
          rw [List.length_cons] at this ⊢
          omega
        · have e1 : pbW p (s :: r) = s :: r := by unfold pbW; rw [if_neg (by omega)]
          have e2 : pbC p (s :: r) rc = rc := by unfold pbC; rw [if_neg (by omega)]
          rw [e1, e2]
          refine ⟨?_, rfl, rfl, rfl, hC, Nat.le_refl _, Nat.le_refl _⟩
          unfold okw
          rw [if_neg c1, if_neg c2]
          exact ⟨h.1, h.2.1, by omega, h.2.2.2⟩
theorem pn_all : ∀ (w : List Nat) (rc : List Int32) (a nf : Nat), okw 7 w → CdR nf rc a (nbW w + 1) → okw 6 (pnW w) ∧ (pnC w rc).length + (pnW w).length = rc.length + w.length ∧ c11 (pnW w) = c11 w ∧ c10 (pnW w) ≤ c10 w ∧ CdR nf (pnC w rc) a (nbW (pnW w) + 1) ∧ nbW (pnW w) = nbW w ∧ (pnW w).length ≤ w.length := by
  intro w
  induction w with
  | nil => intro rc a nf h hC; exact ⟨trivial, rfl, rfl, Nat.le_refl _, hC, rfl, Nat.le_refl _⟩
  | cons s r ih =>
    intro rc a nf h hC
    unfold okw at h
    by_cases c2 : s = 10
    · rw [if_neg (by omega), if_pos c2] at h
      have q1 : c11 (s :: r) = c11 r := by show (if _ then _ else _) = _; rw [if_neg (by omega)]
      have q2 : c10 (s :: r) = c10 r + 1 := by show (if _ then _ else _) = _; rw [if_pos c2]
      have q3 : nbW (s :: r) = nbW r := by show (if _ then _ else _) = _; rw [if_neg (by omega)]
      have e1 : pnW (s :: r) = pnW r := by show (if _ then _ else _) = _; rw [if_pos c2]
      have e2 : pnC (s :: r) rc = pnC r (sg 10 :: rc) := by show (if _ then _ else _) = _; rw [if_pos c2]
      rw [q3] at hC
      have z := ih (sg 10 :: rc) a nf h.2 ⟨_, hC, Or.inr (Or.inl ⟨rfl, by omega, rfl⟩)⟩
      rw [e1, e2, q1, q2, q3]
      refine ⟨z.1, ?_, z.2.2.1, by have := z.2.2.2.1; omega, z.2.2.2.2.1, z.2.2.2.2.2.1, by have := z.2.2.2.2.2.2; rw [List.length_cons]; omega⟩
      have := z.2.1
      rw [List.length_cons] at this ⊢
      omega
    · have e1 : pnW (s :: r) = s :: r := by unfold pnW; rw [if_neg c2]
      have e2 : pnC (s :: r) rc = rc := by unfold pnC; rw [if_neg c2]
      rw [e1, e2]
      refine ⟨?_, rfl, rfl, Nat.le_refl _, hC, rfl, Nat.le_refl _⟩
      unfold okw
      by_cases c1 : s = 11
      · rw [if_pos c1] at h ⊢; exact h
      · rw [if_neg c1, if_neg c2] at h ⊢
        have := rk_b h.2.1
        exact ⟨h.1, h.2.1, by omega, h.2.2.2⟩
theorem pb_top : ∀ (w : List Nat) (b : Nat), okw b w → b ≤ 6 → 0 < c11 w → ∃ r, pbW 1 w = 11 :: r ∧ okw 7 r ∧ c11 w = c11 r + 1 ∧ c10 w = c10 r := by
  intro w
  induction w with
  | nil => intro b _ _ h; exact absurd h (Nat.lt_irrefl 0)
  | cons s r ih =>
    intro b h hb hc
    unfold okw at h
    by_cases c1 : s = 11
    · rw [if_pos c1] at h
      subst c1
      exact ⟨r, by unfold pbW; rw [if_neg (by omega)], h, rfl, rfl⟩
    · rw [if_neg c1] at h
      by_cases c2 : s = 10
      · rw [if_pos c2] at h; omega
      · rw [if_neg c2] at h
        have q1 : c11 (s :: r) = c11 r := by show (if _ then _ else _) = _; rw [if_neg c1]
        have q2 : c10 (s :: r) = c10 r := by show (if _ then _ else _) = _; rw [if_neg c2]
        have e1 : pbW 1 (s :: r) = pbW 1 r := by show (if _ then _ else _) = _; rw [if_pos ⟨h.2.1, (rk_b h.2.1).1⟩]
        have := rk_b h.2.1
        rw [q1] at hc
        rw [q1, q2, e1]
        exact ih (rk s) h.2.2.2 (by omega) hc
theorem pb_nil : ∀ (w : List Nat) (b : Nat), okw b w → b ≤ 6 → c11 w = 0 → pbW 1 w = [] := by
  intro w
  induction w with
  | nil => intro b _ _ _; rfl
  | cons s r ih =>
    intro b h hb hc
    unfold okw at h
    by_cases c1 : s = 11
    · subst c1
      have : c11 (11 :: r) = c11 r + 1 := rfl
      omega
    · rw [if_neg c1] at h
      by_cases c2 : s = 10
      · rw [if_pos c2] at h; omega
      · rw [if_neg c2] at h
        have q1 : c11 (s :: r) = c11 r := by show (if _ then _ else _) = _; rw [if_neg c1]
        have e1 : pbW 1 (s :: r) = pbW 1 r := by show (if _ then _ else _) = _; rw [if_pos ⟨h.2.1, (rk_b h.2.1).1⟩]
        have := rk_b h.2.1
        rw [q1] at hc
        rw [e1]
        exact ih (rk s) h.2.2.2 (by omega) hc
theorem PIv.open9 {nf e t : Nat} {w : List Nat} {rc : List Int32} {a : Nat} (h : PIv nf e true w rc a) (ht : e + 1 ≤ t) (hc : c11 w < 8) : PIv nf t true (11 :: w) rc a := by
  obtain ⟨h1, h2, h3, h4, h5, h6, h7⟩ := h
  have e1 : (if true = true then 3 else 2) = 3 := rfl
  rw [e1] at h3
  refine ⟨?_, by rw [List.length_cons]; omega, by rw [e1]; omega, ?_, h5, h6, h7⟩
  · show okw 7 (11 :: w)
    exact h1
  · show c11 w + 1 ≤ 8
    omega
theorem PIv.not9 {nf e t : Nat} {w : List Nat} {rc : List Int32} {a : Nat} (h : PIv nf e true w rc a) (ht : e + 1 ≤ t) (hc : c10 w < 8) : PIv nf t true (10 :: w) rc a := by
  obtain ⟨h1, h2, h3, h4, h5, h6, h7⟩ := h
  have e1 : (if true = true then 3 else 2) = 3 := rfl
  rw [e1] at h3
  refine ⟨?_, by rw [List.length_cons]; omega, by rw [e1]; omega, h4, ?_, h6, h7⟩
  · show okw 7 (10 :: w)
    exact ⟨rfl, h1⟩
  · show c10 w + 1 ≤ 8
    omega
theorem PIv.atom {nf e t q : Nat} {w : List Nat} {rc : List Int32} {a : Nat} (h : PIv nf e true w rc a) (ht : e + 1 ≤ t) (hq : q < 10000 ∨ (10000 ≤ q ∧ q < 10000 + nf)) : PIv nf t false (pnW w) (pnC w (nI q :: rc)) (a + 1) := by
  obtain ⟨h1, h2, h3, h4, h5, h6, h7⟩ := h
  have e1 : (if true = true then 3 else 2) = 3 := rfl
  have e2 : (if false = true then 3 else 2) = 2 := rfl
  have e3 : nbW w + (if true = true then 0 else 1) = nbW w := rfl
  have e4 : (if false = true then 0 else 1) = 1 := rfl
  rw [e1] at h3
  rw [e3] at h6 h7
  have z := pn_all w (nI q :: rc) (a + 1) nf h1 ⟨nbW w, h6.mo (by omega), Or.inl ⟨⟨q, rfl, hq⟩, rfl, by omega⟩⟩
  have z2 := z.2.1
  rw [List.length_cons] at z2
  refine ⟨z.1, by omega, by rw [e2]; omega, by rw [z.2.2.1]; exact h4, by have := z.2.2.2.1; omega, by rw [e4]; exact z.2.2.2.2.1, by rw [e4, z.2.2.2.2.2.1]; omega⟩
theorem PIv.close {nf e t : Nat} {w : List Nat} {rc : List Int32} {a : Nat} (h : PIv nf e false w rc a) (ht : e + 1 ≤ t) (hc : 0 < c11 w) : PIv nf t false (pnW (pbW 1 w).tail) (pnC (pbW 1 w).tail (pbC 1 w rc)) a := by
  obtain ⟨h1, h2, h3, h4, h5, h6, h7⟩ := h
  have e2 : (if false = true then 3 else 2) = 2 := rfl
  have e4 : (if false = true then 0 else 1) = 1 := rfl
  rw [e2] at h3
  rw [e4] at h6 h7
  have y := pb_all 1 (Nat.le_refl _) w rc 6 a nf h1 (Nat.le_refl _) h6
  obtain ⟨r, y1, y2, y3, y4⟩ := pb_top w 6 h1 (Nat.le_refl _) hc
  rw [y1] at y ⊢
  have z := pn_all r (pbC 1 w rc) a nf y2 y.2.2.2.2.1
  have y5 := y.2.1
  have y6 : nbW (11 :: r) ≤ nbW w := y.2.2.2.2.2.1
  have y7 : nbW (11 :: r) = nbW r := rfl
  rw [List.length_cons] at y5
  show PIv nf t false (pnW r) (pnC r (pbC 1 w rc)) a
  refine ⟨z.1, by have := z.2.1; omega, by rw [e2]; omega, by rw [z.2.2.1]; omega, by have := z.2.2.2.1; omega, by rw [e4]; exact z.2.2.2.2.1, by rw [e4, z.2.2.2.2.2.1]; omega⟩
theorem PIv.join {nf e t s : Nat} {w : List Nat} {rc : List Int32} {a : Nat} (h : PIv nf e false w rc a) (ht : e + 1 ≤ t) (hs : s ≠ 0) (hs9 : s ≤ 9) : PIv nf t true (s :: pbW (rk s) w) (pbC (rk s) w rc) a := by
  obtain ⟨h1, h2, h3, h4, h5, h6, h7⟩ := h
  have e1 : (if true = true then 3 else 2) = 3 := rfl
  have e2 : (if false = true then 3 else 2) = 2 := rfl
  have e3 : (if true = true then 0 else 1) = 0 := rfl
  have e4 : (if false = true then 0 else 1) = 1 := rfl
  have hr := rk_b hs9
  rw [e2] at h3
  rw [e4] at h6 h7
  have y := pb_all (rk s) hr.1 w rc 6 a nf h1 (Nat.le_refl _) h6
  have q1 : c11 (s :: pbW (rk s) w) = c11 w := by show (if _ then _ else _) = _; rw [if_neg (by omega)]; exact y.2.2.1
  have q2 : c10 (s :: pbW (rk s) w) = c10 w := by show (if _ then _ else _) = _; rw [if_neg (by omega)]; exact y.2.2.2.1
  have q3 : nbW (s :: pbW (rk s) w) = nbW (pbW (rk s) w) + 1 := by show (if _ then _ else _) = _; rw [if_pos hs9]
  have y5 := y.2.1
  have y6 := y.2.2.2.2.2.1
  refine ⟨?_, by rw [List.length_cons]; omega, by rw [e1]; omega, by rw [q1]; exact h4, by rw [q2]; exact h5, by rw [q3, e3]; exact y.2.2.2.2.1, by rw [q3, e3]; omega⟩
  show okw 7 (s :: pbW (rk s) w)
  unfold okw
  rw [if_neg (by omega), if_neg (by omega)]
  exact ⟨by omega, hs9, by omega, y.1.mo (by omega) (by omega)⟩
theorem tst_lo : ∀ (w : List Nat) (b : Nat), okw b w → b ≤ 3 → tst w = true → False := by
  intro w
  induction w with
  | nil => intro b _ _ h; cases h
  | cons s r ih =>
    intro b h hb ht
    unfold okw at h
    unfold tst at ht
    by_cases c1 : s = 11
    · rw [if_pos c1] at ht; cases ht
    · rw [if_neg c1] at h ht
      by_cases c2 : s = 10
      · rw [if_pos c2] at h; omega
      · rw [if_neg c2] at h
        rw [if_neg (by omega)] at ht
        exact ih (rk s) h.2.2.2 (by omega) ht
/-- comparing twice in one part -/
theorem pb_tst : ∀ (w : List Nat) (b : Nat), okw b w → b ≤ 6 → tst w = true → ∃ s r, pbW 4 w = s :: r ∧ rk s = 3 ∧ s ≤ 9 := by
  intro w
  induction w with
  | nil => intro b _ _ h; cases h
  | cons s r ih =>
    intro b h hb ht
    unfold okw at h
    unfold tst at ht
    by_cases c1 : s = 11
    · rw [if_pos c1] at ht; cases ht
    · rw [if_neg c1] at h ht
      by_cases c2 : s = 10
      · rw [if_pos c2] at h; omega
      · rw [if_neg c2] at h
        by_cases c3 : 4 ≤ rk s
        · rw [if_neg (by omega)] at ht
          have e1 : pbW 4 (s :: r) = pbW 4 r := by show (if _ then _ else _) = _; rw [if_pos ⟨h.2.1, c3⟩]
          rw [e1]
          exact ih (rk s) h.2.2.2 (by omega) ht
        · have e1 : pbW 4 (s :: r) = s :: r := by unfold pbW; rw [if_neg (by omega)]
          refine ⟨s, r, e1, ?_, h.2.1⟩
          by_cases c4 : rk s = 3
          · exact c4
          · exfalso
            rw [if_neg c4] at ht
            exact tst_lo r (rk s) h.2.2.2 (by omega) ht
theorem pb_34 : ∀ (w : List Nat) (rc : List Int32) (b : Nat), okw b w → b ≤ 6 → tst w = false → pbW 4 w = pbW 3 w ∧ pbC 4 w rc = pbC 3 w rc ∧ ∀ s r, pbW 3 w = s :: r → s = 11 ∨ (s ≤ 9 ∧ rk s < 3) := by
  intro w
  induction w with
  | nil => intro rc b _ _ _; exact ⟨rfl, rfl, fun s r h => by cases h⟩
  | cons s r ih =>
    intro rc b h hb ht
    unfold okw at h
    unfold tst at ht
    by_cases c1 : s = 11
    · have e1 : ∀ p, pbW p (s :: r) = s :: r := fun p => by unfold pbW; rw [if_neg (by omega)]
      have e2 : ∀ p, pbC p (s :: r) rc = rc := fun p => by unfold pbC; rw [if_neg (by omega)]
      refine ⟨by rw [e1, e1], by rw [e2, e2], fun s2 r2 h2 => ?_⟩
      rw [e1] at h2
      cases h2
      exact Or.inl c1
    · rw [if_neg c1] at h ht
      by_cases c2 : s = 10
      · rw [if_pos c2] at h; omega
      · rw [if_neg c2] at h
        by_cases c3 : rk s = 3
        · rw [if_pos c3] at ht; cases ht
        · rw [if_neg c3] at ht
          by_cases c4 : 4 ≤ rk s
          · have e1 : ∀ p, p ≤ 4 → pbW p (s :: r) = pbW p r := fun p hp => by show (if _ then _ else _) = _; rw [if_pos ⟨h.2.1, by omega⟩]
            have e2 : ∀ p, p ≤ 4 → pbC p (s :: r) rc = pbC p r (sg s :: rc) := fun p hp => by show (if _ then _ else _) = _; rw [if_pos ⟨h.2.1, by omega⟩]
            rw [e1 4 (by omega), e1 3 (by omega), e2 4 (by omega), e2 3 (by omega)]
            exact ih (sg s :: rc) (rk s) h.2.2.2 (by omega) ht
          · have e1 : ∀ p, 3 ≤ p → pbW p (s :: r) = s :: r := fun p hp => by unfold pbW; rw [if_neg (by omega)]
            have e2 : ∀ p, 3 ≤ p → pbC p (s :: r) rc = rc := fun p hp => by unfold pbC; rw [if_neg (by omega)]
            refine ⟨by rw [e1 4 (by omega), e1 3 (by omega)], by rw [e2 4 (by omega), e2 3 (by omega)], fun s2 r2 h2 => ?_⟩
            rw [e1 3 (by omega)] at h2
            cases h2
            exact Or.inr ⟨h.2.1, by omega⟩
end
