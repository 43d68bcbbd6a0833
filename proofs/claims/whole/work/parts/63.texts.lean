/-! what a text gives -/
theorem ge4 {q : Nat} (h : q < 10000) : ¬ (10000 : Int32) ≤ nI q := nI_ge (b := 10000) h (by omega)
theorem le4 {q : Nat} (h : 10000 ≤ q) (h2 : q < 2 ^ 31) : (10000 : Int32) ≤ nI q := nI_le (a := 10000) h h2
def tw (s x y : Int32) : Int32 := if s = -8 then x * y else if s = -7 then x - y else if s = -6 then x + y else if s = -5 then (if x ≤ y then 0 else 1) else if s = -4 then (if x = y then 1 else 0) else if s = -3 then (if y ≤ x then 0 else 1) else if s = -2 then (if x = 0 then 0 else if y = 0 then 0 else 1) else if s = -1 then (if x = 0 then (if y = 0 then 0 else 1) else 1) else (if y = 0 then 0 else x / y)
theorem s_two {s x y : Int32} {mem : Mm} {K : Int32 → Mm → Prop} (h : K (tw s x y) mem) : W_X9_two s x y mem K := by
  unfold W_X9_two
  unfold tw at h
  repeat' (first | exact h | exact ⟨by assumption, h⟩ | (refine ⟨fun hc => ?_, fun hc => ?_⟩ <;> first | rw [if_pos hc] at h | rw [if_neg hc] at h))
/-- the class's sign for one of the reference -/
def trS (s : Int32) : Int32 := if s = -1 then -124 else if s = -2 then -38 else if s = -3 then -60 else if s = -4 then -61 else if s = -5 then -62 else if s = -6 then -43 else if s = -7 then -45 else if s = -8 then -42 else if s = -9 then -47 else if s = -10 then -33 else s
theorem trS_n {q : Nat} (hq : q < 2 ^ 31) : trS (nI q) = nI q := by
  have h : ∀ z : Int32, z < 0 → ¬ nI q = z := fun z hz e => nI_pos hq (by rw [e]; exact hz)
  unfold trS
  rw [if_neg (h _ (by decide)), if_neg (h _ (by decide)), if_neg (h _ (by decide)), if_neg (h _ (by decide)), if_neg (h _ (by decide)), if_neg (h _ (by decide)), if_neg (h _ (by decide)), if_neg (h _ (by decide)), if_neg (h _ (by decide)), if_neg (h _ (by decide))]
theorem neg_nI (b : Nat) (hb : b < 9) : -(nI (b + 1)) < 0 ∧ ¬ -(nI (b + 1)) = -10 ∧ trS (-(nI (b + 1))) < 0 ∧ ¬ trS (-(nI (b + 1))) = -33 := by
  have : ∀ b, b < 9 → -(nI (b + 1)) < 0 ∧ ¬ -(nI (b + 1)) = -10 ∧ trS (-(nI (b + 1))) < 0 ∧ ¬ trS (-(nI (b + 1))) = -33 := by decide +kernel
  exact this b hb
theorem s_joined {b : Nat} {x y : Int32} {mem : Mm} {K : Int32 → Mm → Prop} (hb : b < 9) (h : K (tw (-(nI (b + 1))) x y) mem) : W_X6_joined (-(trS (-(nI (b + 1))))) x y mem K := by
  have e : b = 0 ∨ b = 1 ∨ b = 2 ∨ b = 3 ∨ b = 4 ∨ b = 5 ∨ b = 6 ∨ b = 7 ∨ b = 8 := by omega
  unfold tw at h
  rcases e with rfl | rfl | rfl | rfl | rfl | rfl | rfl | rfl | rfl
  · rw [show -(trS (-(nI (0 + 1)))) = 124 by decide]
    rw [if_neg (by decide), if_neg (by decide), if_neg (by decide), if_neg (by decide), if_neg (by decide), if_neg (by decide), if_neg (by decide), if_pos (by decide)] at h
    unfold W_X6_joined
    repeat (refine cf1 (by decide) ?_)
    repeat' (first | exact h | (refine ⟨fun hc => ?_, fun hc => ?_⟩ <;> first | rw [if_pos hc] at h | rw [if_neg hc] at h))
  · rw [show -(trS (-(nI (1 + 1)))) = 38 by decide]
    rw [if_neg (by decide), if_neg (by decide), if_neg (by decide), if_neg (by decide), if_neg (by decide), if_neg (by decide), if_pos (by decide)] at h
    unfold W_X6_joined
    refine ct1 (by decide) ?_
    repeat' (first | exact h | (refine ⟨fun hc => ?_, fun hc => ?_⟩ <;> first | rw [if_pos hc] at h | rw [if_neg hc] at h))
  · rw [show -(trS (-(nI (2 + 1)))) = 60 by decide]
    rw [if_neg (by decide), if_neg (by decide), if_neg (by decide), if_neg (by decide), if_neg (by decide), if_pos (by decide)] at h
    unfold W_X6_joined
    repeat (refine cf1 (by decide) ?_)
    refine ct1 (by decide) ?_
    repeat' (first | exact h | (refine ⟨fun hc => ?_, fun hc => ?_⟩ <;> first | rw [if_pos hc] at h | rw [if_neg hc] at h))
  · rw [show -(trS (-(nI (3 + 1)))) = 61 by decide]
    rw [if_neg (by decide), if_neg (by decide), if_neg (by decide), if_neg (by decide), if_pos (by decide)] at h
    unfold W_X6_joined
    repeat (refine cf1 (by decide) ?_)
    refine ct1 (by decide) ?_
    repeat' (first | exact h | (refine ⟨fun hc => ?_, fun hc => ?_⟩ <;> first | rw [if_pos hc] at h | rw [if_neg hc] at h))
  · rw [show -(trS (-(nI (4 + 1)))) = 62 by decide]
    rw [if_neg (by decide), if_neg (by decide), if_neg (by decide), if_pos (by decide)] at h
    unfold W_X6_joined
    repeat (refine cf1 (by decide) ?_)
    refine ct1 (by decide) ?_
    repeat' (first | exact h | (refine ⟨fun hc => ?_, fun hc => ?_⟩ <;> first | rw [if_pos hc] at h | rw [if_neg hc] at h))
  · rw [show -(trS (-(nI (5 + 1)))) = 43 by decide]
    rw [if_neg (by decide), if_neg (by decide), if_pos (by decide)] at h
    unfold W_X6_joined
    repeat (refine cf1 (by decide) ?_)
    exact ct1 (by decide) h
  · rw [show -(trS (-(nI (6 + 1)))) = 45 by decide]
    rw [if_neg (by decide), if_pos (by decide)] at h
    unfold W_X6_joined
    repeat (refine cf1 (by decide) ?_)
    exact ct1 (by decide) h
  · rw [show -(trS (-(nI (7 + 1)))) = 42 by decide]
    rw [if_pos (by decide)] at h
    unfold W_X6_joined
    repeat (refine cf1 (by decide) ?_)
    exact ct1 (by decide) h
  · rw [show -(trS (-(nI (8 + 1)))) = 47 by decide]
    rw [if_neg (by decide), if_neg (by decide), if_neg (by decide), if_neg (by decide), if_neg (by decide), if_neg (by decide), if_neg (by decide), if_neg (by decide)] at h
    unfold W_X6_joined
    repeat (refine cf1 (by decide) ?_)
    refine ct1 (by decide) ?_
    repeat' (first | exact h | exact ⟨by assumption, h⟩ | (refine ⟨fun hc => ?_, fun hc => ?_⟩ <;> first | rw [if_pos hc] at h | rw [if_neg hc] at h))
def ch4 (x0 x1 x2 x3 : Int32) (i : Nat) : Int32 := if i = 0 then x0 else if i = 1 then x1 else if i = 2 then x2 else x3
theorem s_chosen {i : Nat} {x0 x1 x2 x3 : Int32} {mem : Mm} {K : Int32 → Mm → Prop} (hi : i < 4) (h : K (ch4 x0 x1 x2 x3 i) mem) : W_X6_chosen (nI i) x0 x1 x2 x3 mem K := by
  unfold W_X6_chosen
  unfold ch4 at h
  have e : i = 0 ∨ i = 1 ∨ i = 2 ∨ i = 3 := by omega
  rcases e with rfl | rfl | rfl | rfl
  · exact ct1 (by decide) h
  · exact cf1 (by decide) (ct1 (by decide) h)
  · exact cf1 (by decide) (cf1 (by decide) (ct1 (by decide) h))
  · exact cf1 (by decide) (cf1 (by decide) (cf1 (by decide) h))
/-- a row that holds a stack, its top first -/
def Sk (row : Nat → Int32) : List Int32 → Prop
  | [] => True
  | x :: r => row r.length = x ∧ Sk row r
theorem Sk.up {row : Nat → Int32} {i : Nat} {v : Int32} : ∀ {st : List Int32}, st.length ≤ i → Sk row st → Sk (upd row i v) st := by
  intro st
  induction st with
  | nil => intro _ _; trivial
  | cons x r ih =>
    intro hi h
    have h1 : row r.length = x := h.1
    have hi2 : r.length + 1 ≤ i := hi
    exact ⟨(pk_un (by omega)).trans h1, ih (by omega) h.2⟩
theorem Sk.push {row : Nat → Int32} {v : Int32} {st : List Int32} (h : Sk row st) : Sk (upd row st.length v) (v :: st) := ⟨pk_us, Sk.up (Nat.le_refl _) h⟩
def evS (s : Int32) (f : Nat → Int32) (st : List Int32) : List Int32 :=
  if s < 0 then (if s = -10 then (match st with | x :: r => (if x = 0 then 1 else 0) :: r | [] => []) else (match st with | y :: x :: r => tw s x y :: r | r => r))
  else (if 10000 ≤ s then f (s - 10000).toNatClampNeg else s) :: st
def ev (c f : Nat → Int32) : Nat → List Int32
  | 0 => []
  | k + 1 => evS (c k) f (ev c f k)
def kStp (nf p : Nat) (s : Int32) (d e : Nat) : Prop := ((∃ q : Nat, s = nI q ∧ (q < 10000 ∨ (10000 ≤ q ∧ q < 10000 + nf))) ∧ e = d + 1 ∧ d < p) ∨ (s = -10 ∧ 1 ≤ d ∧ e = d) ∨ ((∃ b : Nat, b < 9 ∧ s = -(nI (b + 1))) ∧ d = e + 1 ∧ 1 ≤ e)
/-- a code that works out to one number -/
def okT (c : Nat → Int32) (nf n p : Nat) : Prop := ∃ d : Nat → Nat, d 0 = 0 ∧ d n = 1 ∧ ∀ k, k < n → kStp nf p (c k) (d k) (d (k + 1))
theorem d_le {c : Nat → Int32} {nf n p : Nat} {d : Nat → Nat} (h0 : d 0 = 0) (hs : ∀ k, k < n → kStp nf p (c k) (d k) (d (k + 1))) : ∀ k, k ≤ n → d k ≤ p := by
  intro k
  induction k with
  | zero => intro _; rw [h0]; exact Nat.zero_le _
  | succ k ih =>
    intro hk
    have h1 := ih (by omega)
    rcases hs k (by omega) with ⟨_, h2, h3⟩ | ⟨_, h2, h3⟩ | ⟨_, h2, h3⟩ <;> omega
theorem ev_len {c f : Nat → Int32} {nf n p : Nat} {d : Nat → Nat} (hnf : nf ≤ 4) (h0 : d 0 = 0) (hs : ∀ k, k < n → kStp nf p (c k) (d k) (d (k + 1))) : ∀ k, k ≤ n → (ev c f k).length = d k := by
  intro k
  induction k with
  | zero => intro _; rw [h0]; rfl
  | succ k ih =>
    intro hk
    have h1 := ih (by omega)
    show (evS (c k) f (ev c f k)).length = _
    generalize ev c f k = st at h1
    unfold evS
    rcases hs k (by omega) with ⟨⟨q, e, hq⟩, h2, h3⟩ | ⟨e, h2, h3⟩ | ⟨⟨b, hb, e⟩, h2, h3⟩
    · rw [e, if_neg (nI_pos (by omega)), List.length_cons]; omega
    · rw [e, if_pos (by decide), if_pos rfl]
      match st, h1 with
      | [], h1 => rw [h3]; exact h1
      | x :: r, h1 => rw [h3]; exact h1
    · obtain ⟨n1, n2, _, _⟩ := neg_nI b hb
      rw [e, if_pos n1, if_neg n2]
      match st, h1 with
      | [], h1 => rw [h2] at h1; cases h1
      | [x], h1 => rw [h2] at h1; have : (1 : Nat) = d (k + 1) + 1 := h1; omega
      | y :: x :: r, h1 => rw [h2] at h1; exact Nat.succ.inj h1
theorem ev_f {c f g : Nat → Int32} {nf n p : Nat} {d : Nat → Nat} (hnf : nf ≤ 4) (hs : ∀ k, k < n → kStp nf p (c k) (d k) (d (k + 1))) (hf : ∀ i, i < nf → f i = g i) : ∀ k, k ≤ n → ev c f k = ev c g k := by
  intro k
  induction k with
  | zero => intro _; rfl
  | succ k ih =>
    intro hk
    show evS (c k) f (ev c f k) = evS (c k) g (ev c g k)
    rw [ih (by omega)]
    generalize ev c g k = st
    unfold evS
    rcases hs k (by omega) with ⟨⟨q, e, hq⟩, h2, h3⟩ | ⟨e, h2, h3⟩ | ⟨⟨b, hb, e⟩, h2, h3⟩
    · rw [e, if_neg (nI_pos (by omega)), if_neg (nI_pos (by omega))]
      rcases hq with hq | hq
      · rw [if_neg (ge4 (q := q) (by omega)), if_neg (ge4 (q := q) (by omega))]
      · rw [show (10000 : Int32) = nI 10000 from rfl, pk_sub (by omega), nI_clamp (by omega), hf _ (by omega)]
    · rw [e, if_pos (by decide), if_pos (by decide)]
      rfl
    · obtain ⟨n1, n2, _, _⟩ := neg_nI b hb
      rw [e, if_pos n1, if_pos n1]
theorem ix_code (t k : Nat) : (89 + 96 * nI t) + nI k = nI (89 + 96 * t + k) := by
  rw [show (89 : Int32) = nI 89 from rfl, show (96 : Int32) = nI 96 from rfl, pk_mul, nI_add, nI_add]
theorem mu_95 {m : Mm} {i : Nat} {v : Int32} {k : Nat} : mu m k i v k = upd (m k) i v := mu_row_s m k i v
set_option maxHeartbeats 4000000 in
theorem l_worksOut {t n nf p : Nat} {c f : Nat → Int32} {d : Nat → Nat} {m0 : Mm} {K : Int32 → Mm → Prop} {p0 : Int32} (ht : t < 14) (hn : n < 96) (hp : p ≤ 96) (hnf : nf ≤ 4) (h0 : d 0 = 0) (h1 : d n = 1) (hs : ∀ k, k < n → kStp nf p (c k) (d k) (d (k + 1)))
    (hc : ∀ k, k < n → m0 83 (89 + 96 * t + k) = c k) (hf : ∀ i, i < 4 → m0 96 i = f i) (hK : ∀ m, Fr (fun q => q = 95) m0 m → K ((ev c f n).headD 0) m) :
    ∀ (r k : Nat) (m : Mm), k + r = n → Fr (fun q => q = 95) m0 m → Sk (m 95) (ev c f k) → L_X9_worksOut_21 p0 K (r + 1) (nI t) (nI (d k)) (nI n) (nI k) m := by
  intro r
  induction r with
  | zero =>
    intro k m hk hF hS
    have e : k = n := by omega
    subst e
    unfold L_X9_worksOut_21
    refine ct1 (nI_le (Nat.le_refl _) (by omega)) ?_
    have hl := ev_len (f := f) hnf h0 hs k (Nat.le_refl _)
    rw [h1] at hl
    have hk2 := hK m hF
    generalize ev c f k = st at hS hl hk2
    match st, hl with
    | [x], hl =>
      have e2 : m 95 0 = x := hS.1
      rw [e2]
      exact hk2
  | succ r ih =>
    intro k m hk hF hS
    have hl := ev_len (f := f) hnf h0 hs k (by omega)
    have hd := d_le h0 hs k (by omega)
    have e83 : m 83 = m0 83 := hF.c 83 (by omega) (by omega)
    have e96 : m 96 = m0 96 := hF.c 96 (by omega) (by omega)
    unfold L_X9_worksOut_21
    refine cf1 (nI_ge (by omega) (by omega)) ⟨89 + 96 * t + k, ix_code t k, by omega, ?_⟩
    rw [e83, hc k (by omega)]
    have step : ∀ (e : Nat) (v : Int32) (i : Nat), d (k + 1) = e → Sk (upd (m 95) i v) (ev c f (k + 1)) → L_X9_worksOut_21 p0 K (r + 1) (nI t) (nI e) (nI n) (nI k + 1) (mu m 95 i v) := by
      intro e v i he hS2
      have z := ih (k + 1) (mu m 95 i v) (by omega) (hF.trans (Fr.m1 m i v rfl (by omega))) (by rw [mu_95]; exact hS2)
      rw [he] at z
      rw [nI_1]
      exact z
    have eev : ev c f (k + 1) = evS (c k) f (ev c f k) := rfl
    rw [eev] at step
    generalize ev c f k = st at hS hl step
    unfold evS at step
    rcases hs k (by omega) with ⟨⟨q, e, hq⟩, h2, h3⟩ | ⟨e, h2, h3⟩ | ⟨⟨b, hb, e⟩, h2, h3⟩
    · rw [e, if_neg (nI_pos (by omega))] at step
      rw [e]
      refine cf1 (nI_pos (by omega)) ?_
      rcases hq with hq | hq
      · rw [if_neg (ge4 (q := q) (by omega))] at step
        refine cf1 (ge4 (q := q) (by omega)) ⟨d k, rfl, by omega, fun m1 e1 => ?_⟩
        rw [e1, nI_1]
        exact step (d k + 1) (nI q) (d k) h2 (by rw [← hl]; exact hS.push)
      · have e9 : nI q - 10000 = nI (q - 10000) := pk_sub (b := 10000) (by omega)
        rw [if_pos (le4 (q := q) (by omega) (by omega)), e9, nI_clamp (by omega)] at step
        refine ct1 (le4 (q := q) (by omega) (by omega)) ⟨q - 10000, e9, by omega, d k, rfl, by omega, fun m1 e1 => ?_⟩
        rw [e1, nI_1, e96, hf _ (by omega)]
        exact step (d k + 1) (f (q - 10000)) (d k) h2 (by rw [← hl]; exact hS.push)
    · rw [e, if_pos (by decide), if_pos rfl] at step
      rw [e]
      refine ct1 (by decide) (ct2 rfl ?_)
      match st, hl, hS, step with
      | [], hl, hS, step => exact absurd hl (by show ¬ (0 = d k); omega)
      | x :: rr, hl, hS, step =>
        have hl2 : rr.length + 1 = d k := hl
        have ex : m 95 (rr.length) = x := hS.1
        have ed : nI (d k) - 1 = nI rr.length := by rw [← hl2]; exact nI_pred rr.length
        refine ⟨rr.length, ed, by omega, ?_⟩
        rw [ex]
        refine ⟨fun hx => ⟨rr.length, ed, by omega, fun m1 e1 => ?_⟩, fun hx => ⟨rr.length, ed, by omega, fun m1 e1 => ?_⟩⟩
        · rw [e1]
          refine step (d k) 0 rr.length h3 ?_
          show Sk _ ((if x = 0 then 1 else 0) :: rr)
          rw [if_neg hx]
          exact Sk.push hS.2
        · rw [e1]
          refine step (d k) 1 rr.length h3 ?_
          show Sk _ ((if x = 0 then 1 else 0) :: rr)
          rw [if_pos hx]
          exact Sk.push hS.2
    · obtain ⟨n1, n2, _, _⟩ := neg_nI b hb
      rw [e, if_pos n1, if_neg n2] at step
      rw [e]
      refine ct1 n1 (cf2 n2 ?_)
      match st, hl, hS, step with
      | [], hl, hS, step => exact absurd hl (by show ¬ (0 = d k); omega)
      | [x], hl, hS, step => exact absurd hl (by show ¬ (1 = d k); omega)
      | y :: x :: rr, hl, hS, step =>
        have hl2 : rr.length + 1 + 1 = d k := hl
        have ey : m 95 (rr.length + 1) = y := hS.1
        have ex : m 95 rr.length = x := hS.2.1
        have ed : nI (d k) + (-1) = nI (rr.length + 1) := by rw [← hl2]; exact pk_m1 _
        have ed2 : nI (rr.length + 1) - 1 = nI rr.length := nI_pred _
        rw [ed]
        refine ⟨rr.length, ed2, by omega, rr.length + 1, rfl, by omega, ?_⟩
        rw [ex, ey]
        refine s_two ⟨rr.length, ed2, by omega, fun m1 e1 => ?_⟩
        rw [e1]
        exact step (rr.length + 1) _ rr.length (by omega) (Sk.push hS.2.2)
set_option maxHeartbeats 4000000 in
theorem l_gives {j n nf p q9 : Nat} {c : Nat → Int32} {d : Nat → Nat} {m0 : Mm} {K : Int32 → Mm → Prop} {x0 x1 x2 x3 y0 y1 y2 y3 : Int32} (hn : n < 96) (hp : p ≤ q9) (hq9 : q9 ≤ 1000) (hnf : nf ≤ 4) (h0 : d 0 = 0) (h1 : d n = 1) (hs : ∀ k, k < n → kStp nf p (c k) (d k) (d (k + 1)))
    (hT0 : j < nTx m0) (hL0 : m0 (106 + 3 * j + 1) 1000 = nI n) (hS0 : m0 (106 + 3 * j + 2) 1000 = nI q9) (hq1 : 1 ≤ q9) (hc : ∀ k, k < n → m0 (106 + 3 * j + 1) k = trS (c k)) (hK : ∀ m, Fr (fun _ => False) m0 m → K ((ev c (ch4 x0 x1 x2 x3) n).headD 0) m) :
    ∀ (r k : Nat) (m : Mm), k + r = n → Fr (fun _ => False) m0 m → Sk (m (106 + 3 * j + 2)) (ev c (ch4 x0 x1 x2 x3) k) → L_X6_gives_6 j y0 y1 y2 y3 K (r + 1) x0 x1 x2 x3 (nI (d k)) (nI k) m := by
  intro r
  induction r with
  | zero =>
    intro k m hk hF hS
    have e : k = n := by omega
    subst e
    obtain ⟨f1, f2, f3⟩ := hF.tx j (fun _ _ => fun z => z)
    have hT : j < nTx m := by rw [nTx_c (hF.c 0 (by omega) (fun z => z))]; exact hT0
    have hL : (m (106 + 3 * j + 1) 1000).toNatClampNeg = k := by rw [f2, hL0]; exact nI_clamp (by omega)
    have hSl : (m (106 + 3 * j + 2) 1000).toNatClampNeg = q9 := by rw [f3, hS0]; exact nI_clamp (by omega)
    unfold L_X6_gives_6
    rw [hL, hSl]
    refine ⟨hT, hT, ct1 (nI_le (Nat.le_refl _) (by omega)) ⟨hT, hT, hq9, 0, rfl, by omega, ?_⟩⟩
    have hl := ev_len (f := ch4 x0 x1 x2 x3) hnf h0 hs k (Nat.le_refl _)
    rw [h1] at hl
    have hk2 := hK m hF
    generalize ev c (ch4 x0 x1 x2 x3) k = st at hS hl hk2
    match st, hl with
    | [x], hl =>
      have e2 : m (106 + 3 * j + 2) 0 = x := hS.1
      rw [e2]
      exact hk2
  | succ r ih =>
    intro k m hk hF hS
    obtain ⟨f1, f2, f3⟩ := hF.tx j (fun _ _ => fun z => z)
    have hT : j < nTx m := by rw [nTx_c (hF.c 0 (by omega) (fun z => z))]; exact hT0
    have hL : (m (106 + 3 * j + 1) 1000).toNatClampNeg = n := by rw [f2, hL0]; exact nI_clamp (by omega)
    have hSl : (m (106 + 3 * j + 2) 1000).toNatClampNeg = q9 := by rw [f3, hS0]; exact nI_clamp (by omega)
    have hl := ev_len (f := ch4 x0 x1 x2 x3) hnf h0 hs k (by omega)
    have hd := d_le h0 hs k (by omega)
    unfold L_X6_gives_6
    rw [hL, hSl]
    refine ⟨hT, hT, cf1 (nI_ge (by omega) (by omega)) ⟨hT, hT, by omega, k, rfl, by omega, ?_⟩⟩
    rw [f2, hc k (by omega)]
    have step : ∀ (e : Nat) (v : Int32) (i : Nat), i ≠ 1000 → d (k + 1) = e → Sk (upd (m (106 + 3 * j + 2)) i v) (ev c (ch4 x0 x1 x2 x3) (k + 1)) → L_X6_gives_6 j y0 y1 y2 y3 K (r + 1) x0 x1 x2 x3 (nI e) (nI k + 1) (mu m (106 + 3 * j + 2) i v) := by
      intro e v i hi he hS2
      have z := ih (k + 1) (mu m (106 + 3 * j + 2) i v) (by omega) (hF.trans (Fr.ms m v (by unfold iSt; omega) hi)) (by rw [mu_95]; exact hS2)
      rw [he] at z
      rw [nI_1]
      exact z
    have eev : ev c (ch4 x0 x1 x2 x3) (k + 1) = evS (c k) (ch4 x0 x1 x2 x3) (ev c (ch4 x0 x1 x2 x3) k) := rfl
    rw [eev] at step
    generalize ev c (ch4 x0 x1 x2 x3) k = st at hS hl step
    unfold evS at step
    rcases hs k (by omega) with ⟨⟨q, e, hq⟩, h2, h3⟩ | ⟨e, h2, h3⟩ | ⟨⟨b, hb, e⟩, h2, h3⟩
    · rw [e, if_neg (nI_pos (by omega))] at step
      rw [e, trS_n (by omega)]
      refine cf1 (nI_pos (by omega)) ⟨hT, hT, cf1 (nI_ge (by omega) (by omega)) ⟨hT, ?_⟩⟩
      rcases hq with hq | hq
      · rw [if_neg (ge4 (q := q) (by omega))] at step
        refine cf1 (ge4 (q := q) (by omega)) ⟨hT, hq9, d k, rfl, by omega, fun m1 e1 => ?_⟩
        rw [e1, nI_1 (d k)]
        exact step (d k + 1) (nI q) (d k) (by omega) h2 (by rw [← hl]; exact hS.push)
      · have e9 : nI q - 10000 = nI (q - 10000) := pk_sub (b := 10000) (by omega)
        rw [if_pos (le4 (q := q) (by omega) (by omega)), e9, nI_clamp (by omega)] at step
        refine ct1 (le4 (q := q) (by omega) (by omega)) ?_
        rw [e9]
        refine s_chosen (by omega) ?_
        rw [hSl]
        refine ⟨hT, hq9, d k, rfl, by omega, fun m1 e1 => ?_⟩
        rw [e1, nI_1 (d k)]
        exact step (d k + 1) _ (d k) (by omega) h2 (by rw [← hl]; exact hS.push)
    · rw [e, if_pos (by decide), if_pos rfl] at step
      rw [e]
      refine ct1 (by decide) ?_
      rw [show trS (-10) = -33 by decide]
      unfold B_X6_gives_80
      rw [hSl]
      refine ct2 rfl ?_
      match st, hl, hS, step with
      | [], hl, hS, step => exact absurd hl (by show ¬ (0 = d k); omega)
      | x :: rr, hl, hS, step =>
        have hl2 : rr.length + 1 = d k := hl
        have ex : m (106 + 3 * j + 2) (rr.length) = x := hS.1
        have ed : nI (d k) - 1 = nI rr.length := by rw [← hl2]; exact nI_pred rr.length
        refine cf1 (nI_nlt (a := d k) (b := 1) (by omega) (by omega)) ⟨hT, hT, hT, hq9, rr.length, ed, by omega, ?_⟩
        rw [ex]
        refine ⟨fun hx => ⟨hT, hq9, rr.length, ed, by omega, fun m1 e1 => ?_⟩, fun hx => ⟨hT, hq9, rr.length, ed, by omega, fun m1 e1 => ?_⟩⟩
        · rw [e1]
          refine step (d k) 0 rr.length (by omega) h3 ?_
          show Sk _ ((if x = 0 then 1 else 0) :: rr)
          rw [if_neg hx]
          exact Sk.push hS.2
        · rw [e1]
          refine step (d k) 1 rr.length (by omega) h3 ?_
          show Sk _ ((if x = 0 then 1 else 0) :: rr)
          rw [if_pos hx]
          exact Sk.push hS.2
    · obtain ⟨n1, n2, n3, n4⟩ := neg_nI b hb
      rw [e, if_pos n1, if_neg n2] at step
      rw [e]
      refine ct1 n3 ?_
      unfold B_X6_gives_80
      refine cf2 n4 ?_
      unfold B_X6_gives_122
      rw [hSl]
      match st, hl, hS, step with
      | [], hl, hS, step => exact absurd hl (by show ¬ (0 = d k); omega)
      | [x], hl, hS, step => exact absurd hl (by show ¬ (1 = d k); omega)
      | y :: x :: rr, hl, hS, step =>
        have hl2 : rr.length + 1 + 1 = d k := hl
        have ey : m (106 + 3 * j + 2) (rr.length + 1) = y := hS.1
        have ex : m (106 + 3 * j + 2) rr.length = x := hS.2.1
        have ed : nI (d k) + (-1) = nI (rr.length + 1) := by rw [← hl2]; exact pk_m1 _
        have ed2 : nI (rr.length + 1) - 1 = nI rr.length := nI_pred _
        refine cf1 (nI_nlt (a := d k) (b := 2) (by omega) (by omega)) ?_
        rw [ed]
        refine ⟨hT, hT, hT, hq9, rr.length, ed2, by omega, hT, hT, hq9, rr.length + 1, rfl, by omega, ?_⟩
        rw [ex, ey]
        refine s_joined hb ?_
        rw [hSl]
        refine ⟨hT, hq9, rr.length, ed2, by omega, fun m1 e1 => ?_⟩
        rw [e1]
        exact step (rr.length + 1) _ rr.length (by omega) (by omega) (Sk.push hS.2.2)
