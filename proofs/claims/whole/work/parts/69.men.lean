/-! the calls about men -/
abbrev PCl : Nat → Prop := fun q => (1 ≤ q ∧ q ≤ 13) ∨ (27 ≤ q ∧ q ≤ 44) ∨ q = 53
abbrev PRf : Nat → Prop := fun q => q = 83 ∨ (85 ≤ q ∧ q ≤ 88) ∨ (92 ≤ q ∧ q ≤ 96) ∨ q = 104
theorem fin1 {c : Nat} {mem m m2 : Mm} {b : Rw} (h : Iv c mem) (f1 : Fr PCl mem m) (hA : AlA m 1 b) (f2 : Fr PRf m m2) (e2 : m2 83 = b) (hw : WfR b) : Iv (c + 1) m2 := by
  refine h.al2 ((f1.mono (fun q hq => by omega)).trans (f2.mono (fun q hq => by omega))) ?_
  unfold Iv1
  rw [e2]
  exact ⟨hA.fr f2 hw.1.2.1 (by omega) (by omega) (fun q a1 a2 => by omega) (fun q a1 => by omega), hw⟩
theorem fC {m m' : Mm} (h : Fr (PAl 1) m m') : Fr PCl m m' := h.mono (fun q hq => by omega)
theorem fC27 {m m' : Mm} (h : Fr (PAl 27) m m') : Fr PCl m m' := h.mono (fun q hq => by omega)
theorem fR {m m' : Mm} (h : Fr P83 m m') : Fr PRf m m' := h.mono (fun q hq => by omega)
theorem fR9 {m m' : Mm} (h : Fr P956 m m') : Fr PRf m m' := h.mono (fun q hq => by omega)
theorem fR95 {m m' : Mm} (h : Fr (fun q => q = 95) m m') : Fr PRf m m' := h.mono (fun q hq => by omega)
theorem s_X1_worth {k : Nat} {mem : Mm} {K : Int32 → Mm → Prop} (h : K (worthS (mem k 0) (mem k 1) (mem k 2) (mem k 4)) mem) : W_X1_worth k mem K := by
  unfold W_X1_worth
  unfold worthS at h
  repeat' (first | exact h | (refine ⟨fun hc => ?_, fun hc => ?_⟩ <;> first | rw [if_pos hc] at h | rw [if_neg hc] at h))
theorem s_worthOf {i : Nat} {mem : Mm} {K : Int32 → Mm → Prop} (hi : i < 9) (h : K (worthS (mem 83 (7 + 6 * i + 0)) (mem 83 (7 + 6 * i + 1)) (mem 83 (7 + 6 * i + 2)) (mem 83 (7 + 6 * i + 4))) mem) : W_X9_worthOf (nI i) mem K := by
  unfold W_X9_worthOf
  refine s_X9_of (i := i) (j := 4) hi (by omega) ?_
  refine s_X9_of (i := i) (j := 2) hi (by omega) ?_
  refine s_X9_of (i := i) (j := 1) hi (by omega) ?_
  refine s_X9_of (i := i) (j := 0) hi (by omega) ?_
  unfold worthS at h
  repeat' (first | exact h | exact s_X9_of (i := i) (j := 4) hi (by omega) h | (refine ⟨fun hc => ?_, fun hc => ?_⟩ <;> first | rw [if_pos hc] at h | rw [if_neg hc] at h))
def undB (kd w : Nat) : Bool := w == 0 || kd == w || (w == 1 && kd == 3) || (w == 2 && kd == 4)
def isoF : Nat → Int32 → Int32 → Int32 → Option Bool
  | 0, _, _, _ => none
  | n + 1, w, l2, l3 => if 6 ≤ l3 then some false else if 0 ≤ l2 ∧ l2 ≤ 5 then (if l2 = w then some true else isoF n w ((st_F 2).getD l2.toNatClampNeg 0) (l3 + 1)) else some false
theorem l_isOf {k : Nat} {p0 w : Int32} {mem : Mm} {K : Bool → Mm → Prop} : ∀ (n : Nat) (l2 l3 : Int32) (bb : Bool), isoF n w l2 l3 = some bb → K bb mem → L_X1_isOf_7 k p0 K n w l2 l3 mem := by
  intro n
  induction n with
  | zero => intro l2 l3 bb h; cases h
  | succ n ih =>
    intro l2 l3 bb h hk
    unfold isoF at h
    unfold L_X1_isOf_7
    refine ⟨fun hc => ?_, fun hc => ?_⟩
    · rw [if_pos hc] at h
      cases h
      exact hk
    · rw [if_neg hc] at h
      by_cases hr : 0 ≤ l2 ∧ l2 ≤ 5
      · rw [if_pos hr] at h
        refine s_iw_y hr (zt1 ⟨fun hw => ?_, fun hw => ?_⟩)
        · rw [if_neg hw] at h
          obtain ⟨z, hz, ez⟩ := Rg.of (y := 5) (n := 5) rfl hr
          refine ⟨z, ez, by omega, ih _ _ bb ?_ hk⟩
          rw [ez, nI_clamp (by omega)] at h
          exact h
        · rw [if_pos hw] at h
          cases h
          exact hk
      · rw [if_neg hr] at h
        cases h
        exact s_iw_n hr (zf1 hk)
theorem tb_iso : ∀ kd, kd < 6 → ∀ w, w < 6 → isoF 7 (nI w) (nI kd) 0 = some (undB kd w) := by decide +kernel
theorem s_isOf {k kd w : Nat} {mem : Mm} {K : Bool → Mm → Prop} (hkd : kd ≤ 5) (hw : w ≤ 5) (ek : mem k 0 = nI kd) (h : K (undB kd w) mem) : W_X1_isOf k (nI w) mem K := by
  unfold W_X1_isOf
  refine ⟨7, l_isOf 7 _ _ _ ?_ h⟩
  rw [ek]
  exact tb_iso kd (by omega) w (by omega)
def isuF (p0 p1 : Int32) : Bool := if p1 = 0 then true else if p0 = p1 then true else if p1 = 1 then (if p0 = 3 then true else if p1 = 2 then (if p0 = 4 then true else false) else false) else if p1 = 2 then (if p0 = 4 then true else false) else false
theorem s_isUnder0 {p0 p1 : Int32} {mem : Mm} {K : Bool → Mm → Prop} (h : K (isuF p0 p1) mem) : W_X9_isUnder p0 p1 mem K := by
  unfold W_X9_isUnder
  unfold isuF at h
  repeat' (first | exact h | (refine ⟨fun hc => ?_, fun hc => ?_⟩ <;> first | rw [if_pos hc] at h | rw [if_neg hc] at h))
theorem tb_isu : ∀ kd, kd < 6 → ∀ w, w < 6 → isuF (nI kd) (nI w) = undB kd w := by decide +kernel
theorem s_isUnder {kd w : Nat} {mem : Mm} {K : Bool → Mm → Prop} (hkd : kd ≤ 5) (hw : w ≤ 5) (h : K (undB kd w) mem) : W_X9_isUnder (nI kd) (nI w) mem K := by
  refine s_isUnder0 ?_
  rw [tb_isu kd (by omega) w (by omega)]
  exact h
theorem s_isTopic_y {v : Int32} {mem : Mm} {K : Bool → Mm → Prop} (hc : 0 ≤ v ∧ v ≤ 7) (h : K true mem) : W_X9_isTopic v mem K := s_X9_isTopic (by rw [decide_eq_true hc]; exact h)
theorem s_isTopic_n {v : Int32} {mem : Mm} {K : Bool → Mm → Prop} (hc : ¬ (0 ≤ v ∧ v ≤ 7)) (h : K false mem) : W_X9_isTopic v mem K := s_X9_isTopic (by rw [decide_eq_false hc]; exact h)
/-! a man comes -/
def comS (a : Rw) (kd nv wt so : Int32) : Rw := upd (upd (upd (upd (upd (upd (upd a 1 (a 1 + 1)) (7 + 6 * nm a + 0) kd) (7 + 6 * nm a + 1) nv) (7 + 6 * nm a + 2) wt) (7 + 6 * nm a + 3) so) (7 + 6 * nm a + 4) 0) (7 + 6 * nm a + 5) 0
theorem comS_k {a : Rw} {kd nv wt so : Int32} {q : Nat} (h1 : q ≠ 1) (h2 : q < 7 + 6 * nm a ∨ 7 + 6 * nm a + 5 < q) : comS a kd nv wt so q = a q := by
  unfold comS
  rw [pk_un (by omega), pk_un (by omega), pk_un (by omega), pk_un (by omega), pk_un (by omega), pk_un (by omega), pk_un (by omega)]
theorem comS_1 {a : Rw} {kd nv wt so : Int32} : comS a kd nv wt so 1 = a 1 + 1 := by
  unfold comS
  rw [pk_un (by omega), pk_un (by omega), pk_un (by omega), pk_un (by omega), pk_un (by omega), pk_un (by omega), pk_us]
theorem comS_n {a : Rw} {kd nv wt so : Int32} (hw : Wm a) : nm (comS a kd nv wt so) = nm a + 1 := by
  have h9 := hw.2.1
  show (comS a kd nv wt so 1).toNatClampNeg = _
  rw [comS_1, hw.1, nI_1]
  exact nI_clamp (by omega)
theorem comS_v {a : Rw} {kd nv wt so : Int32} {j : Nat} (hj : j < 6) : comS a kd nv wt so (7 + 6 * nm a + j) = [kd, nv, wt, so, 0, 0].getD j 0 := by
  unfold comS
  have c6 : j = 0 ∨ j = 1 ∨ j = 2 ∨ j = 3 ∨ j = 4 ∨ j = 5 := by omega
  rcases c6 with rfl | rfl | rfl | rfl | rfl | rfl
  · rw [pk_un (by omega), pk_un (by omega), pk_un (by omega), pk_un (by omega), pk_un (by omega), pk_us]; rfl
  · rw [pk_un (by omega), pk_un (by omega), pk_un (by omega), pk_un (by omega), pk_us]; rfl
  · rw [pk_un (by omega), pk_un (by omega), pk_un (by omega), pk_us]; rfl
  · rw [pk_un (by omega), pk_un (by omega), pk_us]; rfl
  · rw [pk_un (by omega), pk_us]; rfl
  · rw [pk_us]; rfl
theorem comS_w {a : Rw} {kd nv wt so : Int32} (hw : Wm a) (hn : nm a < 9) (r0 : Rg kd 5) (r1 : Rg nv 99) (r2 : Rg wt 99) (r3 : Rg so 7) : Wm (comS a kd nv wt so) := by
  refine ⟨?_, by rw [comS_n hw]; omega, fun i j hi hj => ?_⟩
  · rw [comS_n hw, comS_1, hw.1, nI_1]
  · rw [comS_n hw] at hi
    by_cases c1 : i = nm a
    · rw [c1, comS_v hj]
      have c6 : j = 0 ∨ j = 1 ∨ j = 2 ∨ j = 3 ∨ j = 4 ∨ j = 5 := by omega
      rcases c6 with rfl | rfl | rfl | rfl | rfl | rfl
      · exact r0
      · exact r1
      · exact r2
      · exact r3
      · exact ⟨0, by decide, rfl⟩
      · exact ⟨0, by decide, rfl⟩
    · rw [comS_k (by omega) (by omega)]
      exact hw.2.2 i j (by omega) hj
theorem comS_t {a : Rw} {kd nv wt so : Int32} (hn : nm a < 9) : TeqR a (comS a kd nv wt so) := fun q hq => comS_k (by omega) (by omega)
theorem s_take {k : Nat} (hk : 1 ≤ k) (hk2 : k + 13 ≤ 40) {a : Rw} {kd nv wt so : Int32} {mem : Mm} {K : Int32 → Mm → Prop} (hw : Wm a) (hn : nm a < 9) (hA : AlA mem k a) (hK : ∀ m, Fr (PAl k) mem m → AlA m k (comS a kd nv wt so) → K (nI (nm a)) m) : W_X0_take k kd nv wt so mem K := by
  have ek : mem k 1 = nI (nm a) := by rw [hA.1.1]; exact hw.1
  unfold W_X0_take
  rw [ek]
  refine ct1 (nI_lt (a := nm a) (b := 9) (by omega) (by omega)) ⟨nm a, rfl, hn, fun m0 e0 m1 e1 m2 e2 m3 e3 m4 e4 m5 e5 m6 e6 => ?_⟩
  have oth : ∀ q, q ≠ k + 4 + nm a → m5 q = mem q := by
    intro q nq
    rw [e5, mu_row_n _ _ _ nq, e4, mu_row_n _ _ _ nq, e3, mu_row_n _ _ _ nq, e2, mu_row_n _ _ _ nq, e1, mu_row_n _ _ _ nq, e0, mu_row_n _ _ _ nq]
  have own : ∀ j, j < 6 → m5 (k + 4 + nm a) j = [kd, nv, wt, so, 0, 0].getD j 0 := by
    intro j hj
    rw [e5, mu_row_s, e4, mu_row_s, e3, mu_row_s, e2, mu_row_s, e1, mu_row_s, e0, mu_row_s]
    have c6 : j = 0 ∨ j = 1 ∨ j = 2 ∨ j = 3 ∨ j = 4 ∨ j = 5 := by omega
    rcases c6 with rfl | rfl | rfl | rfl | rfl | rfl <;> simp [upd]
  have e51 : m5 k 1 = nI (nm a) := by rw [oth k (by omega)]; exact ek
  rw [e51, nI_1] at e6
  have e61 : m6 k 1 = nI (nm a + 1) := by rw [e6]; exact mu_s _ _ _ _
  rw [e61, nI_pred]
  have f6 : Fr (PAl k) mem m6 := by
    rw [e6]
    refine Fr.trans (m2 := m5) ⟨fun q p1 p2 => oth q (fun z => p1 ⟨by omega, by omega⟩), fun q p1 => by rw [oth q (by unfold iSt at p1; omega)]⟩ (Fr.m1 _ _ _ ⟨by omega, by omega⟩ (by omega))
  have fk : ∀ q, q ≠ k → q ≠ k + 4 + nm a → m6 q = mem q := by
    intro q n1 n2
    rw [e6, mu_row_n _ _ _ n1]
    exact oth q n2
  have fkk : ∀ j, j ≠ 1 → m6 k j = mem k j := by
    intro j nj
    rw [e6, mu_j _ _ _ nj, oth k (by omega)]
  refine hK m6 f6 ⟨⟨?_, fun i j hi hj => ?_⟩, ?_, ?_⟩
  · rw [e61, comS_1, hw.1, nI_1]
  · rw [comS_n hw] at hi
    by_cases c1 : i = nm a
    · rw [c1, comS_v hj, e6, mu_row_n _ _ _ (by omega)]
      exact own j hj
    · rw [fk _ (by omega) (by omega), comS_k (by omega) (by omega)]
      exact hA.1.2 i j (by omega) hj
  · unfold AlN
    rw [fkk 2 (by omega), fkk 3 (by omega), fkk 4 (by omega), fkk 5 (by omega), fkk 6 (by omega), comS_k (by omega) (by omega), comS_k (by omega) (by omega), comS_k (by omega) (by omega), comS_k (by omega) (by omega), comS_k (by omega) (by omega)]
    exact hA.2.1
  · have fr2 : Fr (fun q => q = k ∨ q = k + 4 + nm a) mem m6 := ⟨fun q p1 _ => fk q (fun z => p1 (Or.inl z)) (fun z => p1 (Or.inr z)), fun q p1 => by rw [fk q (by unfold iSt at p1; omega) (by unfold iSt at p1; omega)]⟩
    exact (hA.2.2.fr fr2 (by omega) (fkk 8 (by omega)) (by omega) (by omega) (by omega) (fun q hq => by omega)).eq (comS_t hn)
theorem s_comes {kd nv wt so : Int32} {mem : Mm} {K : Int32 → Mm → Prop} (hw : Wm (mem 83)) (hn : nm (mem 83) < 9) (hK : ∀ m, Fr P83 mem m → m 83 = comS (mem 83) kd nv wt so → K (nI (nm (mem 83))) m) : W_X9_comes kd nv wt so mem K := by
  unfold W_X9_comes
  intro m0 e0
  rw [hw.1]
  refine s_X9_put (i := nm (mem 83)) (j := 0) hn (by omega) ?_
  refine s_X9_put (i := nm (mem 83)) (j := 1) hn (by omega) ?_
  refine s_X9_put (i := nm (mem 83)) (j := 2) hn (by omega) ?_
  refine s_X9_put (i := nm (mem 83)) (j := 3) hn (by omega) ?_
  refine s_X9_put (i := nm (mem 83)) (j := 4) hn (by omega) ?_
  refine s_X9_put (i := nm (mem 83)) (j := 5) hn (by omega) ?_
  refine hK _ ?_ ?_
  · rw [e0]
    exact ((((((Fr.m1 _ _ _ (Or.inl rfl) (by omega)).trans (Fr.m1 _ _ _ (Or.inl rfl) (by omega))).trans (Fr.m1 _ _ _ (Or.inl rfl) (by omega))).trans (Fr.m1 _ _ _ (Or.inl rfl) (by omega))).trans (Fr.m1 _ _ _ (Or.inl rfl) (by omega))).trans (Fr.m1 _ _ _ (Or.inl rfl) (by omega))).trans (Fr.m1 _ _ _ (Or.inl rfl) (by omega))
  · rw [mu_row_s, mu_row_s, mu_row_s, mu_row_s, mu_row_s, mu_row_s, e0, mu_row_s]
    rfl
theorem WfR.com {a : Rw} {kd nv wt so : Int32} (h : WfR a) (hn : nm a < 9) (r0 : Rg kd 5) (r1 : Rg nv 99) (r2 : Rg wt 99) (r3 : Rg so 7) : WfR (comS a kd nv wt so) :=
  ⟨comS_w h.1 hn r0 r1 r2 r3, h.2.1.eq (comS_t hn), fun q hq => by rw [comS_k (by omega) (by omega)]; exact h.2.2.1 q hq, by rw [comS_k (by omega) (by omega)]; exact h.2.2.2⟩
theorem ak_man {c : Nat} (w0 w1 w2 w3 : Int32) (mem : Mm) (h : Iv c mem) : W_X8_man w0 w1 w2 w3 mem (fun v m => W_X9_man w0 w1 w2 w3 m (fun v2 m2 => v = v2 ∧ Iv (c + 1) m2)) := by
  obtain ⟨hA, hR⟩ := h.1
  have hw := hR.1
  have h9 := hw.2.1
  unfold W_X8_man W_X9_man
  by_cases c0 : 0 ≤ w0 ∧ w0 ≤ 5
  · refine s_iw_y c0 ?_
    first | refine zt1 ?_ | refine zt2 ?_
    by_cases c1 : 0 ≤ w1 ∧ w1 ≤ 99
    · refine s_iw_y c1 ?_
      first | refine zt1 ?_ | refine zt2 ?_
      by_cases c2 : 0 ≤ w2 ∧ w2 ≤ 99
      · refine s_iw_y c2 ?_
        first | refine zt1 ?_ | refine zt2 ?_
        by_cases c3 : 0 ≤ w3 ∧ w3 ≤ 7
        · refine s_iw_y c3 ?_
          first | refine zt1 ?_ | refine zt2 ?_
          have ek : mem 1 1 = nI (nm (mem 83)) := by rw [hA.1.1]; exact hw.1
          rw [ek]
          by_cases c4 : nm (mem 83) < 9
          · first | refine ct1 (nI_lt (a := nm (mem 83)) (b := 9) (by omega) (by omega)) ?_ | refine ct2 (nI_lt (a := nm (mem 83)) (b := 9) (by omega) (by omega)) ?_
            refine s_take (by omega) (by omega) hw c4 hA (fun m f1 A1 => ?_)
            have q1 : m 83 = mem 83 := f1.c 83 (by omega) (by omega)
            refine s_in_y c0 ?_
            first | refine zt1 ?_ | refine zt2 ?_
            refine s_in_y c1 ?_
            first | refine zt1 ?_ | refine zt2 ?_
            refine s_in_y c2 ?_
            first | refine zt1 ?_ | refine zt2 ?_
            refine s_isTopic_y c3 ?_
            first | refine zt1 ?_ | refine zt2 ?_
            rw [q1, hw.1]
            first | refine cf1 (fun z => by have := (nI_eq (a := nm (mem 83)) (b := 9) (by omega) (by omega)).mp z; omega) ?_ | refine cf2 (fun z => by have := (nI_eq (a := nm (mem 83)) (b := 9) (by omega) (by omega)).mp z; omega) ?_
            refine s_comes (by rw [q1]; exact hw) (by rw [q1]; exact c4) (fun m2 f2 e2 => ?_)
            rw [q1] at e2 ⊢
            refine ⟨rfl, fin1 h (fC f1) A1 (fR f2) e2 (hR.com c4 (Rg.of rfl c0) (Rg.of rfl c1) (Rg.of rfl c2) (Rg.of rfl c3))⟩
          · first | refine cf1 (nI_nlt (a := nm (mem 83)) (b := 9) (by omega) (by omega)) ?_ | refine cf2 (nI_nlt (a := nm (mem 83)) (b := 9) (by omega) (by omega)) ?_
            refine s_in_y c0 ?_
            first | refine zt1 ?_ | refine zt2 ?_
            refine s_in_y c1 ?_
            first | refine zt1 ?_ | refine zt2 ?_
            refine s_in_y c2 ?_
            first | refine zt1 ?_ | refine zt2 ?_
            refine s_isTopic_y c3 ?_
            first | refine zt1 ?_ | refine zt2 ?_
            rw [hw.1]
            have c9 : nm (mem 83) = 9 := by omega
            first | refine ct1 (by rw [c9]; rfl) ?_ | refine ct2 (by rw [c9]; rfl) ?_
            exact ⟨rfl, h.up⟩
        · refine s_iw_n c3 ?_
          first | refine zf1 ?_ | refine zf2 ?_
          refine s_in_y c0 ?_
          first | refine zt1 ?_ | refine zt2 ?_
          refine s_in_y c1 ?_
          first | refine zt1 ?_ | refine zt2 ?_
          refine s_in_y c2 ?_
          first | refine zt1 ?_ | refine zt2 ?_
          refine s_isTopic_n c3 ?_
          first | refine zf1 ?_ | refine zf2 ?_
          exact ⟨rfl, h.up⟩
      · refine s_iw_n c2 ?_
        first | refine zf1 ?_ | refine zf2 ?_
        refine s_in_y c0 ?_
        first | refine zt1 ?_ | refine zt2 ?_
        refine s_in_y c1 ?_
        first | refine zt1 ?_ | refine zt2 ?_
        refine s_in_n c2 ?_
        first | refine zf1 ?_ | refine zf2 ?_
        exact ⟨rfl, h.up⟩
    · refine s_iw_n c1 ?_
      first | refine zf1 ?_ | refine zf2 ?_
      refine s_in_y c0 ?_
      first | refine zt1 ?_ | refine zt2 ?_
      refine s_in_n c1 ?_
      first | refine zf1 ?_ | refine zf2 ?_
      exact ⟨rfl, h.up⟩
  · refine s_iw_n c0 ?_
    first | refine zf1 ?_ | refine zf2 ?_
    refine s_in_n c0 ?_
    first | refine zf1 ?_ | refine zf2 ?_
    exact ⟨rfl, h.up⟩
