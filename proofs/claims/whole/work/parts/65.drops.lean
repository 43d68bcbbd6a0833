/-! pushes, worth; alleys and rows; one falls with all that it takes -/
def pushS (kd wt : Int32) : Int32 := if kd = 1 then wt + 15 else if kd = 2 then wt - 10 else if kd = 3 then (wt + 15) / 2 else if kd = 4 then 2 * (wt - 10) else if kd = 5 then 0 else wt
theorem s_X1_pushing {k : Nat} {mem : Mm} {K : Int32 → Mm → Prop} (h : K (pushS (mem k 0) (mem k 2)) mem) : W_X1_pushing k mem K := by
  unfold W_X1_pushing
  unfold pushS at h
  repeat' (first | exact h | (refine ⟨fun hc => ?_, fun hc => ?_⟩ <;> first | rw [if_pos hc] at h | rw [if_neg hc] at h))
theorem s_pushesOf {i : Nat} {mem : Mm} {K : Int32 → Mm → Prop} (hi : i < 9) (h : K (pushS (mem 83 (7 + 6 * i + 0)) (mem 83 (7 + 6 * i + 2))) mem) : W_X9_pushesOf (nI i) mem K := by
  unfold W_X9_pushesOf
  refine s_X9_of (i := i) (j := 2) hi (by omega) ?_
  refine s_X9_of (i := i) (j := 0) hi (by omega) ?_
  unfold pushS at h
  repeat' (first | exact h | (refine ⟨fun hc => ?_, fun hc => ?_⟩ <;> first | rw [if_pos hc] at h | rw [if_neg hc] at h))
def AlN (mem : Mm) (k : Nat) (a : Rw) : Prop := mem k 2 = a 3 ∧ mem k 3 = a 4 ∧ mem k 4 = a 5 ∧ mem k 5 = a 2 ∧ mem k 6 = a 0
def AlA (mem : Mm) (k : Nat) (a : Rw) : Prop := AlM mem k a ∧ AlN mem k a ∧ AlT mem k a
abbrev PAl (k : Nat) : Nat → Prop := fun q => k ≤ q ∧ q < k + 13
theorem TxR.fr {P : Nat → Prop} {m m' : Mm} {x : Int32} {a : Rw} {t : Nat} (h : TxR m x a t) (hf : Fr P m m') (h0 : ¬ P 0) (h6 : ∀ q, 106 ≤ q → ¬ P q) : TxR m' x a t := by
  obtain ⟨j, g1, g2, g3, g4, g5, g6, g7, g8⟩ := h
  obtain ⟨f1, f2, f3⟩ := hf.tx j h6
  have en := nTx_c (hf.c 0 (by omega) h0)
  exact ⟨j, g1, by rw [en]; exact g2, by rw [en]; exact g3, by rw [f1]; exact g4, by rw [f1]; exact g5, by rw [f2]; exact g6, fun i hi => by rw [f2]; exact g7 i hi, by rw [f3]; exact g8⟩
def TeqR (a b : Rw) : Prop := ∀ q, q = 6 ∨ 61 ≤ q → b q = a q
theorem TeqR.tn {a b : Rw} (h : TeqR a b) : nt b = nt a := by unfold nt; rw [h 6 (Or.inl rfl)]
theorem TeqR.cd {a b : Rw} (h : TeqR a b) (t : Nat) : cdl b t = cdl a t := by unfold cdl; rw [h _ (Or.inr (by omega))]
theorem TeqR.c1 {a b : Rw} (h : TeqR a b) (key n : Nat) : ctN b key n = ctN a key n := by
  induction n with
  | zero => rfl
  | succ n ih =>
    unfold ctN
    rw [h _ (Or.inr (by omega)), ih]
theorem TeqR.cs {a b : Rw} (h : TeqR a b) (key : Nat) : ctS b key = ctS a key := by unfold ctS; rw [h.tn, h.c1]
theorem TeqR.fn {a b : Rw} (h : TeqR a b) (t : Nat) : (fun i => b (89 + 96 * t + i)) = (fun i => a (89 + 96 * t + i)) := funext (fun i => h _ (Or.inr (by omega)))
theorem TeqR.et {a b : Rw} (h : TeqR a b) (t : Nat) (f : Nat → Int32) : evT b t f = evT a t f := by
  unfold evT
  rw [h.cd t, h.fn t]
theorem TxR.eq {m : Mm} {x : Int32} {a b : Rw} {t : Nat} (h : TxR m x a t) (e : TeqR a b) : TxR m x b t := by
  obtain ⟨j, g1, g2, g3, g4, g5, g6, g7, g8⟩ := h
  exact ⟨j, g1, g2, g3, by rw [e _ (Or.inr (by omega))]; exact g4, by rw [e _ (Or.inr (by omega))]; exact g5, by rw [e.cd]; exact g6, fun i hi => by rw [e _ (Or.inr (by omega))]; rw [e.cd] at hi; exact g7 i hi, by rw [e _ (Or.inr (by omega))]; exact g8⟩
theorem AlT.eq {m : Mm} {k : Nat} {a b : Rw} (h : AlT m k a) (e : TeqR a b) : AlT m k b :=
  ⟨by rw [e 6 (Or.inl rfl)]; exact h.1, fun t ht => (h.2.1 t (by rw [e.tn] at ht; exact ht)).eq e, fun key hk => by rw [e.cs]; exact h.2.2 key hk⟩
theorem Wt.eq {a b : Rw} (h : Wt a) (e : TeqR a b) : Wt b := by
  refine ⟨by rw [e 6 (Or.inl rfl), e.tn]; exact h.1, by rw [e.tn]; exact h.2.1, fun t ht => ?_⟩
  rw [e.tn] at ht
  rw [e _ (Or.inr (by omega)), e _ (Or.inr (by omega)), e.cd, e.fn]
  exact h.2.2 t ht
theorem AlT.fr {P : Nat → Prop} {m m' : Mm} {k : Nat} {a : Rw} (h : AlT m k a) (hf : Fr P m m') (hk : k + 13 ≤ 106) (h8 : m' k 8 = m k 8) (p0 : ¬ P 0) (p2 : ¬ P (k + 2)) (p3 : ¬ P (k + 3)) (p6 : ∀ q, 106 ≤ q → ¬ P q) : AlT m' k a :=
  ⟨h8.trans h.1, fun t ht => by rw [hf.c (k + 2) (by omega) p2]; exact (h.2.1 t ht).fr hf p0 p6, fun key hkey => by rw [hf.c (k + 3) (by omega) p3]; exact h.2.2 key hkey⟩
theorem AlA.fr {P : Nat → Prop} {m m' : Mm} {k : Nat} {a : Rw} (h : AlA m k a) (hf : Fr P m m') (hn : nm a ≤ 9) (hk : k + 13 ≤ 106) (p0 : ¬ P 0) (pk : ∀ q, k ≤ q → q < k + 13 → ¬ P q) (p6 : ∀ q, 106 ≤ q → ¬ P q) : AlA m' k a := by
  have ek := hf.c k (by omega) (pk k (by omega) (by omega))
  refine ⟨h.1.fr hf hn hk pk, ?_, h.2.2.fr hf hk (by rw [ek]) p0 (pk _ (by omega) (by omega)) (pk _ (by omega) (by omega)) p6⟩
  unfold AlN
  rw [ek]
  exact h.2.1
theorem AlA.man {m : Mm} {k i j : Nat} {a : Rw} {v : Int32} (h : AlA m k a) (hk : 1 ≤ k) (hk2 : k + 13 ≤ 106) (hn : nm a ≤ 9) (hi : i < nm a) (hj : j < 6) : AlA (mu m (k + 4 + i) j v) k (upd a (7 + 6 * i + j) v) := by
  have ek : mu m (k + 4 + i) j v k = m k := mu_row_n m j v (by omega)
  have en : nm (upd a (7 + 6 * i + j) v) = nm a := nm_upd (by omega)
  have hf : Fr (fun q => q = k + 4 + i) m (mu m (k + 4 + i) j v) := Fr.m1 m j v rfl (by omega)
  refine ⟨⟨?_, fun i2 j2 hi2 hj2 => ?_⟩, ?_, ?_⟩
  · rw [ek, pk_un (by omega)]; exact h.1.1
  · rw [en] at hi2
    by_cases c1 : i2 = i ∧ j2 = j
    · rw [c1.1, c1.2, mu_s, pk_us]
    · rw [mu_if, if_neg (by omega), pk_un (by omega)]
      exact h.1.2 i2 j2 hi2 hj2
  · unfold AlN
    rw [ek, pk_un (by omega), pk_un (by omega), pk_un (by omega), pk_un (by omega), pk_un (by omega)]
    exact h.2.1
  · exact (h.2.2.fr hf hk2 (by rw [ek]) (by omega) (by omega) (by omega) (fun q hq => by omega)).eq (fun q hq => pk_un (by omega))
theorem AlA.num {m : Mm} {k f q : Nat} {a : Rw} {v : Int32} (h : AlA m k a) (hk : 1 ≤ k) (hk2 : k + 13 ≤ 106) (hn : nm a ≤ 9) (hfq : (f = 2 ∧ q = 3) ∨ (f = 3 ∧ q = 4) ∨ (f = 4 ∧ q = 5) ∨ (f = 5 ∧ q = 2) ∨ (f = 6 ∧ q = 0)) : AlA (mu m k f v) k (upd a q v) := by
  have en : nm (upd a q v) = nm a := nm_upd (by omega)
  have hf : Fr (fun z => z = k) m (mu m k f v) := Fr.m1 m f v rfl (by omega)
  obtain ⟨a1, a2, a3⟩ := h
  refine ⟨⟨?_, fun i2 j2 hi2 hj2 => ?_⟩, ?_, ?_⟩
  · rw [mu_j m k v (by omega), pk_un (by omega)]; exact a1.1
  · rw [en] at hi2
    rw [mu_k m f v (by omega), pk_un (by omega)]
    exact a1.2 i2 j2 hi2 hj2
  · obtain ⟨b1, b2, b3, b4, b5⟩ := a2
    unfold AlN
    rcases hfq with ⟨rfl, rfl⟩ | ⟨rfl, rfl⟩ | ⟨rfl, rfl⟩ | ⟨rfl, rfl⟩ | ⟨rfl, rfl⟩
    · refine ⟨by rw [mu_s, pk_us], ?_, ?_, ?_, ?_⟩ <;> rw [mu_j m k v (by omega), pk_un (by omega)] <;> assumption
    · refine ⟨?_, by rw [mu_s, pk_us], ?_, ?_, ?_⟩ <;> rw [mu_j m k v (by omega), pk_un (by omega)] <;> assumption
    · refine ⟨?_, ?_, by rw [mu_s, pk_us], ?_, ?_⟩ <;> rw [mu_j m k v (by omega), pk_un (by omega)] <;> assumption
    · refine ⟨?_, ?_, ?_, by rw [mu_s, pk_us], ?_⟩ <;> rw [mu_j m k v (by omega), pk_un (by omega)] <;> assumption
    · refine ⟨?_, ?_, ?_, ?_, by rw [mu_s, pk_us]⟩ <;> rw [mu_j m k v (by omega), pk_un (by omega)] <;> assumption
  · exact (a3.fr hf hk2 (mu_j m k v (by omega)) (by omega) (by omega) (by omega) (fun q hq => by omega)).eq (fun z hz => pk_un (by omega))
/-! who stands behind -/
def nbI (j : Nat) : Int32 := if j = 9 then -1 else nI j
def nxL (i : Nat) : Nat := [1, 3, 4, 9, 6, 7, 9, 8, 9].getD i 9
def nxR (i : Nat) : Nat := [2, 4, 5, 6, 7, 9, 8, 9, 9].getD i 9
theorem tb_nx : ∀ i, i < 9 → ((st_F 0).getD i 0 = nbI (nxL i) ∧ (st_F 3).getD i 0 = nbI (nxL i) ∧ (st_F 1).getD i 0 = nbI (nxR i) ∧ (st_F 4).getD i 0 = nbI (nxR i)) ∧ i < nxL i ∧ nxL i ≤ 9 ∧ i < nxR i ∧ nxR i ≤ 9 := by decide +kernel
/-- one is down -/
def dnS (a : Rw) (i : Nat) : Rw := upd (upd (upd a (7 + 6 * i + 5) 1) (7 + 6 * i + 4) (clampI (a (7 + 6 * i + 4) + 1) 0 9999)) 3 (a 3 + 1)
def hitG (rc : Rw → Nat → Rw) (a : Rw) (j : Nat) (t push : Int32) : Rw := if j < nm a ∧ a (7 + 6 * j + 5) = 0 ∧ bearS a j t < push then rc a j else a
def drF : Nat → Rw → Nat → Int32 → Int32 → Rw
  | 0, a, _, _, _ => a
  | n + 1, a, i, t, u => if u = -1 then (if u = 1 then dnS a i else hitG (fun b j => drF n b j t u) (dnS a i) (nxL i) t (pushS (a (7 + 6 * i + 0)) (a (7 + 6 * i + 2)))) else hitG (fun b j => drF n b j t u) (if u = 1 then dnS a i else hitG (fun b j => drF n b j t u) (dnS a i) (nxL i) t (pushS (a (7 + 6 * i + 0)) (a (7 + 6 * i + 2)))) (nxR i) t (pushS (a (7 + 6 * i + 0)) (a (7 + 6 * i + 2)))
/-- places that falling leaves -/
def Kq (q : Nat) : Prop := q ≠ 3 ∧ (q < 7 ∨ 61 ≤ q ∨ (q - 7) % 6 < 4)
def KpR (a b : Rw) : Prop := ∀ q, Kq q → b q = a q
theorem KpR.trans {a b c : Rw} (h : KpR a b) (k : KpR b c) : KpR a c := fun q hq => (k q hq).trans (h q hq)
theorem KpR.te {a b : Rw} (h : KpR a b) : TeqR a b := fun q hq => h q (by unfold Kq; omega)
theorem KpR.en {a b : Rw} (h : KpR a b) : nm b = nm a := by unfold nm; rw [h 1 (by unfold Kq; omega)]
theorem clamp_rg9 (v : Int32) : Rg (clampI v 0 9999) 9999 := by
  unfold clampI
  by_cases h1 : v < 0
  · rw [if_pos h1]; exact ⟨0, by omega, rfl⟩
  · rw [if_neg h1]
    by_cases h2 : 9999 < v
    · rw [if_pos h2]; exact ⟨9999, by omega, rfl⟩
    · rw [if_neg h2]
      exact Rg.of (y := 9999) rfl ⟨Int32.not_lt.mp h1, Int32.not_lt.mp h2⟩
theorem dnS_ok {a : Rw} {i : Nat} (hw : Wm a) (hi : i < 9) : Wm (dnS a i) ∧ KpR a (dnS a i) := by
  refine ⟨((hw.set (j := 5) (by omega) ⟨1, by decide, rfl⟩).set (j := 4) (by omega) (clamp_rg9 _)).put (by omega) (by omega), fun q hq => ?_⟩
  unfold Kq at hq
  unfold dnS
  rw [pk_un (by omega), pk_un (by omega), pk_un (by omega)]
theorem hitG_ok {rc : Rw → Nat → Rw} {a : Rw} {j : Nat} {t push : Int32} (hw : Wm a) (hrc : ∀ b i, Wm b → i < nm b → Wm (rc b i) ∧ KpR b (rc b i)) : Wm (hitG rc a j t push) ∧ KpR a (hitG rc a j t push) := by
  unfold hitG
  split
  · rename_i hc
    exact hrc a j hw hc.1
  · exact ⟨hw, fun q _ => rfl⟩
theorem drF_ok {t u : Int32} : ∀ (n : Nat) (a : Rw) (i : Nat), Wm a → i < nm a → Wm (drF n a i t u) ∧ KpR a (drF n a i t u) := by
  intro n
  induction n with
  | zero => intro a i hw _; exact ⟨hw, fun q _ => rfl⟩
  | succ n ih =>
    intro a i hw hi
    have h9 := hw.2.1
    obtain ⟨d1, d2⟩ := dnS_ok (i := i) hw (by omega)
    have hL : ∀ p : Int32, Wm (if u = 1 then dnS a i else hitG (fun b j => drF n b j t u) (dnS a i) (nxL i) t p) ∧ KpR a (if u = 1 then dnS a i else hitG (fun b j => drF n b j t u) (dnS a i) (nxL i) t p) := by
      intro p
      split
      · exact ⟨d1, d2⟩
      · obtain ⟨g1, g2⟩ := hitG_ok (rc := fun b j => drF n b j t u) (j := nxL i) (t := t) (push := p) d1 ih
        exact ⟨g1, d2.trans g2⟩
    unfold drF
    obtain ⟨l1, l2⟩ := hL (pushS (a (7 + 6 * i + 0)) (a (7 + 6 * i + 2)))
    split
    · exact ⟨l1, l2⟩
    · obtain ⟨g1, g2⟩ := hitG_ok (rc := fun b j => drF n b j t u) (j := nxR i) (t := t) (push := pushS (a (7 + 6 * i + 0)) (a (7 + 6 * i + 2))) l1 ih
      exact ⟨g1, l2.trans g2⟩
theorem min_cl {x : Int32} (h : Rg x 9999) : (if 9999 < x + 1 then 9999 else x + 1) = clampI (x + 1) 0 9999 := by
  obtain ⟨z, hz, rfl⟩ := h
  unfold clampI
  rw [nI_1, if_neg (nI_pos (by omega))]
theorem AlA.dn {m : Mm} {k j : Nat} {a : Rw} (h : AlA m k a) (hk : 1 ≤ k) (hk2 : k + 13 ≤ 106) (hw : Wm a) (hj : j < nm a) {m2 m3 m4 : Mm} (e2 : m2 = mu m (k + 4 + j) 5 1) (e3 : m3 = mu m2 (k + 4 + j) 4 (if 9999 < m2 (k + 4 + j) 4 + 1 then 9999 else m2 (k + 4 + j) 4 + 1)) (e4 : m4 = mu m3 k 2 (m3 k 2 + 1)) : AlA m4 k (dnS a j) := by
  have h9 := hw.2.1
  have b1 : AlA m2 k (upd a (7 + 6 * j + 5) 1) := by rw [e2]; exact h.man hk hk2 h9 hj (by omega)
  have n1 : nm (upd a (7 + 6 * j + 5) 1) = nm a := nm_upd (by omega)
  have v1 : m2 (k + 4 + j) 4 = a (7 + 6 * j + 4) := by
    rw [b1.1.2 j 4 (by rw [n1]; exact hj) (by omega)]
    exact pk_un (by omega)
  rw [v1, min_cl (hw.2.2 j 4 hj (by omega))] at e3
  have b2 : AlA m3 k (upd (upd a (7 + 6 * j + 5) 1) (7 + 6 * j + 4) (clampI (a (7 + 6 * j + 4) + 1) 0 9999)) := by rw [e3]; exact b1.man hk hk2 (by rw [n1]; exact h9) (by rw [n1]; exact hj) (by omega)
  have v2 : m3 k 2 = a 3 := by
    rw [b2.2.1.1, pk_un (by omega), pk_un (by omega)]
  rw [v2] at e4
  rw [e4]
  exact b2.num hk hk2 (by rw [nm_upd (by omega), n1]; exact h9) (Or.inl ⟨rfl, rfl⟩)
set_option maxHeartbeats 4000000 in
theorem s_hit {k : Nat} (hk : 1 ≤ k) (hk2 : k + 13 ≤ 40) {t u : Int32} : ∀ (n j ee : Nat) (a : Rw) (push : Int32) (mem : Mm) (K : Mm → Prop), 10 ≤ n + j → j ≤ 9 → ee ≤ j → Wm a → Wt a → AlA mem k a → (∀ m, Fr (PAl k) mem m → AlA m k (hitG (fun b i => drF n b i t u) a j t push) → K m) → W_X0_hit k n (nbI j) t push u (nI ee) mem K := by
  intro n
  induction n with
  | zero => intro j ee a push mem K h1 h2; omega
  | succ n ih =>
    intro j ee a push mem K h10 hj9 hej hw hW hA hK
    have h9 := hw.2.1
    have no : ∀ m, Fr (PAl k) mem m → AlA m k a → (¬ (j < nm a ∧ a (7 + 6 * j + 5) = 0 ∧ bearS a j t < push)) → K m := by
      intro m hm hAm hc
      refine hK m hm ?_
      unfold hitG
      rw [if_neg hc]
      exact hAm
    unfold W_X0_hit
    refine cf1 (nI_nlt (a := 9) (b := ee) (by omega) (by omega)) ?_
    by_cases hjn : j < nm a
    · have ej : nbI j = nI j := by unfold nbI; rw [if_neg (by omega)]
      rw [ej]
      refine s_stands hw hA.1 hjn ?_
      by_cases hd : a (7 + 6 * j + 5) = 0
      · rw [decide_eq_true hd]
        refine zt1 ?_
        refine s_X0_bearing (by omega) hw hW hA.1 hA.2.2 hjn (fun m1 f1 => ?_)
        have f1k : Fr (PAl k) mem m1 := f1.mono (fun q hq => hq.elim)
        have hA1 : AlA m1 k a := hA.fr f1 h9 (by omega) (fun z => z) (fun _ _ _ => fun z => z) (fun _ _ => fun z => z)
        refine ⟨fun hb => ?_, fun hb => no m1 f1k hA1 (fun z => hb z.2.2)⟩
        refine ⟨j, rfl, by omega, fun m2 e2 m3 e3 m4 e4 => ?_⟩
        have hA4 : AlA m4 k (dnS a j) := hA1.dn hk (by omega) hw hjn e2 e3 e4
        have f4 : Fr (PAl k) mem m4 := by
          have g2 : Fr (PAl k) mem m2 := by rw [e2]; exact f1k.trans (Fr.m1 _ _ _ ⟨by omega, by omega⟩ (by omega))
          have g3 : Fr (PAl k) mem m3 := by rw [e3]; exact g2.trans (Fr.m1 _ _ _ ⟨by omega, by omega⟩ (by omega))
          rw [e4]
          exact g3.trans (Fr.m1 _ _ _ ⟨by omega, by omega⟩ (by omega))
        obtain ⟨⟨x1, x2, x3, x4⟩, y1, y2, y3, y4⟩ := tb_nx j (by omega)
        obtain ⟨d1, d2⟩ := dnS_ok (i := j) hw (by omega)
        have fin : hitG (fun b i => drF (n + 1) b i t u) a j t push = drF (n + 1) a j t u := by
          unfold hitG
          rw [if_pos ⟨hjn, hd, hb⟩]
        rw [fin] at hK
        unfold drF at hK
        have right : ∀ (b : Rw) (m5 : Mm), Wm b → KpR a b → Fr (PAl k) mem m5 → AlA m5 k b → (∀ m, Fr (PAl k) mem m → AlA m k (if u = -1 then b else hitG (fun b j => drF n b j t u) b (nxR j) t (pushS (a (7 + 6 * j + 0)) (a (7 + 6 * j + 2)))) → K m) → B_X0_hit_95 k (nI j) t push u (nI ee) (W_X0_hit k n) K (nI j) t u (nI ee) (k + 4 + j) m5 := by
          intro b m5 hwb hkb f5 hA5 hK5
          unfold B_X0_hit_95
          refine ⟨fun hu => ?_, fun hu => ?_⟩
          · refine hK5 m5 f5 ?_
            rw [if_pos hu]
            exact hA5
          · refine ⟨j, rfl, by omega, s_X1_pushing ?_⟩
            have nb : nm b = nm a := hkb.en
            rw [hA5.1.2 j 0 (by rw [nb]; exact hjn) (by omega), hA5.1.2 j 2 (by rw [nb]; exact hjn) (by omega), hkb _ (by unfold Kq; omega), hkb _ (by unfold Kq; omega), x3, nI_1]
            refine ih (nxR j) (ee + 1) b _ m5 K (by omega) (by omega) (by omega) hwb (hW.eq hkb.te) hA5 (fun m hm hAm => hK5 m (f5.trans hm) ?_)
            rw [if_neg hu]
            exact hAm
        refine ⟨fun hu => ?_, fun hu => ?_⟩
        · refine right (dnS a j) m4 d1 d2 f4 hA4 (fun m hm hAm => hK m hm ?_)
          rw [if_pos hu]
          by_cases hu2 : u = -1
          · rw [if_pos hu2] at hAm ⊢; exact hAm
          · rw [if_neg hu2] at hAm ⊢; exact hAm
        · refine ⟨j, rfl, by omega, s_X1_pushing ?_⟩
          have nb : nm (dnS a j) = nm a := d2.en
          rw [hA4.1.2 j 0 (by rw [nb]; exact hjn) (by omega), hA4.1.2 j 2 (by rw [nb]; exact hjn) (by omega), d2 _ (by unfold Kq; omega), d2 _ (by unfold Kq; omega), x1, nI_1]
          refine ih (nxL j) (ee + 1) (dnS a j) _ m4 _ (by omega) (by omega) (by omega) d1 (hW.eq d2.te) hA4 (fun m hm hAm => ?_)
          obtain ⟨g1, g2⟩ := hitG_ok (rc := fun b j => drF n b j t u) (j := nxL j) (t := t) (push := pushS (a (7 + 6 * j + 0)) (a (7 + 6 * j + 2))) d1 (drF_ok n)
          refine right _ m g1 (d2.trans g2) (f4.trans hm) hAm (fun m6 hm6 hAm6 => hK m6 hm6 ?_)
          rw [if_neg hu]
          by_cases hu2 : u = -1
          · rw [if_pos hu2] at hAm6 ⊢; exact hAm6
          · rw [if_neg hu2] at hAm6 ⊢; exact hAm6
      · rw [decide_eq_false hd]
        exact zf1 (no mem (Fr.refl _ _) hA (fun z => hd z.2.1))
    · have hp : nbI j < 0 ∨ nI (nm a) ≤ nbI j := by
        unfold nbI
        by_cases c9 : j = 9
        · rw [if_pos c9]; exact Or.inl (by decide)
        · rw [if_neg c9]; exact Or.inr (nI_le (by omega) (by omega))
      exact s_stands_n hw hA.1 hp (zf1 (no mem (Fr.refl _ _) hA (fun z => hjn z.1)))
abbrev P83 : Nat → Prop := fun q => q = 83 ∨ q = 95 ∨ q = 96
theorem s_side {i j : Nat} {tab : List Int32} {push t u : Int32} {mem : Mm} {KK : Mm → Prop} {rc : Int32 → Int32 → Int32 → Mm → (Mm → Prop) → Prop} (hi : i < 9) (htab : tab.getD i 0 = nbI j) (hj : j ≤ 9) (hw : Wm (mem 83)) (hW : Wt (mem 83))
    (hno : ∀ m, Fr P956 mem m → ¬ (j < nm (mem 83) ∧ mem 83 (7 + 6 * j + 5) = 0 ∧ bearS (mem 83) j t < push) → KK m) (hyes : ∀ m, Fr P956 mem m → (j < nm (mem 83) ∧ mem 83 (7 + 6 * j + 5) = 0 ∧ bearS (mem 83) j t < push) → rc (nI j) t u m KK) :
    W_X9_doesStand (tab.getD i 0) mem (fun v m => (bZ v = 0 → KK m) ∧ (¬ bZ v = 0 → ∃ i2 : Nat, nI i = nI i2 ∧ i2 < 9 ∧ W_X9_bearsOf (tab.getD i2 0) t m (fun v m => (push ≤ v → KK m) ∧ (¬ push ≤ v → ∃ i3 : Nat, nI i = nI i3 ∧ i3 < 9 ∧ rc (tab.getD i3 0) t u m (fun m => KK m))))) := by
  have h9 := hw.2.1
  rw [htab]
  by_cases hjn : j < nm (mem 83)
  · have ej : nbI j = nI j := by unfold nbI; rw [if_neg (by omega)]
    rw [ej]
    refine s_doesStand hw hjn ?_
    by_cases hd : mem 83 (7 + 6 * j + 5) = 0
    · rw [decide_eq_true hd]
      refine zt1 ⟨i, rfl, hi, ?_⟩
      rw [htab, ej]
      refine s_bearsOf hw hW hjn (fun m1 f1 => ⟨fun hb => hno m1 f1 (fun z => ?_), fun hb => ⟨i, rfl, hi, ?_⟩⟩)
      · exact absurd z.2.2 (Int32.not_lt.mpr hb)
      · rw [htab, ej]
        exact hyes m1 f1 ⟨hjn, hd, Int32.not_le.mp hb⟩
    · rw [decide_eq_false hd]
      exact zf1 (hno mem (Fr.refl _ _) (fun z => hd z.2.1))
  · have hp : nbI j < 0 ∨ nI (nm (mem 83)) ≤ nbI j := by
      unfold nbI
      by_cases c9 : j = 9
      · rw [if_pos c9]; exact Or.inl (by decide)
      · rw [if_neg c9]; exact Or.inr (nI_le (by omega) (by omega))
    exact s_doesStand_n hw hp (zf1 (hno mem (Fr.refl _ _) (fun z => hjn z.1)))
theorem f956 {m m' : Mm} (h : Fr P956 m m') : Fr P83 m m' := h.mono (fun q hq => by rcases hq with hq | hq <;> omega)
set_option maxHeartbeats 4000000 in
theorem s_drops {t u : Int32} : ∀ (n i : Nat) (mem : Mm) (K : Mm → Prop), 10 ≤ n + i → i < nm (mem 83) → Wm (mem 83) → Wt (mem 83) → (∀ m, Fr P83 mem m → m 83 = drF n (mem 83) i t u → K m) → W_X9_drops n (nI i) t u mem K := by
  intro n
  induction n with
  | zero => intro i mem K h1 h2 hw; have := hw.2.1; omega
  | succ n ih =>
    intro i mem K h10 hi hw hW hK
    have h9 := hw.2.1
    obtain ⟨⟨x1, x2, x3, x4⟩, y1, y2, y3, y4⟩ := tb_nx i (by omega)
    obtain ⟨d1, d2⟩ := dnS_ok (i := i) hw (by omega)
    unfold W_X9_drops
    refine s_X9_put (i := i) (j := 5) (by omega) (by omega) ?_
    refine s_X9_of (i := i) (j := 4) (by omega) (by omega) ?_
    refine s_X9_within ?_
    refine s_X9_put (i := i) (j := 4) (by omega) (by omega) (fun m4 e4 => ?_)
    have v1 : mu mem 83 (7 + 6 * i + 5) 1 83 (7 + 6 * i + 4) = mem 83 (7 + 6 * i + 4) := mu_j _ _ _ (by omega)
    rw [v1] at e4
    have r4 : m4 83 = dnS (mem 83) i := by
      rw [e4, mu_row_s, mu_row_s, mu_row_s]
      unfold dnS
      rw [pk_un (by omega), pk_un (by omega)]
    have f4 : Fr P83 mem m4 := by
      rw [e4]
      exact ((Fr.m1 _ _ _ (Or.inl rfl) (by omega)).trans (Fr.m1 _ _ _ (Or.inl rfl) (by omega))).trans (Fr.m1 _ _ _ (Or.inl rfl) (by omega))
    refine s_pushesOf (by omega) ?_
    rw [r4, d2 _ (by unfold Kq; omega), d2 _ (by unfold Kq; omega)]
    unfold drF at hK
    have right : ∀ (m5 : Mm), Wm (m5 83) → Wt (m5 83) → Fr P83 mem m5 → (∀ m, Fr P83 mem m → m 83 = (if u = -1 then m5 83 else hitG (fun b j => drF n b j t u) (m5 83) (nxR i) t (pushS (mem 83 (7 + 6 * i + 0)) (mem 83 (7 + 6 * i + 2)))) → K m) → B_X9_drops_88 (nI i) t u (W_X9_drops n) K (nI i) t u (pushS (mem 83 (7 + 6 * i + 0)) (mem 83 (7 + 6 * i + 2))) m5 := by
      intro m5 hw5 hW5 f5 hK5
      unfold B_X9_drops_88
      refine ⟨fun hu => hK5 m5 f5 (by rw [if_pos hu]), fun hu => ⟨i, rfl, by omega, ?_⟩⟩
      rw [if_neg hu] at hK5
      refine s_side (KK := fun m => K m) (rc := W_X9_drops n) (by omega) x4 y4 hw5 hW5 (fun m hm hc => ?_) (fun m hm hc => ?_)
      · refine hK5 m (f5.trans (f956 hm)) ?_
        unfold hitG
        rw [if_neg hc]
        exact hm.c 83 (by omega) (by omega)
      · have q5 : m 83 = m5 83 := hm.c 83 (by omega) (by omega)
        refine ih (nxR i) m _ (by omega) (by rw [q5]; exact hc.1) (by rw [q5]; exact hw5) (by rw [q5]; exact hW5) (fun m6 f6 e6 => hK5 m6 ((f5.trans (f956 hm)).trans f6) ?_)
        unfold hitG
        rw [if_pos hc, e6, q5]
    refine ⟨fun hu => ?_, fun hu => ⟨i, rfl, by omega, ?_⟩⟩
    · refine right m4 (by rw [r4]; exact d1) (by rw [r4]; exact hW.eq d2.te) f4 (fun m hm em => hK m hm ?_)
      rw [em, r4, if_pos hu]
    · have hw4 : Wm (m4 83) := by rw [r4]; exact d1
      have hW4 : Wt (m4 83) := by rw [r4]; exact hW.eq d2.te
      rw [if_neg hu] at hK
      refine s_side (KK := fun m => B_X9_drops_88 (nI i) t u (W_X9_drops n) K (nI i) t u (pushS (mem 83 (7 + 6 * i + 0)) (mem 83 (7 + 6 * i + 2))) m) (rc := W_X9_drops n) (by omega) x2 y2 hw4 hW4 (fun m hm hc => ?_) (fun m hm hc => ?_)
      · have q5 : m 83 = m4 83 := hm.c 83 (by omega) (by omega)
        refine right m (by rw [q5]; exact hw4) (by rw [q5]; exact hW4) (f4.trans (f956 hm)) (fun m6 hm6 em6 => hK m6 hm6 ?_)
        rw [em6, q5, r4]
        have eg : hitG (fun b j => drF n b j t u) (dnS (mem 83) i) (nxL i) t (pushS (mem 83 (7 + 6 * i + 0)) (mem 83 (7 + 6 * i + 2))) = dnS (mem 83) i := by
          rw [r4] at hc
          unfold hitG
          rw [if_neg hc]
        rw [eg]
      · have q5 : m 83 = m4 83 := hm.c 83 (by omega) (by omega)
        refine ih (nxL i) m _ (by omega) (by rw [q5]; exact hc.1) (by rw [q5]; exact hw4) (by rw [q5]; exact hW4) (fun m6 f6 e6 => ?_)
        have eg : hitG (fun b j => drF n b j t u) (dnS (mem 83) i) (nxL i) t (pushS (mem 83 (7 + 6 * i + 0)) (mem 83 (7 + 6 * i + 2))) = m6 83 := by
          rw [r4] at hc
          unfold hitG
          rw [if_pos hc, e6, q5, r4]
        obtain ⟨g1, g2⟩ := drF_ok (t := t) (u := u) n (m4 83) (nxL i) hw4 hc.1
        rw [← q5, ← e6] at g1 g2
        refine right m6 g1 ((hW4.eq (by rw [← q5]; exact g2.te))) ((f4.trans (f956 hm)).trans f6) (fun m7 hm7 em7 => hK m7 hm7 ?_)
        rw [em7, eg]
