section
/-! ONE TEXT MORE -/
theorem tb_1k : ∀ key, key < 3 → ∀ L, L < 96 → (1000 * nI key + nI L) / 1000 = nI key ∧ (1000 * nI key + nI L) - (1000 * nI key + nI L) / 1000 * 1000 = nI L := by decide +kernel
theorem TxR.mr {m mF : Mm} {x : Int32} {a b : Rw} {t N : Nat} (h : TxR m x a t) (hN : nTx m = N) (hN2 : N < 100000) (hF : nTx mF = N + 1) (B : ∀ q, 106 ≤ q → q < 106 + 3 * N → mF q = m q) (e1 : b (61 + 2 * t) = a (61 + 2 * t)) (e2 : b (62 + 2 * t) = a (62 + 2 * t)) (e3 : ∀ i, i < (cdl a t).toNatClampNeg → b (89 + 96 * t + i) = a (89 + 96 * t + i)) : TxR mF x b t := by
  obtain ⟨j, g1, g2, g3, g4, g5, g6, g7, g8⟩ := h
  have ec : cdl b t = cdl a t := by unfold cdl; rw [e1]
  refine ⟨j, g1, by omega, by omega, ?_, ?_, ?_, fun i hi => ?_, ?_⟩
  · rw [B _ (by omega) (by omega), e1]; exact g4
  · rw [B _ (by omega) (by omega), e2]; exact g5
  · rw [B _ (by omega) (by omega), ec]; exact g6
  · rw [ec] at hi
    rw [B _ (by omega) (by omega), e3 i hi]; exact g7 i hi
  · rw [B _ (by omega) (by omega), e2]; exact g8
theorem okT.co {c c2 : Nat → Int32} {nf n p : Nat} (h : okT c nf n p) (e : ∀ k, k < n → c2 k = c k) : okT c2 nf n p := by
  obtain ⟨d, d0, d1, ds⟩ := h
  exact ⟨d, d0, d1, fun k hk => by rw [e k hk]; exact ds k hk⟩
theorem ctN_eq {a b : Rw} {key : Nat} : ∀ n, (∀ i, i < n → b (61 + 2 * i) = a (61 + 2 * i)) → ctN b key n = ctN a key n := by
  intro n
  induction n with
  | zero => intro _; rfl
  | succ n ih =>
    intro h
    unfold ctN
    rw [h n (by omega), ih (fun i hi => h i (by omega))]
theorem Iv.nw9 {c t key a9 L N : Nat} {mem mF : Mm} (h : Iv c mem) (hc : c ≤ 512) (ht : nt (mem 83) = t) (ht14 : t < 14) (hk : key < 3) (ha : a9 ≤ 90) (hL : L < 96) (hN : nTx mem = N)
  (A : ∀ q, 1 < q → q < 106 → q ≠ 3 → q ≠ 4 → q ≠ 46 → ¬ (q = 45 ∨ q = 48 ∨ q = 49) → q ≠ 82 → q ≠ 83 → ¬ (92 ≤ q ∧ q ≤ 94) → mF q = mem q) (B : ∀ q, 106 ≤ q → q < 106 + 3 * N → mF q = mem q)
  (C : ∀ j, j ≠ 1000 → mF 0 j = mem 0 j) (C2 : nTx mF = N + 1) (D : ∀ j, j ≠ 8 → mF 1 j = mem 1 j) (D2 : mF 1 8 = nI (t + 1)) (E3 : mF 3 = upd (mem 3) t (nI N)) (E4 : mF 4 = upd (mem 4) key (nI t))
  (T0 : mF (106 + 3 * N) 0 = nI key) (T1 : mF (106 + 3 * N) 1 = nI a9) (T2 : mF (106 + 3 * N + 1) 1000 = nI L) (T3 : ∀ i, i < L → mF (106 + 3 * N + 1) i = trS (mF 83 (89 + 96 * t + i))) (T4 : mF (106 + 3 * N + 2) 1000 = nI (max 1 a9))
  (G : ∀ q, q ≠ 6 → q ≠ 61 + 2 * t → q ≠ 62 + 2 * t → ¬ (89 + 96 * t ≤ q ∧ q < 89 + 96 * t + L) → mF 83 q = mem 83 q) (G6 : mF 83 6 = nI (t + 1)) (G1 : mF 83 (61 + 2 * t) = 1000 * nI key + nI L) (G2 : mF 83 (62 + 2 * t) = nI a9) (G3 : okT (fun i => mF 83 (89 + 96 * t + i)) (nfK key) L a9)
  (H3 : mF 82 3 = mem 82 3) (H9 : mF 82 9 = 0) (H35 : mF 82 35 = mem 82 35) (H45 : mF 46 1 = 0) : Iv (c + 1) mF := by
  obtain ⟨⟨h1, hwm, hwt, hhi, hrg⟩, h2, h3, h4, h5, h6, h7, h8⟩ := h
  obtain ⟨hAM, hAN, hA8, hAt, hAc⟩ := h1
  obtain ⟨k1, k2⟩ := tb_1k key hk L hL
  have hNc : N ≤ c := by omega
  have gA : ∀ q, q < 61 → q ≠ 6 → mF 83 q = mem 83 q := fun q q1 q2 => G q q2 (by omega) (by omega) (by omega)
  have gO : ∀ i, i < t → mF 83 (61 + 2 * i) = mem 83 (61 + 2 * i) ∧ mF 83 (62 + 2 * i) = mem 83 (62 + 2 * i) ∧ ∀ k, k < 96 → mF 83 (89 + 96 * i + k) = mem 83 (89 + 96 * i + k) := fun i hi => ⟨G _ (by omega) (by omega) (by omega) (by omega), G _ (by omega) (by omega) (by omega) (by omega), fun k hk9 => G _ (by omega) (by omega) (by omega) (by omega)⟩
  have enm : nm (mF 83) = nm (mem 83) := by unfold nm; rw [gA 1 (by omega) (by omega)]
  have ent : nt (mF 83) = t + 1 := by unfold nt; rw [G6]; exact nI_clamp (by omega)
  have ecl : ∀ i, i < t → cdl (mF 83) i = cdl (mem 83) i := fun i hi => by unfold cdl; rw [(gO i hi).1]
  have ecn : cdl (mF 83) t = nI L := by unfold cdl; rw [G1]; exact k2
  have hw9 := hwm.2.1
  have wm : Wm (mF 83) := by
    refine ⟨by rw [enm, gA 1 (by omega) (by omega)]; exact hwm.1, by rw [enm]; exact hw9, fun i j hi hj => ?_⟩
    rw [enm] at hi
    rw [gA _ (by omega) (by omega)]
    exact hwm.2.2 i j hi hj
  have ctx : ∀ x i, i < t → TxR mem x (mem 83) i → TxR mF x (mF 83) i := fun x i hi hx => by
    refine hx.mr hN (by omega) C2 B (gO i hi).1 (gO i hi).2.1 (fun k hk9 => (gO i hi).2.2 k ?_)
    obtain ⟨_, n9, _, _, hn9, _, _, en9, _⟩ := hwt.2.2 i (by omega)
    rw [en9, nI_clamp (by omega)] at hk9
    omega
  refine ⟨⟨⟨⟨?_, fun i j hi hj => ?_⟩, ?_, ?_, fun i hi => ?_, fun k9 hk9 => ?_⟩, wm, ⟨by rw [G6, ent], by rw [ent]; omega, fun i hi => ?_⟩, fun q hq => ?_, ?_⟩, ⟨?_, ?_, ?_⟩, ⟨by rw [H45, H9], ⟨0, by omega, by rw [H9]; rfl⟩, fun i hi => ?_⟩, ?_, ?_, ?_, by omega, ?_⟩
  · rw [D 1 (by omega), gA 1 (by omega) (by omega)]; exact hAM.1
  · rw [enm] at hi
    rw [A (1 + 4 + i) (by omega) (by omega) (by omega) (by omega) (by omega) (by omega) (by omega) (by omega) (by omega), gA _ (by omega) (by omega)]
    exact hAM.2 i j hi hj
  · unfold AlN
    rw [D 2 (by omega), D 3 (by omega), D 4 (by omega), D 5 (by omega), D 6 (by omega), gA 3 (by omega) (by omega), gA 4 (by omega) (by omega), gA 5 (by omega) (by omega), gA 2 (by omega) (by omega), gA 0 (by omega) (by omega)]
    exact hAN
  · rw [D2, G6]
  · rw [ent] at hi
    show TxR mF (mF 3 i) (mF 83) i
    rw [E3]
    by_cases c1 : i = t
    · subst c1
      rw [pk_us]
      refine ⟨N, rfl, by omega, by omega, ?_, ?_, ?_, fun k hk9 => ?_, ?_⟩
      · rw [T0, G1]; exact k1.symm
      · rw [T1, G2]
      · rw [T2, ecn]
      · rw [ecn, nI_clamp (by omega)] at hk9
        exact T3 k hk9
      · rw [T4, G2, nI_clamp (by omega)]
    · rw [pk_un c1]
      exact ctx _ i (by omega) (hAt i (by omega))
  · show mF 4 k9 = whN (ctS (mF 83) k9)
    rw [E4]
    unfold ctS
    rw [ent]
    show _ = whN (if mF 83 (61 + 2 * t) / 1000 = nI k9 then nI t else ctN (mF 83) k9 t)
    rw [G1, k1, ctN_eq (a := mem 83) t (fun i hi => (gO i hi).1)]
    by_cases c1 : k9 = key
    · subst c1
      rw [pk_us, if_pos rfl]
      unfold whN
      rw [if_neg (nI_pos (by omega))]
    · rw [pk_un c1, if_neg (fun z => c1 ((nI_eq (by omega) (by omega)).mp z).symm)]
      have z := hAc k9 hk9
      unfold ctS at z
      rw [ht] at z
      exact z
  · rw [ent] at hi
    by_cases c1 : i = t
    · subst c1
      exact ⟨key, L, a9, hk, hL, ha, by rw [G1]; exact k1, ecn, G2, G3⟩
    · obtain ⟨y1, y2, y3, y4, y5, y6, y7, y8, y9, y10⟩ := hwt.2.2 i (by omega)
      obtain ⟨o1, o2, o3⟩ := gO i (by omega)
      exact ⟨y1, y2, y3, y4, y5, y6, by rw [o1]; exact y7, by rw [ecl i (by omega)]; exact y8, by rw [o2]; exact y9, y10.co (fun k hk9 => o3 k (by omega))⟩
  · rw [G q (by omega) (by omega) (by omega) (by omega)]; exact hhi q hq
  · rw [gA 2 (by omega) (by omega)]; exact hrg
  · rw [A 84 (by omega) (by omega) (by omega) (by omega) (by omega) (by omega) (by omega) (by omega) (by omega)]; exact h2.1
  · rw [C 3 (by omega), H3]; exact h2.2.1
  · rw [C 3 (by omega), A 84 (by omega) (by omega) (by omega) (by omega) (by omega) (by omega) (by omega) (by omega) (by omega)]
    rcases h2.2.2 with g | ⟨y1, ⟨⟨u1, u2⟩, u3, u4, u5, u6⟩, y3⟩
    · exact Or.inl g
    · have a14 : ∀ q, 14 ≤ q → q < 27 → mF q = mem q := fun q q1 q2 => A q (by omega) (by omega) (by omega) (by omega) (by omega) (by omega) (by omega) (by omega) (by omega)
      have hw14 := y3.1.2.1
      refine Or.inr ⟨y1, ⟨⟨by rw [a14 14 (by omega) (by omega)]; exact u1, fun i j hi hj => ?_⟩, ?_, by rw [a14 14 (by omega) (by omega)]; exact u4, fun i hi => ?_, fun k9 hk9 => ?_⟩, y3⟩
      · rw [a14 (14 + 4 + i) (by omega) (by omega)]; exact u2 i j hi hj
      · unfold AlN
        rw [a14 14 (by omega) (by omega)]
        exact u3
      · rw [a14 (14 + 2) (by omega) (by omega)]
        exact (u5 i hi).mr hN (by omega) C2 B rfl rfl (fun _ _ => rfl)
      · rw [a14 (14 + 3) (by omega) (by omega)]; exact u6 k9 hk9
  · rw [A 47 (by omega) (by omega) (by omega) (by omega) (by omega) (by omega) (by omega) (by omega) (by omega), A 89 (by omega) (by omega) (by omega) (by omega) (by omega) (by omega) (by omega) (by omega) (by omega)]
    exact h3.2.2 i hi
  · intro s hs
    have z := h4 s hs
    rw [A (54 + 2 * s) (by omega) (by omega) (by omega) (by omega) (by omega) (by omega) (by omega) (by omega) (by omega), A (54 + 2 * s + 1) (by omega) (by omega) (by omega) (by omega) (by omega) (by omega) (by omega) (by omega) (by omega), A 97 (by omega) (by omega) (by omega) (by omega) (by omega) (by omega) (by omega) (by omega) (by omega), A 98 (by omega) (by omega) (by omega) (by omega) (by omega) (by omega) (by omega) (by omega) (by omega), A 99 (by omega) (by omega) (by omega) (by omega) (by omega) (by omega) (by omega) (by omega) (by omega)]
    exact z
  · intro s hs
    have z := h5 s hs
    rw [A (62 + 4 * s) (by omega) (by omega) (by omega) (by omega) (by omega) (by omega) (by omega) (by omega) (by omega), A (62 + 4 * s + 1) (by omega) (by omega) (by omega) (by omega) (by omega) (by omega) (by omega) (by omega) (by omega), A (62 + 4 * s + 2) (by omega) (by omega) (by omega) (by omega) (by omega) (by omega) (by omega) (by omega) (by omega), A (62 + 4 * s + 2 + 1) (by omega) (by omega) (by omega) (by omega) (by omega) (by omega) (by omega) (by omega) (by omega), A 100 (by omega) (by omega) (by omega) (by omega) (by omega) (by omega) (by omega) (by omega) (by omega), A 101 (by omega) (by omega) (by omega) (by omega) (by omega) (by omega) (by omega) (by omega) (by omega), A 102 (by omega) (by omega) (by omega) (by omega) (by omega) (by omega) (by omega) (by omega) (by omega), A 103 (by omega) (by omega) (by omega) (by omega) (by omega) (by omega) (by omega) (by omega) (by omega)]
    exact z
  · obtain ⟨z1, z2, z3⟩ := h6
    refine ⟨by rw [C 10 (by omega), H35]; exact z1, by rw [H35]; exact z2, fun i hi => ?_⟩
    rw [H35] at hi
    rw [A 52 (by omega) (by omega) (by omega) (by omega) (by omega) (by omega) (by omega) (by omega) (by omega), A 105 (by omega) (by omega) (by omega) (by omega) (by omega) (by omega) (by omega) (by omega) (by omega)]
    exact z3 i hi
  · unfold Iv8
    rw [A 90 (by omega) (by omega) (by omega) (by omega) (by omega) (by omega) (by omega) (by omega) (by omega), A 91 (by omega) (by omega) (by omega) (by omega) (by omega) (by omega) (by omega) (by omega) (by omega)]
    exact h8
/-- no text: the tape is empty, nothing else -/
theorem Iv.t0 {c : Nat} {m m' : Mm} (h : Iv c m) (hf : Fr (fun q => q = 46 ∨ (q = 45 ∨ q = 48 ∨ q = 49) ∨ q = 82 ∨ (92 ≤ q ∧ q ≤ 94)) m m') (h45 : m' 46 1 = 0) (h9 : m' 82 9 = 0) (h3 : m' 82 3 = m 82 3) (h35 : m' 82 35 = m 82 35) : Iv (c + 1) m' := by
  obtain ⟨g1, g2, g3, g4, g5, g6, g7, g8⟩ := h
  refine ⟨g1.fr hf (by omega) (fun q a1 a2 => by omega) (by omega) (fun q a1 => by omega), g2.fr hf (by omega) (fun q a1 a2 => by omega) (by omega) h3 (fun q a1 => by omega), ⟨by rw [h45, h9], ⟨0, by omega, by rw [h9]; rfl⟩, fun i hi => ?_⟩, g4.fr hf (fun q a1 a2 => by omega) ⟨by omega, by omega, by omega⟩, g5.fr hf (fun q a1 a2 => by omega) ⟨by omega, by omega, by omega, by omega⟩, g6.fr hf ⟨by omega, by omega, by omega⟩ h35, ?_, g8.fr hf ⟨by omega, by omega⟩⟩
  · rw [hf.c 47 (by omega) (by omega), hf.c 89 (by omega) (by omega)]
    exact g3.2.2 i hi
  · rw [nTx_c (hf.c 0 (by omega) (by omega))]
    omega
end
