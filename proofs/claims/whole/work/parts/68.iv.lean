/-! THE INVARIANT: class and reference, between two calls -/
def worthS (kd nv wt fl : Int32) : Int32 := if kd = 1 then fl + wt else if kd = 2 then 99 - nv else if kd = 3 then 5 * (fl + wt) else if kd = 4 then (99 - nv) / 2 else if kd = 5 then 500 else fl
def WfR (a : Rw) : Prop := Wm a ∧ Wt a ∧ Hi0 a ∧ Rg (a 2) 9999
def Iv1 (mem : Mm) : Prop := AlA mem 1 (mem 83) ∧ WfR (mem 83)
def Iv2 (mem : Mm) : Prop := Hi0 (mem 84) ∧ mem 0 3 = mem 82 3 ∧ (mem 0 3 = 0 ∨ (mem 0 3 = 1 ∧ AlA mem 14 (mem 84) ∧ WfR (mem 84)))
def ByR (x y : Int32) : Prop := ∃ b : Nat, b < 256 ∧ y = nI b ∧ x = (nI b).toInt8.toInt32
def Iv3 (mem : Mm) : Prop := mem 46 1 = mem 82 9 ∧ Rg (mem 82 9) 96 ∧ ∀ i, i < 96 → ByR (mem 47 i) (mem 89 i)
/-- a place of a sheet: no number, or the same number -/
def PlR (x y : Int32) : Prop := (x = -1000000005 ∧ y = -1000000005) ∨ (x = y ∧ -99999 ≤ x.toInt ∧ x.toInt ≤ 99999)
def Iv4 (mem : Mm) : Prop := ∀ s, s < 4 → mem (54 + 2 * s) 0 = mem 97 s ∧ mem (54 + 2 * s) 1 = mem 98 s ∧ (mem 97 s = -1 ∨ mem 97 s = 0 ∨ mem 97 s = 1) ∧ Rg (mem 98 s) 24 ∧ ∀ k, k < 24 → PlR (mem (54 + 2 * s + 1) k) (mem 99 (24 * s + k))
def Iv5 (mem : Mm) : Prop := ∀ s, s < 5 → mem (62 + 4 * s) 0 = mem 100 s ∧ Rg (mem 100 s) 3 ∧ (mem 100 s = 1 → mem (62 + 4 * s + 1) 0 = mem 101 s ∧ Rg (mem 101 s) 5 ∧ worthS (mem (62 + 4 * s + 1) 0) (mem (62 + 4 * s + 1) 1) (mem (62 + 4 * s + 1) 2) (mem (62 + 4 * s + 1) 4) = mem 102 s) ∧ (mem 100 s = 2 → mem (62 + 4 * s + 2) 1 = mem 101 s ∧ Rg (mem 101 s) 24 ∧ ∀ k, k < 24 → PlR (mem (62 + 4 * s + 2 + 1) k) (mem 103 (24 * s + k))) ∧ (mem 100 s = 3 → mem (62 + 4 * s) 3 = mem 101 s)
def Iv6 (mem : Mm) : Prop := mem 0 10 = mem 82 35 ∧ Rg (mem 82 35) 60 ∧ ∀ i, i < (mem 82 35).toNatClampNeg → mem 52 i = mem 105 i
def Iv8 (mem : Mm) : Prop := (∀ j, j < 12 → mem 90 j = [98, 101, 97, 114, 115, 102, 101, 101, 102, 105, 110, 101].getD j 0) ∧ ∀ j, j < 4 → mem 91 j = [0, 5, 8, 12].getD j 0
def Iv (c : Nat) (mem : Mm) : Prop := Iv1 mem ∧ Iv2 mem ∧ Iv3 mem ∧ Iv4 mem ∧ Iv5 mem ∧ Iv6 mem ∧ nTx mem ≤ c ∧ Iv8 mem
theorem Iv1.fr {P : Nat → Prop} {m m' : Mm} (h : Iv1 m) (hf : Fr P m m') (p0 : ¬ P 0) (p1 : ∀ q, 1 ≤ q → q < 14 → ¬ P q) (p83 : ¬ P 83) (p6 : ∀ q, 106 ≤ q → ¬ P q) : Iv1 m' := by
  have e83 := hf.c 83 (by omega) p83
  unfold Iv1
  rw [e83]
  exact ⟨h.1.fr hf h.2.1.2.1 (by omega) p0 p1 p6, h.2⟩
theorem Iv2.fr {P : Nat → Prop} {m m' : Mm} (h : Iv2 m) (hf : Fr P m m') (p0 : ¬ P 0) (p1 : ∀ q, 14 ≤ q → q < 27 → ¬ P q) (p84 : ¬ P 84) (e82 : m' 82 3 = m 82 3) (p6 : ∀ q, 106 ≤ q → ¬ P q) : Iv2 m' := by
  have e84 := hf.c 84 (by omega) p84
  have e0 := hf.c 0 (by omega) p0
  unfold Iv2
  rw [e84, e0, e82]
  refine ⟨h.1, h.2.1, ?_⟩
  rcases h.2.2 with g | ⟨g1, g2, g3⟩
  · exact Or.inl g
  · exact Or.inr ⟨g1, g2.fr hf g3.1.2.1 (by omega) p0 p1 p6, g3⟩
theorem Iv3.fr {P : Nat → Prop} {m m' : Mm} (h : Iv3 m) (hf : Fr P m m') (p : ¬ P 46 ∧ ¬ P 47 ∧ ¬ P 89) (e82 : m' 82 9 = m 82 9) : Iv3 m' := by
  unfold Iv3
  rw [hf.c 46 (by omega) p.1, hf.c 47 (by omega) p.2.1, hf.c 89 (by omega) p.2.2, e82]
  exact h
theorem Iv4.fr {P : Nat → Prop} {m m' : Mm} (h : Iv4 m) (hf : Fr P m m') (p : ∀ q, 54 ≤ q → q < 62 → ¬ P q) (p2 : ¬ P 97 ∧ ¬ P 98 ∧ ¬ P 99) : Iv4 m' := by
  intro s hs
  rw [hf.c (54 + 2 * s) (by omega) (p _ (by omega) (by omega)), hf.c (54 + 2 * s + 1) (by omega) (p _ (by omega) (by omega)), hf.c 97 (by omega) p2.1, hf.c 98 (by omega) p2.2.1, hf.c 99 (by omega) p2.2.2]
  exact h s hs
theorem Iv5.fr {P : Nat → Prop} {m m' : Mm} (h : Iv5 m) (hf : Fr P m m') (p : ∀ q, 62 ≤ q → q < 82 → ¬ P q) (p2 : ¬ P 100 ∧ ¬ P 101 ∧ ¬ P 102 ∧ ¬ P 103) : Iv5 m' := by
  intro s hs
  rw [hf.c (62 + 4 * s) (by omega) (p _ (by omega) (by omega)), hf.c (62 + 4 * s + 1) (by omega) (p _ (by omega) (by omega)), hf.c (62 + 4 * s + 2) (by omega) (p _ (by omega) (by omega)), hf.c (62 + 4 * s + 2 + 1) (by omega) (p _ (by omega) (by omega)), hf.c 100 (by omega) p2.1, hf.c 101 (by omega) p2.2.1, hf.c 102 (by omega) p2.2.2.1, hf.c 103 (by omega) p2.2.2.2]
  exact h s hs
theorem Iv6.fr {P : Nat → Prop} {m m' : Mm} (h : Iv6 m) (hf : Fr P m m') (p : ¬ P 0 ∧ ¬ P 52 ∧ ¬ P 105) (e82 : m' 82 35 = m 82 35) : Iv6 m' := by
  unfold Iv6
  rw [hf.c 0 (by omega) p.1, hf.c 52 (by omega) p.2.1, hf.c 105 (by omega) p.2.2, e82]
  exact h
theorem Iv8.fr {P : Nat → Prop} {m m' : Mm} (h : Iv8 m) (hf : Fr P m m') (p : ¬ P 90 ∧ ¬ P 91) : Iv8 m' := by
  unfold Iv8
  rw [hf.c 90 (by omega) p.1, hf.c 91 (by omega) p.2]
  exact h
theorem Iv.up {c : Nat} {mem : Mm} (h : Iv c mem) : Iv (c + 1) mem := ⟨h.1, h.2.1, h.2.2.1, h.2.2.2.1, h.2.2.2.2.1, h.2.2.2.2.2.1, by have := h.2.2.2.2.2.2.1; omega, h.2.2.2.2.2.2.2⟩
/-- cells that hold nothing of the invariant but the first part's: the alley, what is thought, the reader, the search, scratch -/
abbrev PFr : Nat → Prop := fun q => (1 ≤ q ∧ q ≤ 13) ∨ (27 ≤ q ∧ q ≤ 45) ∨ (48 ≤ q ∧ q ≤ 49) ∨ q = 53 ∨ q = 82 ∨ q = 83 ∨ (85 ≤ q ∧ q ≤ 88) ∨ (92 ≤ q ∧ q ≤ 96) ∨ q = 104
theorem Iv.al {c : Nat} {m m' : Mm} (h : Iv c m) (hf : Fr PFr m m') (h3 : m' 82 3 = m 82 3) (h9 : m' 82 9 = m 82 9) (h35 : m' 82 35 = m 82 35) (h1 : Iv1 m') : Iv (c + 1) m' := by
  obtain ⟨g1, g2, g3, g4, g5, g6, g7, g8⟩ := h
  refine ⟨h1, g2.fr hf (by omega) (fun q a1 a2 => by omega) (by omega) h3 (fun q a1 => by omega), g3.fr hf ⟨by omega, by omega, by omega⟩ h9, g4.fr hf (fun q a1 a2 => by omega) ⟨by omega, by omega, by omega⟩, g5.fr hf (fun q a1 a2 => by omega) ⟨by omega, by omega, by omega, by omega⟩, g6.fr hf ⟨by omega, by omega, by omega⟩ h35, ?_, g8.fr hf ⟨by omega, by omega⟩⟩
  rw [nTx_c (hf.c 0 (by omega) (by omega))]
  omega
/-- the same, cell 82 left alone -/
theorem Iv.al2 {c : Nat} {m m' : Mm} (h : Iv c m) (hf : Fr (fun q => PFr q ∧ q ≠ 82) m m') (h1 : Iv1 m') : Iv (c + 1) m' := by
  have e82 := hf.c 82 (by omega) (by omega)
  exact h.al (hf.mono (fun q hq => hq.1)) (by rw [e82]) (by rw [e82]) (by rw [e82]) h1
/-- nothing but scratch has changed -/
theorem Iv.sc {c : Nat} {m m' : Mm} (h : Iv c m) (hf : Fr (fun q => (27 ≤ q ∧ q ≤ 45) ∨ (48 ≤ q ∧ q ≤ 49) ∨ q = 53 ∨ (85 ≤ q ∧ q ≤ 88) ∨ (92 ≤ q ∧ q ≤ 96) ∨ q = 104) m m') : Iv (c + 1) m' :=
  h.al2 (hf.mono (fun q hq => by omega)) (h.1.fr hf (by omega) (fun q a1 a2 => by omega) (by omega) (fun q a1 => by omega))
