section
/-! the context holds -/
theorem len_sm {args : Array Value} {s : State} {t : Term} {v : Value} {a : Nat} {cell : Cell} (h : (Term.length t).eval args s none [] s = some v) (ht : t.eval args s none [] s = some (.ref a)) (hc : s.arrayAt? a = some cell) : cell.slots.size < 2 ^ 31 := by
  by_cases q : cell.slots.size < 2 ^ 31
  · exact q
  · simp only [Term.eval, ht, hc, Option.bind_eq_bind, Option.bind_some] at h
    rw [if_neg q] at h
    cases h
theorem st_row2 {args : Array Value} {s : State} {C n : String} {L : Nat} {F : List Int32} {A : Nat → Prop} (hL : L < 2 ^ 31) (hl : (Cond.laysStatic C n "[I").before args s = true) (hini : (Cond.initialized C).before args s = true) (har : (Cond.arrayOf (.static C n "[I") .int).before args s = true) (hle : (Cond.eq (.length (.static C n "[I")) (.int (Int32.ofNat L))).before args s = true) (hel : ∀ j : Nat, j < L → (Cond.eq (.elem (.static C n "[I") (.int (Int32.ofNat j))) (.int (F.getD j 0))).before args s = true) (hA : ∀ a : Nat, a < s.heap.size → ¬ A a) : ∃ a : Nat, va_Z C n "[I" (.ref a) A s s.heap ∧ va_X a L (fun j => F.getD j 0) s s.heap ∧ a < s.heap.size := by
  obtain ⟨a, ht, cell, h1, h2, h3, h4, h5, h6, h7⟩ := va_Tof (f := fun j => .int (F.getD j 0)) (A := A) hL har (va_eqt hle) (fun j hj => va_eqt (hel j hj)) hA
  obtain ⟨a2, cell2, g1, g2, g3⟩ := Term.length_spec (va_eqt hle)
  cases ht.symm.trans g1
  have g4 := (State.arrayAt?_spec g2).1
  cases h1.symm.trans g4
  have hs := len_sm (va_eqt hle) ht g2
  have e : cell.slots.size = L := by
    have q : Int32.ofNat cell.slots.size = Int32.ofNat L := h5
    exact (nI_eq hs hL).mp q
  exact ⟨a, va_Zof hl hini ht hA, ⟨cell, h1, h2, h3, e, h6⟩, (Array.getElem?_eq_some_iff.mp h1).1⟩
theorem rf_of {args : Array Value} {s : State} {C n d : String} (h : (Cond.isRef (.static C n d)).before args s = true) : ∃ r : Option Nat, (Term.static C n d).eval args s none [] s = some (va_rf r) := by
  cases hv : (Term.static C n d).eval args s none [] s with
  | none => simp [Cond.before, Cond.holds, Cond.value, hv] at h
  | some w =>
    cases w with
    | ref a => exact ⟨some a, rfl⟩
    | null => exact ⟨none, rfl⟩
    | _ => simp [Cond.before, Cond.holds, Cond.value, hv] at h
theorem cx_of {s : State} {b : Nat} (l : Launch) (hts : ∀ w ∈ lw_tbl, w.before #[Value.ref b] s = true) (hgv : (Jvm.Cond.and given_1 narrow_1).before #[Value.ref b] s = true) : ∃ X : CX, cx_ok X ∧ cx_l X = l ∧ cx_s X = s ∧ cx_b X = b := by
  obtain ⟨D, a, hK⟩ := cx_K hts
  have hs := flat_of_before _ hgv
  have hA : ∀ q : Nat, q < s.heap.size → ¬ (s.heap.size ≤ q) := fun q hq => Nat.not_le.mpr hq
  have hn := nw_el hgv
  have hrow : ∀ i : Nat, ∃ q : Nat, i < 5 → va_Z (st_C i) (st_N i) "[I" (.ref q) (fun q => s.heap.size ≤ q) s s.heap ∧ va_X q (st_L i) (fun j => (st_F i).getD j 0) s s.heap ∧ q < s.heap.size := by
    intro i
    by_cases hi : i < 5
    · have hw : Cond.laysStatic (st_C i) (st_N i) "[I" ∈ lw_tbl ∧ Cond.initialized (st_C i) ∈ lw_tbl := by
        have e : i = 0 ∨ i = 1 ∨ i = 2 ∨ i = 3 ∨ i = 4 := by omega
        rcases e with rfl | rfl | rfl | rfl | rfl
        · exact zs_0
        · exact zs_1
        · exact zs_2
        · exact zs_3
        · exact zs_4
      have hb : st_L i < 2 ^ 31 := by
        have : st_L i ≤ 9 := by unfold st_L; split <;> omega
        omega
      obtain ⟨q1, q2, q3⟩ := hn i hi
      obtain ⟨q, hq⟩ := st_row2 (F := st_F i) (A := fun q => s.heap.size ≤ q) hb (hts _ hw.1) (hts _ hw.2) q1 q2 q3 hA
      exact ⟨q, fun _ => hq⟩
    · exact ⟨0, fun h => absurd h hi⟩
  obtain ⟨ro, hro⟩ := Classical.axiomOfChoice hrow
  obtain ⟨adK, adV, hS, hE⟩ := nw_st (A := fun q => s.heap.size ≤ q) hgv hA
  have hz : ∀ i : Nat, i < 6 → Cond.stringRef RX7 (ss_I i) (ss_T i) ∈ lw_tbl := by
    intro i hi
    have e : i = 0 ∨ i = 1 ∨ i = 2 ∨ i = 3 ∨ i = 4 ∨ i = 5 := by omega
    rcases e with rfl | rfl | rfl | rfl | rfl | rfl
    · exact zr_0
    · exact zr_1
    · exact zr_2
    · exact zr_3
    · exact zr_4
    · exact zr_5
  have hfm : (Cond.isRef (.static "jdk/internal/util/Preconditions" "SIOOBE_FORMATTER" "Ljava/util/function/BiFunction;")).before #[Value.ref b] s = true := hs _ (by decide +kernel)
  obtain ⟨r, hr⟩ := rf_of hfm
  have hcs : (Cond.eq (.static "java/lang/String" "COMPACT_STRINGS" "Z") (.int 1)).before #[Value.ref b] s = true := hs _ (by decide +kernel)
  let k : Nat → Nat := fun j => if j < 5 then ro j else if j < 12 then adK (j - 6) else adV (j - 12)
  have k1 : ∀ i, i < 5 → k i = ro i := fun i hi => if_pos hi
  have k2 : (fun i => k (12 + i)) = adV := funext (fun i => by show (if 12 + i < 5 then _ else if 12 + i < 12 then _ else adV (12 + i - 12)) = _; rw [if_neg (by omega), if_neg (by omega), show 12 + i - 12 = i by omega])
  have k3 : ∀ i, i < 6 → k (6 + i) = adK i := fun i hi => by show (if 6 + i < 5 then _ else if 6 + i < 12 then adK (6 + i - 6) else _) = _; rw [if_neg (by omega), if_pos (by omega), show 6 + i - 6 = i by omega]
  have k4 : vk_S 6 ss_L ss_B (fun i => k (6 + i)) (fun i => k (12 + i)) (fun q => s.heap.size ≤ q) s s.heap := by
    rw [k2]
    refine ⟨fun i hi => ?_, fun i j hi hj e => ?_⟩
    · show va_O "java/lang/String" (k (6 + i)) _ s s.heap ∧ va_OF "java/lang/String" "coder" "B" (.int 0) (k (6 + i)) _ s s.heap ∧ va_OF "java/lang/String" "value" "[B" (.ref (adV i)) (k (6 + i)) _ s s.heap ∧ _
      rw [k3 i hi]
      exact hS.1 i hi
    · have e2 : k (6 + i) = k (6 + j) := e
      rw [k3 i hi, k3 j hj] at e2
      exact hS.2 i j hi hj e2
  refine ⟨(l, s, D, a, b, k), ⟨hts, hK, fun i hi => ?_, k4, fun i hi => ?_, va_Zof (hts _ zs_c.1) (hts _ zs_c.2) (va_eqi hcs) hA, r, va_Zof (hts _ zs_f.1) (hts _ zs_f.2) hr hA⟩, rfl, rfl, rfl⟩
  · show va_Z (st_C i) (st_N i) "[I" (.ref (k i)) _ s s.heap ∧ va_X (k i) _ _ s s.heap ∧ k i < s.heap.size
    rw [k1 i hi]
    exact hro i hi
  · show vk_R RX7 (ss_I i) (ss_T i) (k (6 + i)) s
    rw [k3 i hi]
    have h1 := hts _ (hz i hi)
    have h2 := hE i hi
    exact vk_R.of (A := #[Value.ref b]) h1 h2
end
