section
/-! the context out of the entry: statics, strings -/
theorem st_row {args : Array Value} {s : State} {C n : String} {L : Nat} {F : List Int32} {A : Nat → Prop} (hL : L < 2 ^ 31) (hl : (Cond.laysStatic C n "[I").before args s = true) (hini : (Cond.initialized C).before args s = true) (har : (Cond.arrayOf (.static C n "[I") .int).before args s = true) (hle : (Cond.eq (.length (.static C n "[I")) (.int (Int32.ofNat L))).before args s = true) (hel : ∀ j : Nat, j < L → (Cond.eq (.elem (.static C n "[I") (.int (Int32.ofNat j))) (.int (F.getD j 0))).before args s = true) (hsz : ∀ (a : Nat) (cell : Cell), s.heap[a]? = some cell → s.isArrayOf cell .int → cell.slots.size < 2 ^ 31) (hA : ∀ a : Nat, a < s.heap.size → ¬ A a) : ∃ a : Nat, va_Z C n "[I" (.ref a) A s s.heap ∧ va_X a L (fun j => F.getD j 0) s s.heap ∧ a < s.heap.size := by
  obtain ⟨a, ht, cell, h1, h2, h3, h4, h5, h6, h7⟩ := va_Tof (f := fun j => .int (F.getD j 0)) (A := A) hL har (va_eqt hle) (fun j hj => va_eqt (hel j hj)) hA
  have hs := hsz a cell h1 h2
  have e : cell.slots.size = L := by
    have q : Int32.ofNat cell.slots.size = Int32.ofNat L := h5
    exact (nI_eq hs hL).mp q
  exact ⟨a, va_Zof hl hini ht hA, ⟨cell, h1, h2, h3, e, h6⟩, (Array.getElem?_eq_some_iff.mp h1).1⟩
theorem zs_0 : Cond.laysStatic (st_C 0) (st_N 0) "[I" ∈ lw_tbl ∧ Cond.initialized (st_C 0) ∈ lw_tbl := ⟨(mt_2 _ (List.mem_of_getElem? (i := 205) (by decide +kernel))), (mt_1 _ (List.mem_of_getElem? (i := 1) (by decide +kernel)))⟩
theorem zs_1 : Cond.laysStatic (st_C 1) (st_N 1) "[I" ∈ lw_tbl ∧ Cond.initialized (st_C 1) ∈ lw_tbl := ⟨(mt_2 _ (List.mem_of_getElem? (i := 209) (by decide +kernel))), (mt_1 _ (List.mem_of_getElem? (i := 1) (by decide +kernel)))⟩
theorem zs_2 : Cond.laysStatic (st_C 2) (st_N 2) "[I" ∈ lw_tbl ∧ Cond.initialized (st_C 2) ∈ lw_tbl := ⟨(mt_2 _ (List.mem_of_getElem? (i := 173) (by decide +kernel))), (mt_1 _ (List.mem_of_getElem? (i := 3) (by decide +kernel)))⟩
theorem zs_3 : Cond.laysStatic (st_C 3) (st_N 3) "[I" ∈ lw_tbl ∧ Cond.initialized (st_C 3) ∈ lw_tbl := ⟨(mt_6 _ (List.mem_of_getElem? (i := 24) (by decide +kernel))), (mt_1 _ (List.mem_of_getElem? (i := 10) (by decide +kernel)))⟩
theorem zs_4 : Cond.laysStatic (st_C 4) (st_N 4) "[I" ∈ lw_tbl ∧ Cond.initialized (st_C 4) ∈ lw_tbl := ⟨(mt_6 _ (List.mem_of_getElem? (i := 26) (by decide +kernel))), (mt_1 _ (List.mem_of_getElem? (i := 10) (by decide +kernel)))⟩
theorem zs_c : Cond.laysStatic "java/lang/String" "COMPACT_STRINGS" "Z" ∈ lw_tbl ∧ Cond.initialized "java/lang/String" ∈ lw_tbl := ⟨(mt_3 _ (List.mem_of_getElem? (i := 236) (by decide +kernel))), (mt_1 _ (List.mem_of_getElem? (i := 15) (by decide +kernel)))⟩
theorem zs_f : Cond.laysStatic "jdk/internal/util/Preconditions" "SIOOBE_FORMATTER" "Ljava/util/function/BiFunction;" ∈ lw_tbl ∧ Cond.initialized "jdk/internal/util/Preconditions" ∈ lw_tbl := ⟨(mt_4 _ (List.mem_of_getElem? (i := 12) (by decide +kernel))), (mt_1 _ (List.mem_of_getElem? (i := 17) (by decide +kernel)))⟩
theorem zr_0 : Cond.stringRef RX7 (ss_I 0) (ss_T 0) ∈ lw_tbl := (mt_3 _ (List.mem_of_getElem? (i := 220) (by decide +kernel)))
theorem zr_1 : Cond.stringRef RX7 (ss_I 1) (ss_T 1) ∈ lw_tbl := (mt_3 _ (List.mem_of_getElem? (i := 221) (by decide +kernel)))
theorem zr_2 : Cond.stringRef RX7 (ss_I 2) (ss_T 2) ∈ lw_tbl := (mt_3 _ (List.mem_of_getElem? (i := 222) (by decide +kernel)))
theorem zr_3 : Cond.stringRef RX7 (ss_I 3) (ss_T 3) ∈ lw_tbl := (mt_4 _ (List.mem_of_getElem? (i := 62) (by decide +kernel)))
theorem zr_4 : Cond.stringRef RX7 (ss_I 4) (ss_T 4) ∈ lw_tbl := (mt_4 _ (List.mem_of_getElem? (i := 63) (by decide +kernel)))
theorem zr_5 : Cond.stringRef RX7 (ss_I 5) (ss_T 5) ∈ lw_tbl := (mt_4 _ (List.mem_of_getElem? (i := 64) (by decide +kernel)))
theorem nw_el {args : Array Value} {s : State} (h : (Jvm.Cond.and given_1 narrow_1).before args s = true) : ∀ i, i < 5 → (Cond.arrayOf (.static (st_C i) (st_N i) "[I") .int).before args s = true ∧ (Cond.eq (.length (.static (st_C i) (st_N i) "[I")) (.int (Int32.ofNat (st_L i)))).before args s = true ∧ ∀ j : Nat, j < st_L i → (Cond.eq (.elem (.static (st_C i) (st_N i) "[I") (.int (Int32.ofNat j))) (.int ((st_F i).getD j 0))).before args s = true := by
  have hs := flat_of_before _ h
  intro i hi
  have e : i = 0 ∨ i = 1 ∨ i = 2 ∨ i = 3 ∨ i = 4 := by omega
  rcases e with rfl | rfl | rfl | rfl | rfl
  all_goals
    refine ⟨hs _ (by decide +kernel), hs _ (by decide +kernel), fun j hj => ?_⟩
    have e2 : j = 0 ∨ j = 1 ∨ j = 2 ∨ j = 3 ∨ j = 4 ∨ j = 5 ∨ j = 6 ∨ j = 7 ∨ j = 8 := by
      have : st_L _ ≤ 9 := (by decide : ∀ i, i < 5 → st_L i ≤ 9) _ hi
      omega
    rcases e2 with rfl | rfl | rfl | rfl | rfl | rfl | rfl | rfl | rfl
    all_goals first | exact absurd hj (by decide) | exact hs _ (by decide +kernel)
theorem nw_st {args : Array Value} {s : State} (h : (Jvm.Cond.and given_1 narrow_1).before args s = true) {A : Nat → Prop} (hA : ∀ a : Nat, a < s.heap.size → ¬ A a) : ∃ adK adV : Nat → Nat, vk_S 6 ss_L ss_B adK adV A s s.heap ∧ ∀ i : Nat, i < 6 → (Term.string RX7 (ss_I i)).eval args s none [] s = some (.ref (adK i)) := by
  have hs := flat_of_before _ h
  have sp : ∀ i : Nat, i < 6 → i = 0 ∨ i = 1 ∨ i = 2 ∨ i = 3 ∨ i = 4 ∨ i = 5 := fun i hi => by omega
  refine vk_Sof (tm := fun i => Term.string RX7 (ss_I i)) (fun i hi => ?_) (fun i hi => ?_) (fun i hi => ?_) (fun i hi => ?_) (fun i hi => ?_) (fun i hi j hj => ?_) (fun i j hi hj hne => ?_) hA
  · rcases sp i hi with rfl | rfl | rfl | rfl | rfl | rfl <;> decide
  · rcases sp i hi with rfl | rfl | rfl | rfl | rfl | rfl <;> exact hs _ (by decide +kernel)
  · rcases sp i hi with rfl | rfl | rfl | rfl | rfl | rfl <;> exact hs _ (by decide +kernel)
  · rcases sp i hi with rfl | rfl | rfl | rfl | rfl | rfl <;> exact hs _ (by decide +kernel)
  · rcases sp i hi with rfl | rfl | rfl | rfl | rfl | rfl <;> exact hs _ (by decide +kernel)
  · have e2 : j = 0 ∨ j = 1 ∨ j = 2 ∨ j = 3 ∨ j = 4 := by
      have : ss_L.getD i 0 ≤ 5 := (by decide : ∀ i, i < 6 → ss_L.getD i 0 ≤ 5) i hi
      omega
    rcases sp i hi with rfl | rfl | rfl | rfl | rfl | rfl
    all_goals
      rcases e2 with rfl | rfl | rfl | rfl | rfl
      all_goals first | exact absurd hj (by decide) | exact hs _ (by decide +kernel)
  · rcases sp i hi with rfl | rfl | rfl | rfl | rfl | rfl
    all_goals
      rcases sp j hj with rfl | rfl | rfl | rfl | rfl | rfl
      all_goals first | exact absurd rfl hne | exact Or.inl (hs _ (by decide +kernel)) | exact Or.inr (hs _ (by decide +kernel))
end
