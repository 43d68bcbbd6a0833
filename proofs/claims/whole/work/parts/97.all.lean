section
/-! ALL 41; THE START -/
theorem alike41 (c : Nat) (hc : c ≤ 512) : Alike41 (Iv c) (Iv (c + 1)) :=
  ⟨fun w0 w1 w2 w3 mem h => ak_man w0 w1 w2 w3 mem h,
   fun w0 w1 mem h => ak_told w0 w1 mem h,
   fun w0 w1 mem h => ak_bears w0 w1 mem h,
   fun w0 w1 mem h => ak_as w0 w1 mem h,
   fun w0 w1 mem h => ak_turns w0 w1 mem h,
   fun w0 w1 w2 mem h => ak_set w0 w1 w2 mem h,
   fun w0 w1 w2 w3 mem h => ak_says w0 w1 w2 w3 mem h,
   fun  mem h => ak_sets  mem h,
   fun w0 mem h => ak_deal w0 mem h,
   fun w0 mem h => ak_seed w0 mem h,
   fun w0 mem h => ak_goes w0 mem h,
   fun w0 mem h => ak_alley w0 mem h,
   fun w0 w1 mem h => ak_best w0 w1 mem h,
   fun w0 mem h => ak_pair w0 mem h,
   fun w0 mem h => ak_clear w0 mem h,
   fun w0 w1 mem h => ak_force w0 w1 mem h,
   fun w0 w1 mem h => ak_behind w0 w1 mem h,
   fun w0 mem h => ak_falls w0 mem h,
   fun w0 w1 w2 mem h => ak_becomes w0 w1 w2 mem h,
   fun w0 w1 mem h => ak_like w0 w1 mem h,
   fun  mem h => ak_fee  mem h,
   fun w0 mem h => ak_fine w0 mem h,
   fun w0 w1 w2 mem h => ak_feed w0 w1 w2 mem h,
   fun w0 mem h => ak_trim w0 mem h,
   fun mem h => ak_text hc mem h,
   fun w0 w1 mem h => ak_textTold w0 w1 mem h,
   fun w0 mem h => ak_why w0 mem h,
   fun w0 w1 w2 mem h => ak_sheet w0 w1 w2 mem h,
   fun w0 w1 w2 mem h => ak_mark w0 w1 w2 mem h,
   fun w0 mem h => ak_pour w0 mem h,
   fun w0 mem h => ak_reads w0 mem h,
   fun w0 w1 w2 w3 w4 mem h => ak_copy w0 w1 w2 w3 w4 mem h,
   fun w0 w1 w2 mem h => ak_lay w0 w1 w2 mem h,
   fun w0 w1 mem h => ak_ask w0 w1 mem h,
   fun w0 w1 mem h => ak_item w0 w1 mem h,
   fun w0 w1 mem h => ak_rest w0 w1 mem h,
   fun w0 mem h => ak_tell w0 mem h,
   fun w0 mem h => ak_check w0 mem h,
   fun  mem h => ak_keep  mem h,
   fun  mem h => ak_back  mem h,
   fun w0 mem h => ak_count w0 mem h⟩
theorem m0_z {q j : Nat} (h : q = 0 ∨ q = 46 ∨ q = 47 ∨ q = 52 ∨ q = 82 ∨ q = 84 ∨ q = 89 ∨ q = 55 ∨ q = 57 ∨ q = 59 ∨ q = 61 ∨ (98 ≤ q ∧ q ≤ 105)) : mem0 q j = 0 := by
  unfold mem0
  rw [if_neg (by omega), if_neg (by omega), if_neg (by omega), if_neg (by omega), if_neg (by omega), if_neg (by omega), if_neg (by omega), if_neg (by omega), if_neg (by omega)]
theorem m0_83 {j : Nat} (h : j ≠ 0) : mem0 83 j = 0 := by
  unfold mem0
  rw [if_neg (by omega), if_neg (by omega), if_neg (by omega), if_neg (by omega), if_neg (by omega), if_neg (by omega), if_neg (by omega), if_neg (by omega), if_neg (by omega)]
theorem iv0 : Iv 0 mem0 := by
  have n1 : nm (mem0 83) = 0 := by decide +kernel
  have n2 : nt (mem0 83) = 0 := by decide +kernel
  refine ⟨⟨⟨⟨by decide +kernel, fun i j hi hj => ?_⟩, ?_, by decide +kernel, fun t ht => ?_, ?_⟩, ⟨by rw [n1]; decide +kernel, by rw [n1]; omega, fun i j hi hj => ?_⟩, ⟨by rw [n2]; decide +kernel, by rw [n2]; omega, fun t ht => ?_⟩, fun q hq => m0_83 (by omega), ⟨0, by omega, m0_83 (by omega)⟩⟩, ⟨fun q hq => m0_z (by omega), by decide +kernel, Or.inl (by decide +kernel)⟩, ⟨by decide +kernel, ⟨0, by omega, by decide +kernel⟩, fun i hi => ?_⟩, ?_, ?_, ⟨by decide +kernel, ⟨0, by omega, by decide +kernel⟩, fun i hi => ?_⟩, by decide +kernel, ?_⟩
  · rw [n1] at hi; omega
  · unfold AlN; decide +kernel
  · rw [n2] at ht; omega
  · decide +kernel
  · rw [n1] at hi; omega
  · rw [n2] at ht; omega
  · rw [m0_z (by omega), m0_z (by omega)]
    exact ⟨0, by omega, rfl, rfl⟩
  · intro s hs
    have e : s = 0 ∨ s = 1 ∨ s = 2 ∨ s = 3 := by omega
    refine ⟨?_, ?_, Or.inl ?_, ⟨0, by omega, m0_z (by omega)⟩, fun k hk => ?_⟩
    · rcases e with rfl | rfl | rfl | rfl <;> decide +kernel
    · rcases e with rfl | rfl | rfl | rfl <;> decide +kernel
    · rcases e with rfl | rfl | rfl | rfl <;> decide +kernel
    · rw [m0_z (q := 54 + 2 * s + 1) (by omega), m0_z (q := 99) (by omega)]
      exact Or.inr ⟨rfl, by decide, by decide⟩
  · intro s hs
    have e : s = 0 ∨ s = 1 ∨ s = 2 ∨ s = 3 ∨ s = 4 := by omega
    have z : mem0 100 s = 0 := m0_z (by omega)
    rw [z]
    refine ⟨?_, ⟨0, by omega, rfl⟩, fun q => absurd q (by decide), fun q => absurd q (by decide), fun q => absurd q (by decide)⟩
    rcases e with rfl | rfl | rfl | rfl | rfl <;> decide +kernel
  · exfalso
    rw [m0_z (q := 82) (by omega)] at hi
    exact absurd hi (Nat.not_lt_zero i)
  · unfold Iv8; exact ⟨fun j _ => rfl, fun j _ => rfl⟩
/-- the law from its entry -/
theorem law_all (X : CX) (L : Nat) (xs : Nat → Int32) (hX : va_X (cx_b X) L xs (cx_s X) (cx_s X).heap) (hb9 : cx_b X < cx_n X) (hL : L ≤ 3072) (ce : Nat → va_E) : GoC X 2048 600000 7302250 M_L_law 0 [some (.ref (cx_b X)), none, none, none] [] 0 0 ce 0 (fun r _ _ => r = some (.int 1)) :=
  law_go X L xs hX hb9 hL Iv alike41 (fun c mem h => h.up) iv0 ce
end
