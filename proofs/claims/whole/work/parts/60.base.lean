/-! THE PURE PART begins: what the leaves answer -/
theorem s_X8_isWithin {v a b : Int32} {mem : Mm} {K : Bool → Mm → Prop} (h : K (decide (a ≤ v ∧ v ≤ b)) mem) : W_X8_isWithin v a b mem K := by
  unfold W_X8_isWithin
  refine ⟨fun h1 => ?_, fun h1 => ⟨fun h2 => ?_, fun h2 => ?_⟩⟩
  · rw [decide_eq_false (fun q => absurd q.1 (Int32.not_le.mpr h1))] at h; exact h
  · rw [decide_eq_false (fun q => absurd q.2 (Int32.not_le.mpr h2))] at h; exact h
  · rw [decide_eq_true ⟨Int32.not_lt.mp h1, Int32.not_lt.mp h2⟩] at h; exact h
theorem s_X9_in {v a b : Int32} {mem : Mm} {K : Bool → Mm → Prop} (h : K (decide (a ≤ v ∧ v ≤ b)) mem) : W_X9_in v a b mem K := by
  unfold W_X9_in
  refine ⟨fun h1 => ?_, fun h1 => ⟨fun h2 => ?_, fun h2 => ?_⟩⟩
  · rw [decide_eq_false (fun q => absurd q.1 (Int32.not_le.mpr h1))] at h; exact h
  · rw [decide_eq_false (fun q => absurd q.2 (Int32.not_le.mpr h2))] at h; exact h
  · rw [decide_eq_true ⟨Int32.not_lt.mp h1, Int32.not_lt.mp h2⟩] at h; exact h
/-- the number held between two -/
def clampI (v a b : Int32) : Int32 := if v < a then a else if b < v then b else v
theorem s_X9_within {v a b : Int32} {mem : Mm} {K : Int32 → Mm → Prop} (h : K (clampI v a b) mem) : W_X9_within v a b mem K := by
  unfold W_X9_within
  unfold clampI at h
  refine ⟨fun h1 => ⟨fun h2 => ?_, fun h2 => ?_⟩, fun h1 => ?_⟩
  · rw [if_neg (Int32.not_lt.mpr h1), if_neg (Int32.not_lt.mpr h2)] at h; exact h
  · rw [if_neg (Int32.not_lt.mpr h1), if_pos (Int32.not_le.mp h2)] at h; exact h
  · rw [if_pos (Int32.not_le.mp h1)] at h; exact h
theorem s_X9_isTopic {v : Int32} {mem : Mm} {K : Bool → Mm → Prop} (h : K (decide (0 ≤ v ∧ v ≤ 7)) mem) : W_X9_isTopic v mem K := by
  unfold W_X9_isTopic
  exact s_X9_in h
theorem s_X9_isSheet {v : Int32} {mem : Mm} {K : Bool → Mm → Prop} (h : K (decide (0 ≤ v ∧ v ≤ 3)) mem) : W_X9_isSheet v mem K := by
  unfold W_X9_isSheet
  exact s_X9_in h
theorem s_X8_isSheet {v : Int32} {mem : Mm} {K : Bool → Mm → Prop} (h : K (decide (0 ≤ v ∧ v ≤ 3)) mem) : W_X8_isSheet v mem K := by
  unfold W_X8_isSheet
  exact s_X8_isWithin h
theorem s_X9_isSlot {v : Int32} {mem : Mm} {K : Bool → Mm → Prop} (h : K (decide (0 ≤ v ∧ v ≤ 4)) mem) : W_X9_isSlot v mem K := by
  unfold W_X9_isSlot
  exact s_X9_in h
theorem s_X8_isSlot {v : Int32} {mem : Mm} {K : Bool → Mm → Prop} (h : K (decide (0 ≤ v ∧ v ≤ 4)) mem) : W_X8_isSlot v mem K := by
  unfold W_X8_isSlot
  exact s_X8_isWithin h
theorem s_X9_of {i j : Nat} {mem : Mm} {K : Int32 → Mm → Prop} (hi : i < 9) (hj : j < 6) (h : K (mem 83 (7 + 6 * i + j)) mem) : W_X9_of (nI i) (nI j) mem K := by
  unfold W_X9_of
  refine ⟨7 + 6 * i + j, ?_, by omega, h⟩
  have e6 : (6 : Int32) = nI 6 := rfl
  have e7 : (7 : Int32) = nI 7 := rfl
  rw [e6, e7, pk_mul, nI_add, nI_add]
theorem s_X9_put {i j : Nat} {v : Int32} {mem : Mm} {K : Mm → Prop} (hi : i < 9) (hj : j < 6) (h : K (mu mem 83 (7 + 6 * i + j) v)) : W_X9_put (nI i) (nI j) v mem K := by
  unfold W_X9_put
  refine ⟨7 + 6 * i + j, ?_, by omega, fun m1 e1 => by rw [e1]; exact h⟩
  have e6 : (6 : Int32) = nI 6 := rfl
  have e7 : (7 : Int32) = nI 7 := rfl
  rw [e6, e7, pk_mul, nI_add, nI_add]
