theorem tab_ne {x k : Int32} {a : Int} (h : ¬ x = k) (hk : k.toInt = a) : ¬ x.toInt = a := lv_neT h hk
theorem tab_out {x : Int32} {lo hi : Int} (h : ∀ j : Int, lo ≤ j → j ≤ hi → ¬ x.toInt = j) : x.toInt < lo ∨ hi < x.toInt := by
  by_cases h1 : x.toInt < lo
  · exact Or.inl h1
  · by_cases h2 : hi < x.toInt
    · exact Or.inr h2
    · exact absurd rfl (h x.toInt (by omega) (by omega))
