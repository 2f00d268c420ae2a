/-! The text is cut. -/
theorem C_trunc {σ : f_M} {a v : Int32} (h : σ 0 1 = v) : g_45 a σ = some (if a < 0 ∨ v < a then (false, σ) else (true, f_up σ 0 1 a)) := by
  unfold g_45
  rw [h]
  by_cases h1 : a < 0
  · rw [if_pos h1, if_pos (Or.inl h1)]
  · rw [if_neg h1]
    by_cases h2 : a ≤ v
    · rw [if_pos h2, if_neg (fun h => h.elim h1 (fun h => (i32_nlt _ _).mpr h2 h))]
    · rw [if_neg h2, if_pos (Or.inr ((i32_nle _ _).mp h2))]
theorem M_trunc {σ : f_M} {a v : Int32} (h : σ 155 10 = v) : g_47 a σ = some (if a < 0 ∨ v < a then (false, f_up σ 155 6 0) else (true, f_up (f_up σ 155 6 0) 155 10 a)) := by
  have e10 : f_up σ 155 6 0 155 10 = v := by rw [up_ix (by omega)]; exact h
  have hw := M_within (f_up σ 155 6 0) a 0 v
  unfold g_47
  rw [e10]
  have e0 : (0 : Int64) = (0 : Int32).toInt64 := rfl
  rw [e0, hw, bnd]
  by_cases h1 : a < 0
  · simp [h1]
  · by_cases h2 : v < a
    · simp [h2]
    · simp [h1, h2]
