/-! stop -/
theorem Eqv_len {l r : List Rq} (h : Eqv l r) : l.length = r.length := by
  sorry
