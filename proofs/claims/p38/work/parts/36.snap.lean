/-! the snapshot -/
theorem c128 {c : Nat} (h : c < 128) : vp_nar .char (nI c) = nI c ∧ i2c (nI c) = nI c := by
  have : ∀ c : Fin 128, vp_nar .char (nI c.val) = nI c.val ∧ i2c (nI c.val) = nI c.val := by decide +kernel
  exact this ⟨c, h⟩
theorem nr_ch {c : Nat} (h : c < 128) : nr .char (nI c) = some (nI c) := if_pos (c128 h).1