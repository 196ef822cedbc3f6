/-! the two agree at the start -/
theorem V0_eq {k : Nat} (h1 : k ≠ 0) (h2 : k ≠ 208) : V0 k = fun _ => 0 := by
  unfold V0
  rw [up_at h2, up_at h1]
  rfl
theorem SR_0 {B : Nat} (h1 : 1 ≤ B) (h2 : B + 17 ≤ 208) : SR V0 B (fun _ => 0) := by
  have e : ∀ k, B ≤ k → k < B + 17 → V0 k = fun _ => 0 := fun k a b => V0_eq (by omega) (by omega)
  refine ⟨⟨?_, ?_, ?_, ?_, ?_, ?_⟩, fun n w a b => ?_, fun q w a b => ?_, fun k a b => ⟨?_, ?_, ?_⟩⟩ <;> rw [e _ (by omega) (by omega)]
theorem I24_0 : I24 0 := fun i _ => b_0 i
theorem Sub_0 (y : Int32) : Sub 0 y := by
  intro i h
  rw [b_0] at h
  cases h
theorem GG_0 : GG (fun _ => 0) := ⟨⟨0, by decide, rfl⟩, ⟨0, by decide, rfl⟩, ⟨0, by decide, rfl, fun k h => absurd h (Nat.not_lt_zero k)⟩, fun n _ => ⟨I24_0, I24_0, Sub_0 _, Sub_0 _, 0, by decide, rfl⟩⟩
theorem RR_0 : RR V0 V0 := by
  refine ⟨?_, ?_, ?_, ?_, ?_, ?_, ?_⟩
  · unfold R1
    rw [V0_eq (k := 209) (by decide) (by decide)]
    exact ⟨SR_0 (by decide) (by decide), GG_0⟩
  · exact ⟨0, fun _ _ => 0, by decide, ⟨0, by decide, by decide +kernel, by decide +kernel, fun j h => absurd h (Nat.not_lt_zero j)⟩, ⟨by decide +kernel, fun j q h => absurd h (Nat.not_lt_zero j)⟩, fun j h => absurd h (Nat.not_lt_zero j)⟩
  · exact Or.inl ⟨by decide +kernel, by decide +kernel⟩
  · exact ⟨0, by decide, by decide +kernel, by decide +kernel, fun j h => absurd h (Nat.not_lt_zero j)⟩
  · exact ⟨0, by decide, by decide +kernel, by decide +kernel, fun j h => absurd h (Nat.not_lt_zero j)⟩
  · exact ⟨by decide +kernel, by decide +kernel, Or.inr ⟨by decide +kernel, by decide +kernel⟩⟩
  · unfold R7
    decide +kernel
