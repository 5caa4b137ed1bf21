/-! ===== the relation holds of the first state ===== -/
theorem inv_0 : Inv S0F := by
  refine ⟨?_, ?_, ?_, ?_, ?_, ?_, ?_, ?_, Or.inl rfl⟩
  · unfold IvA rg; decide +kernel
  · unfold IvF rg; decide +kernel
  · unfold IvH rg; decide +kernel
  · unfold IvP rg; decide +kernel
  · intro i hi
    have e : (gi S0F 30 0 1).toInt = 0 := by decide +kernel
    rw [e]
    exact ⟨rfl, fun q => absurd q (by omega), fun _ => rfl⟩
  · refine ⟨Or.inl ⟨rfl, rfl⟩, ?_⟩
    unfold rg
    decide +kernel
  · refine ⟨rfl, ?_, fun j hj => ?_⟩
    · unfold rg; decide +kernel
    · have e : (gi S0F 30 0 24).toInt = 0 := by decide +kernel
      rw [e] at hj
      omega
  · unfold IvE; decide +kernel
