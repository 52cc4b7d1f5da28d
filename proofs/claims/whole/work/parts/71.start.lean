
/-! the invariant at the start -/
theorem uI_0 : uI 0 0 (uS0 113) := by
  refine ⟨by decide, by decide +kernel, by decide +kernel, fun m _ hm j hj => ?_, by decide +kernel, by decide +kernel, by decide +kernel, by decide +kernel, by decide +kernel, by decide +kernel, fun g hg => ⟨0, Nat.le_refl _, ?_⟩⟩
  · have h : ∀ m, m < 8 → ∀ j, j < 14 → uS0 113 (32 + 14 * m + j) = 0 := by decide +kernel
    exact h m hm j hj
  · have h : ∀ g, g < 6 → uS0 113 (18 + g) = nI 0 := by decide +kernel
    exact h g hg
theorem uInv_0 : uInv 0 uS0 := by
  refine ⟨⟨0, (uEt.mk (by decide +kernel) (by decide +kernel) (by decide +kernel) (by decide +kernel) (by decide +kernel) (by decide +kernel) (by decide +kernel) (by decide +kernel) (by decide +kernel) (by decide +kernel) (by decide +kernel) (by decide +kernel) (by decide +kernel) (by decide +kernel) : uEt uS0 uS0), uI_0⟩, ⟨0, 0, by decide +kernel, by decide, by decide +kernel, by decide, by decide +kernel, fun j hj => absurd hj (Nat.not_lt_zero j)⟩, Or.inl ⟨by decide +kernel, by decide +kernel⟩, ⟨by decide +kernel, by decide +kernel⟩, ⟨0, by decide, by decide +kernel, by decide +kernel, fun j hj => absurd hj (Nat.not_lt_zero j)⟩, ⟨0, by decide, by decide +kernel, by decide +kernel, fun j _ => ⟨⟨0, by decide, rfl⟩, ⟨0, by decide, rfl⟩⟩, fun j hj => absurd hj (Nat.not_lt_zero j)⟩, by decide +kernel⟩
