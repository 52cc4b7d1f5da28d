theorem uO_b_nb (b : Bool) : narrow .boolean (.int (uO_b b)) = .int (uO_b b) := by cases b <;> rfl
theorem uM_isK {x : Int32} {M : Nat} (hM : M ≤ 1000) : (0 ≤ x ∧ x ≤ nI M - 1) ↔ (0 ≤ x ∧ x < nI M) := by
  have e : nI M - 1 = nI M + (-1) := by rw [Int32.sub_eq_add_neg]
  constructor
  · intro ⟨h1, h2⟩
    refine ⟨h1, ?_⟩
    cases M with
    | zero =>
      have h3 : x ≤ -1 := h2
      have h4 : (0 : Int32) ≤ -1 := Int32.le_trans h1 h3
      exact absurd h4 (by decide)
    | succ n =>
      rw [nI_pred] at h2
      obtain ⟨j, hj, rfl⟩ := nI_of (Int32.not_lt.mpr h1)
      have := (nI_leI hj (by omega)).mp h2
      exact (nI_ltI hj (by omega)).mpr (by omega)
  · intro ⟨h1, h2⟩
    refine ⟨h1, ?_⟩
    obtain ⟨j, hj, rfl⟩ := nI_of (Int32.not_lt.mpr h1)
    have h3 := (nI_ltI hj (by omega)).mp h2
    cases M with
    | zero => omega
    | succ n =>
      rw [nI_pred]
      exact (nI_leI hj (by omega)).mpr (by omega)
theorem uM_okK {x X : Int32} {M : Nat} (hX : X = nI M - 1) (hM : M ≤ 1000) (h : 0 ≤ x ∧ x ≤ X) : ∃ m, m < M ∧ x = nI m := by
  subst hX
  have h2 := (uM_isK hM).mp h
  obtain ⟨j, hj, rfl⟩ := nI_of (Int32.not_lt.mpr h2.1)
  exact ⟨j, (nI_ltI hj (by omega)).mp h2.2, rfl⟩
