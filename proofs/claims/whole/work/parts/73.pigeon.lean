
/-! as many values as places: each is taken -/
theorem q_pig : ∀ (n : Nat) (f : Nat → Nat), (∀ i, i < n → f i < n) → (∀ i j, i < n → j < n → f i = f j → i = j) → ∀ x, x < n → ∃ i, i < n ∧ f i = x
  | 0, _, _, _, x, hx => absurd hx (Nat.not_lt_zero x)
  | n + 1, f, h1, h2, x, hx => by
    by_cases e : x = f n
    · exact ⟨n, by omega, e.symm⟩
    · have hv := h1 n (by omega)
      have hne : ∀ i, i < n → f i ≠ f n := fun i hi q => by
        have := h2 i n (by omega) (by omega) q
        omega
      obtain ⟨i, hi, hg⟩ := q_pig n (fun i => if f n < f i then f i - 1 else f i) (fun i hi => by
        have q1 := h1 i (by omega)
        have q2 := hne i hi
        show (if f n < f i then f i - 1 else f i) < n
        split <;> omega) (fun i j hi hj q => by
        have a := hne i hi
        have b := hne j hj
        have q' : (if f n < f i then f i - 1 else f i) = (if f n < f j then f j - 1 else f j) := q
        refine h2 i j (by omega) (by omega) ?_
        split at q' <;> split at q' <;> omega) (if f n < x then x - 1 else x) (by split <;> omega)
      refine ⟨i, by omega, ?_⟩
      have hg' : (if f n < f i then f i - 1 else f i) = if f n < x then x - 1 else x := hg
      have a := hne i hi
      split at hg' <;> split at hg' <;> omega
