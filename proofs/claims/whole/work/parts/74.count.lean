
def q_ct (P : Nat → Bool) : Nat → Nat
  | 0 => 0
  | n + 1 => q_ct P n + if P n = true then 1 else 0
theorem q_ct_sum (P : Nat → Bool) : ∀ n, q_sum (fun o => if P o = true then 1 else 0) n = nI (q_ct P n)
  | 0 => rfl
  | n + 1 => by
    show q_sum (fun o => if P o = true then 1 else 0) n + (if P n = true then 1 else 0) = nI (q_ct P n + if P n = true then 1 else 0)
    rw [q_ct_sum P n]
    by_cases c : P n = true
    · rw [if_pos c, if_pos c]; exact nI_add _ 1
    · rw [if_neg c, if_neg c, Int32.add_zero]; rfl
theorem q_ct_mono {P Q : Nat → Bool} (h : ∀ i, P i = true → Q i = true) : ∀ n, q_ct P n ≤ q_ct Q n
  | 0 => Nat.le_refl _
  | n + 1 => by
    have h1 := q_ct_mono h n
    rw [q_ct, q_ct]
    by_cases c : P n = true
    · rw [if_pos c, if_pos (h n c)]; omega
    · rw [if_neg c]; omega
theorem q_ct_lt {P Q : Nat → Bool} (h : ∀ i, P i = true → Q i = true) {j : Nat} (hP : ¬ P j = true) (hQ : Q j = true) : ∀ n, j < n → q_ct P n < q_ct Q n
  | 0, hj => absurd hj (Nat.not_lt_zero j)
  | n + 1, hj => by
    rw [q_ct, q_ct]
    by_cases e : j = n
    · subst e
      have h1 := q_ct_mono h j
      rw [if_neg hP, if_pos hQ]
      omega
    · have h1 := q_ct_lt h hP hQ n (by omega)
      by_cases c : P n = true
      · rw [if_pos c, if_pos (h n c)]; omega
      · rw [if_neg c]; omega
theorem q_ct_all : ∀ n, q_ct (fun _ => true) n = n
  | 0 => rfl
  | n + 1 => by rw [q_ct, q_ct_all n, if_pos rfl]
def uBf (K : Nat → Nat) (g o : Nat) : Bool := decide (K g < K o ∨ (K o = K g ∧ o < g))
theorem uBf_lt (K : Nat → Nat) {g : Nat} (hg : g < 6) : q_ct (uBf K g) 6 < 6 := by
  have h := q_ct_lt (P := uBf K g) (Q := fun _ => true) (fun _ _ => rfl) (j := g) (by unfold uBf; rw [decide_eq_true_iff]; omega) rfl 6 hg
  rw [q_ct_all] at h
  exact h
theorem uBf_inj (K : Nat → Nat) (g o : Nat) (hg : g < 6) (ho : o < 6) (h : q_ct (uBf K g) 6 = q_ct (uBf K o) 6) : g = o := by
  have key : ∀ g o, o < 6 → (K g < K o ∨ (K o = K g ∧ o < g)) → q_ct (uBf K o) 6 < q_ct (uBf K g) 6 := fun g o ho hb => by
    refine q_ct_lt (fun i hi => ?_) (j := o) ?_ ?_ 6 ho
    · unfold uBf at hi ⊢
      rw [decide_eq_true_iff] at hi ⊢
      omega
    · unfold uBf; rw [decide_eq_true_iff]; omega
    · unfold uBf; rw [decide_eq_true_iff]; exact hb
  by_cases e : g = o
  · exact e
  · by_cases c : K g < K o ∨ (K o = K g ∧ o < g)
    · have := key g o ho c
      omega
    · have := key o g hg (by omega)
      omega
