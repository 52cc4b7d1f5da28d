
theorem q_first_at {P : Nat → Bool} {i0 : Nat} : ∀ n i, i ≤ i0 → i0 ≤ i + n → i + n < 6 → (∀ j, j < 6 → (P j = true ↔ j = i0)) → q_first P n i = i0
  | 0, i, h1, h2, _, _ => by
    rw [q_first]
    omega
  | n + 1, i, h1, h2, h3, h => by
    rw [q_first]
    by_cases c : P i = true
    · rw [if_pos c]
      exact (h i (by omega)).mp c
    · rw [if_neg c]
      have e : i ≠ i0 := fun q => c ((h i (by omega)).mpr q)
      exact q_first_at n (i + 1) (by omega) (by omega) (by omega) h
theorem uM_found_at {S : q_St} {x : Int32} {i0 : Nat} (h : ∀ j, j < 6 → (uM_ahead S j = x ↔ j = i0)) : ∀ k, k ≤ 6 → uM_found S x k = if i0 < k then i0 else 0
  | 0, _ => rfl
  | k + 1, hk => by
    rw [uM_found, uM_found_at h k (by omega)]
    by_cases c : uM_ahead S k = x
    · rw [if_pos c]
      have e := (h k (by omega)).mp c
      rw [if_pos (by omega)]
      exact e
    · rw [if_neg c]
      have e : k ≠ i0 := fun q => c ((h k (by omega)).mpr q)
      by_cases q : i0 < k
      · rw [if_pos q, if_pos (show i0 < k + 1 by omega)]
      · rw [if_neg q, if_neg (show ¬ i0 < k + 1 by omega)]
theorem uT.aheadK {d M : Nat} {S : q_St} (h : uT d M S S) (hd : d < 2 ^ 29) {g : Nat} (hg : g < 6) : uC_ahead S g = nI (q_ct (uBf (fun o => uN (S 113 (18 + o))) g) 6) := by
  rw [← q_ct_sum]
  refine q_sum_cg 6 (fun o ho => ?_)
  obtain ⟨a, ha, ea⟩ := h.db hg
  obtain ⟨b, hb, eb⟩ := h.db ho
  unfold uC_fAh uBf
  rw [h.dbt hg, h.dbt ho]
  refine u_ifc ?_
  rw [decide_eq_true_iff]
  show (S 113 (18 + g) < S 113 (18 + o) ∨ (S 113 (18 + o) = S 113 (18 + g) ∧ o < g)) ↔ (uN (S 113 (18 + g)) < uN (S 113 (18 + o)) ∨ (uN (S 113 (18 + o)) = uN (S 113 (18 + g)) ∧ o < g))
  rw [ea, eb, uN_nI (by omega), uN_nI (by omega), nI_ltI (by omega) (by omega), nI_eq (by omega) (by omega)]
theorem s_ranked (l : Launch) (hst : l.stackTraces = false) : uSt_ranked l uInv := by
  intro c S x hc hI
  obtain ⟨⟨M, hT⟩, -⟩ := id hI
  have hd : 1000 * c < 2 ^ 29 := by omega
  have hx := c_X6_ranked l hst S x
  have hm := c_X7_ranked l S x
  by_cases h1 : 0 ≤ x ∧ x < 6
  · obtain ⟨n, hn, rfl⟩ := uK_okG h1
    obtain ⟨i0, hi0, e0⟩ := q_pig 6 (fun g => q_ct (uBf (fun o => uN (S 113 (18 + o))) g) 6) (fun i hi => uBf_lt _ hi) (fun i j hi hj q => uBf_inj _ i j hi hj q) n hn
    have hA : ∀ j, j < 6 → (uC_ahead S j = nI n ↔ j = i0) := fun j hj => by
      rw [hT.aheadK hd hj, nI_eq (by have := uBf_lt (fun o => uN (S 113 (18 + o))) hj; omega) (by omega)]
      exact ⟨fun q => uBf_inj _ j i0 hj hi0 (q.trans e0.symm), fun q => by rw [q]; exact e0⟩
    have r1 : uC_rank S (nI n) = i0 := q_first_at 5 0 (by omega) (by omega) (by omega) (fun j hj => by rw [decide_eq_true_iff]; exact hA j hj)
    have r2 : uM_found S (nI n) 6 = i0 := by
      rw [uM_found_at (i0 := i0) (fun j hj => by rw [← hT.ahead hd hj]; exact hA j hj) 6 (Nat.le_refl _), if_pos hi0]
    rw [show uG_ranked S (nI n) = (.inl (nI i0), S) by unfold uG_ranked; rw [if_pos h1, r1]] at hx
    rw [show uMq_ranked S (nI n) = (nI i0, q_p S 112 6 0) by unfold uMq_ranked; rw [if_pos (uM_isG.mpr h1), r2]] at hm
    exact ⟨.inl _, S, _, _, w_ranked l S _ _ hx (by intro E h; cases h), hm, ⟨rfl, rfl⟩, hI.n6 0⟩
  · rw [show uG_ranked S x = (.inr xEIo, S) by unfold uG_ranked; rw [if_neg h1]] at hx
    rw [show uMq_ranked S x = (0, q_p S 112 6 1) by unfold uMq_ranked; rw [if_neg (fun q => h1 (uM_isG.mp q))]; rfl] at hm
    exact ⟨.inr _, S, _, _, w_ranked l S _ _ hx (by intro E h; cases h; simp), hm, ⟨(q_p_on S 112 6 1).trans (by decide +kernel), by decide +kernel⟩, hI.n6 1⟩
