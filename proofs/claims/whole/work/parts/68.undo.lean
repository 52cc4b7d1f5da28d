
/-! undo -/
theorem s_undo (l : Launch) (hst : l.stackTraces = false) : uSt_undo l uInv := by
  intro c S hc hI
  obtain ⟨-, ⟨i, z, hH⟩, hSn, -⟩ := hI.up
  obtain ⟨a1, a2, a3, a4, a5, a6⟩ := id hH
  by_cases hz0 : z = 0
  · have hx := c_X6_undo l hst S i z a1 a2 a3 a4 (fun q => absurd q (by omega))
    have hm := c_X7_undo l S z a5 a4
    rw [show uG_undo S i z = (.inr xEIs, S) by unfold uG_undo; rw [if_pos hz0]] at hx
    rw [show uMq_undo S z = (0, q_p S 112 6 1) by unfold uMq_undo; rw [if_pos hz0]; rfl] at hm
    exact ⟨.inr _, S, _, _, w_undo l S _ hx (by intro E h; cases h; simp), hm, ⟨(q_p_on S 112 6 1).trans (by decide +kernel), by decide +kernel⟩, hI.n6 1⟩
  · obtain ⟨M, q3, q4⟩ := a6 (z - 1) (by omega)
    have ei : (i + 8 - z + (z - 1)) % 8 = (i + 8 - 1) % 8 := by omega
    rw [ei] at q3
    obtain ⟨k0, hk0⟩ : ∃ k0, k0 = (i + 8 - 1) % 8 := ⟨_, rfl⟩
    have hk8 : k0 < 8 := by omega
    rw [← hk0] at q3
    have hbool : 1 ≤ z → q_bool S (30 + 9 * ((i + 8 - 1) % 8)) := fun _ => by
      rw [← hk0]
      refine ⟨?_, fun g hg => ?_⟩
      · rw [show S (30 + 9 * k0) 5 = 1 - S 116 (144 * (z - 1) + 1) from q3.1.2.2.2.2.2]
        rcases (show S 116 (144 * (z - 1) + 1) = 0 ∨ S 116 (144 * (z - 1) + 1) = 1 from q4.2.2.2.2.1) with e | e <;> rw [e] <;> decide
      · rw [show S (30 + 9 * k0 + 8) g = 1 - S 116 (144 * (z - 1) + (12 + g)) from (q3.2.2.2.2 g hg).2.2]
        rcases (show S 116 (144 * (z - 1) + (12 + g)) = 0 ∨ S 116 (144 * (z - 1) + (12 + g)) = 1 from q4.2.2.2.2.2.1 g hg) with e | e <;> rw [e] <;> decide
    have hx := c_X6_undo l hst S i z a1 a2 a3 a4 hbool
    rw [show uG_undo S i z = (.inl (nI (z - 1)), uH_back S i z) by unfold uG_undo; rw [if_neg hz0]] at hx
    obtain ⟨S1, hS1⟩ : ∃ S1, S1 = uH_back S i z := ⟨_, rfl⟩
    rw [← hS1] at hx
    have hS : ∀ k, k ≠ 28 → 10 ≤ k ∨ k = 0 → S1 k = S k := fun k a b => by
      rw [hS1]
      unfold uH_back
      rw [q_cp_k _ _ _ k (by omega)]
      simp [q_p, a]
    have hm := c_X7_undo l S1 z (by rw [hS 112 (by decide) (by decide)]; exact a5) a4
    obtain ⟨T, hT⟩ : ∃ T, T = q_u (q_p (q_p S1 112 6 0) 112 5 (nI (z - 1))) 113 (va_cpy (S1 116) (S1 113) (144 * (z - 1)) 0 144) := ⟨_, rfl⟩
    rw [show uMq_undo S1 z = (nI (z - 1), T) by unfold uMq_undo; rw [if_neg hz0, hT]] at hm
    have hk : ∀ k, k ≠ 112 → k ≠ 113 → T k = S1 k := fun k a b => by rw [hT]; simp [q_p, q_u, a, b]
    have hk2 : ∀ j, j ≠ 6 → j ≠ 5 → T 112 j = S 112 j := fun j a b => by
      rw [hT]
      simp [q_p, q_u, upd, a, b, hS 112 (by decide) (by decide)]
    have hkS : ∀ k, k ≠ 112 → k ≠ 113 → k ≠ 28 → 10 ≤ k ∨ k = 0 → T k = S k := fun k a b d e => by rw [hk k a b, hS k d e]
    have hr : ∀ j, j < 144 → T 113 j = S 116 (144 * (z - 1) + j) := fun j hj => by
      rw [show T 113 = va_cpy (S1 116) (S1 113) (144 * (z - 1)) 0 144 by rw [hT]; simp [q_u]]
      show (if 0 ≤ j ∧ j < 0 + 144 then S1 116 (144 * (z - 1) + (j - 0)) else _) = _
      rw [if_pos (by omega), hS 116 (by decide) (by decide), Nat.sub_zero]
    have hf : ∀ k, k < 9 → ∀ j, j < uC_len k → T (1 + k) j = S (30 + 9 * k0 + k) j := fun k hk9 j hj => by
      rw [hk _ (by omega) (by omega), hS1]
      unfold uH_back
      rw [← hk0, q_cp_in _ 1 (30 + 9 * k0) k j hk9 hj]
      simp [q_p, show 30 + 9 * k0 + k ≠ 28 by omega]
    have b1 : T 28 1 = nI k0 := by
      rw [hk 28 (by decide) (by decide), hS1]
      unfold uH_back
      rw [q_cp_k _ _ _ 28 (by omega), q_p_off _ _ _ _ _ _ (Or.inr (by decide)), q_p_on, hk0]
    have b2 : T 28 2 = nI (z - 1) := by
      rw [hk 28 (by decide) (by decide), hS1]
      unfold uH_back
      rw [q_cp_k _ _ _ 28 (by omega), q_p_on]
    obtain ⟨r1, r2, r3, r4⟩ := hI.rest (T := T) (fun k a b => hkS k (by omega) (by omega) (by omega) (by omega)) (fun j b => hk2 j (by omega) (by omega))
    refine ⟨.inl _, S1, nI (z - 1), T, w_undo l S _ hx (by intro E h; cases h), hm, ⟨?_, rfl⟩, ⟨M, q3.cg hf hr, q4.cg hr⟩, ⟨k0, z - 1, b1, hk8, b2, by omega, ?_, fun j hj => ?_⟩, ?_, r1, r2, r3, r4⟩
    · rw [hT]; simp [q_p, q_u, upd]
    · rw [hT]; simp [q_p, q_u, upd]
    · obtain ⟨M2, c1, c2⟩ := a6 j (by omega)
      have e1 : (k0 + 8 - (z - 1) + j) % 8 = (i + 8 - z + j) % 8 := by omega
      have hj8 : (i + 8 - z + j) % 8 < 8 := Nat.mod_lt _ (by decide)
      rw [e1, hkS 116 (by decide) (by decide) (by decide) (by decide)]
      exact ⟨M2, c1.cg (fun k hk9 q _ => congrFun (hkS _ (by omega) (by omega) (by omega) (by omega)) q) (fun _ _ => rfl), c2⟩
    · rcases hSn with ⟨q1, q2⟩ | ⟨q1, q2, M2, c1, c2⟩
      · exact Or.inl ⟨by rw [hkS 0 (by decide) (by decide) (by decide) (by decide)]; exact q1, by rw [hk2 3 (by decide) (by decide)]; exact q2⟩
      · refine Or.inr ⟨by rw [hkS 0 (by decide) (by decide) (by decide) (by decide)]; exact q1, by rw [hk2 3 (by decide) (by decide)]; exact q2, M2, ?_, ?_⟩
        · rw [hkS 115 (by decide) (by decide) (by decide) (by decide)]
          exact c1.cg (fun k hk9 j _ => congrFun (hkS _ (by omega) (by omega) (by omega) (by omega)) j) (fun _ _ => rfl)
        · rw [hkS 115 (by decide) (by decide) (by decide) (by decide)]
          exact c2
