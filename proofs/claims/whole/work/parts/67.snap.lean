
/-! save, restore, undo -/
theorem uHs.to {d i z : Nat} {S T : q_St} (h : uHs d i z S) (hk : ∀ k, (28 ≤ k ∧ k < 102) ∨ k = 116 → T k = S k) (h5 : T 112 5 = S 112 5) : uHs d i z T := by
  obtain ⟨a1, a2, a3, a4, a5, a6⟩ := h
  refine ⟨by rw [hk 28 (by omega)]; exact a1, a2, by rw [hk 28 (by omega)]; exact a3, a4, by rw [h5]; exact a5, fun j hj => ?_⟩
  obtain ⟨M, b1, b2⟩ := a6 j hj
  have hj8 : (i + 8 - z + j) % 8 < 8 := Nat.mod_lt _ (by decide)
  rw [hk 116 (by omega)]
  exact ⟨M, b1.cg (fun k hk9 q _ => congrFun (hk _ (by omega)) q) (fun _ _ => rfl), b2⟩
theorem uInv.rest {c : Nat} {S T : q_St} (h : uInv c S) (hk : ∀ k, 102 ≤ k → k < 112 ∨ k = 117 ∨ k = 118 → T k = S k) (h2 : ∀ j, j = 7 ∨ j = 8 ∨ j = 11 ∨ j = 13 ∨ j = 16 → T 112 j = S 112 j) : uRf T ∧ uLn T ∧ uTx T ∧ T 103 4 = T 112 16 := by
  obtain ⟨-, -, -, h4, h5, h6, h7⟩ := h
  refine ⟨?_, ?_, ?_, ?_⟩
  · unfold uRf
    rw [hk 102 (by decide) (by decide), h2 7 (by decide), h2 8 (by decide)]
    exact h4
  · unfold uLn
    rw [hk 110 (by decide) (by decide), h2 11 (by decide), hk 111 (by decide) (by decide), hk 117 (by decide) (by decide)]
    exact h5
  · unfold uTx
    rw [hk 103 (by decide) (by decide), h2 13 (by decide), hk 104 (by decide) (by decide), hk 118 (by decide) (by decide)]
    exact h6
  · rw [hk 103 (by decide) (by decide), h2 16 (by decide)]
    exact h7
theorem s_save (l : Launch) : uSt_save l uInv := by
  intro c S hc hI
  obtain ⟨⟨M, h1⟩, ⟨i, z, hH⟩, -⟩ := hI.up
  obtain ⟨⟨M0, hT0⟩, -⟩ := id hI
  have hx := c_X6_save l S hT0.bool
  rw [hT0.hMA.trans hT0.hM.symm] at hx
  obtain ⟨S1, hS1⟩ : ∃ S1, S1 = q_p (q_cp S 19 1) 0 3 1 := ⟨_, rfl⟩
  rw [← hS1] at hx
  have hm := c_X7_save l S1
  obtain ⟨T, hT⟩ : ∃ T, T = q_p (q_u (q_p S1 112 6 0) 115 (va_cpy (S1 113) (S1 115) 0 0 144)) 112 3 1 := ⟨_, rfl⟩
  have e113 : S1 113 = S 113 := by rw [hS1]; simp only [q_p, show (113 : Nat) ≠ 0 by decide, if_false]; exact q_cp_k S 19 1 113 (by omega)
  rw [show (uMq_save S1).1 = S 113 0 from congrFun e113 0, show (uMq_save S1).2 = T from hT.symm] at hm
  have hk : ∀ k, k ≠ 0 → (k < 19 ∨ 28 ≤ k) → k ≠ 112 → k ≠ 115 → T k = S k := fun k a b d e => by
    rw [hT, hS1]
    simp only [q_p, q_u, a, d, e, if_false]
    exact q_cp_k S 19 1 k (by omega)
  have hk2 : ∀ j, j ≠ 6 → j ≠ 3 → T 112 j = S 112 j := fun j a b => by
    rw [hT, hS1]
    simp [q_p, q_u, upd, a, b, q_cp_k S 19 1 112 (by omega)]
  have h03 : T 0 3 = 1 := by rw [hT, hS1]; simp [q_p, q_u, upd]
  have h23 : T 112 3 = 1 := by rw [hT]; exact q_p_on _ _ _ _
  have hr : ∀ j, j < 144 → T 115 j = S 113 j := fun j hj => by
    rw [show T 115 = va_cpy (S1 113) (S1 115) 0 0 144 by rw [hT]; simp [q_p, q_u], q_cpy_at, if_pos hj, e113]
  have hf : ∀ k, k < 9 → ∀ j, j < uC_len k → T (19 + k) j = S (1 + k) j := fun k hk9 j hj => by
    rw [show T (19 + k) = q_cp S 19 1 (19 + k) by rw [hT, hS1]; simp [q_p, q_u, show 19 + k ≠ 112 by omega, show 19 + k ≠ 115 by omega]]
    exact q_cp_in S 19 1 k j hk9 hj
  obtain ⟨r1, r2, r3, r4⟩ := hI.rest (T := T) (fun k a b => hk k (by omega) (by omega) (by omega) (by omega)) (fun j b => hk2 j (by omega) (by omega))
  exact ⟨S1, _, T, hx, hm, ⟨M, h1.cg (fun k a b => hk k (by omega) (by omega) (by omega) (by omega)) (hk 113 (by decide) (by decide) (by decide) (by decide))⟩, ⟨i, z, hH.to (fun k a => hk k (by omega) (by omega) (by omega) (by omega)) (hk2 5 (by decide) (by decide))⟩, Or.inr ⟨h03, h23, M, h1.1.cg hf hr, h1.2.cg hr⟩, r1, r2, r3, r4⟩
theorem s_restore (l : Launch) (hst : l.stackTraces = false) : uSt_restore l uInv := by
  intro c S hc hI
  obtain ⟨-, ⟨i, z, hH⟩, hSn, -⟩ := hI.up
  have hbool : ¬ S 0 3 = 0 → q_bool S 19 := fun q => by
    rcases hSn with ⟨q1, -⟩ | ⟨-, -, M, q3, q4⟩
    · exact absurd q1 q
    · refine ⟨?_, fun g hg => ?_⟩
      · rw [show S 19 5 = 1 - S 115 1 from q3.1.2.2.2.2.2]
        rcases q4.2.2.2.2.1 with e | e <;> rw [e] <;> decide
      · rw [show S (19 + 8) g = 1 - S 115 (12 + g) from (q3.2.2.2.2 g hg).2.2]
        rcases q4.2.2.2.2.2.1 g hg with e | e <;> rw [e] <;> decide
  have hx := c_X6_restore l hst S hbool
  rcases hSn with ⟨q1, q2⟩ | ⟨q1, q2, M, q3, q4⟩
  · have hm := c_X7_restore l S
    rw [show uG_restore S = (.inr xEIs, S) by unfold uG_restore; rw [if_pos q1]] at hx
    rw [show uMq_restore S = (0, q_p S 112 6 1) by unfold uMq_restore; rw [if_pos q2]; rfl] at hm
    exact ⟨.inr _, S, _, _, w_restore l S _ hx (by intro E h; cases h; simp), hm, ⟨(q_p_on S 112 6 1).trans (by decide +kernel), by decide +kernel⟩, hI.n6 1⟩
  · have n1 : ¬ S 0 3 = 0 := by rw [q1]; decide
    rw [show uG_restore S = (.inl (S 19 0), q_p (q_cp S 1 19) 28 2 0) by unfold uG_restore; rw [if_neg n1]] at hx
    obtain ⟨S1, hS1⟩ : ∃ S1, S1 = q_p (q_cp S 1 19) 28 2 0 := ⟨_, rfl⟩
    rw [← hS1] at hx
    have hS : ∀ k, k ≠ 28 → 10 ≤ k ∨ k = 0 → S1 k = S k := fun k a b => by
      rw [hS1]
      simp only [q_p, a, if_false]
      exact q_cp_k S 1 19 k (by omega)
    have hm := c_X7_restore l S1
    obtain ⟨T, hT⟩ : ∃ T, T = q_p (q_u (q_p S1 112 6 0) 113 (va_cpy (S1 115) (S1 113) 0 0 144)) 112 5 0 := ⟨_, rfl⟩
    rw [show uMq_restore S1 = (S 19 0, T) by unfold uMq_restore; rw [hS 112 (by decide) (by decide), if_neg (by rw [q2]; decide), hS 115 (by decide) (by decide), show S 115 0 = S 19 0 from q3.1.1.symm, hT, hS 115 (by decide) (by decide)]] at hm
    have hk : ∀ k, k ≠ 112 → k ≠ 113 → T k = S1 k := fun k a b => by rw [hT]; simp [q_p, q_u, a, b]
    have hk2 : ∀ j, j ≠ 6 → j ≠ 5 → T 112 j = S 112 j := fun j a b => by
      rw [hT]
      simp [q_p, q_u, upd, a, b, hS 112 (by decide) (by decide)]
    have hr : ∀ j, j < 144 → T 113 j = S 115 j := fun j hj => by
      rw [show T 113 = va_cpy (S1 115) (S1 113) 0 0 144 by rw [hT]; simp [q_p, q_u], q_cpy_at, if_pos hj, hS 115 (by decide) (by decide)]
    have hf : ∀ k, k < 9 → ∀ j, j < uC_len k → T (1 + k) j = S (19 + k) j := fun k hk9 j hj => by
      rw [hk _ (by omega) (by omega), hS1, show q_p (q_cp S 1 19) 28 2 0 (1 + k) = q_cp S 1 19 (1 + k) by simp [q_p, show 1 + k ≠ 28 by omega]]
      exact q_cp_in S 1 19 k j hk9 hj
    have h282 : T 28 2 = nI 0 := by rw [hk 28 (by decide) (by decide), hS1]; exact q_p_on _ _ _ _
    have h281 : T 28 1 = S 28 1 := by rw [hk 28 (by decide) (by decide), hS1, q_p_off _ _ _ _ _ _ (Or.inr (by decide)), q_cp_k S 1 19 28 (by omega)]
    obtain ⟨r1, r2, r3, r4⟩ := hI.rest (T := T) (fun k a b => by rw [hk k (by omega) (by omega), hS k (by omega) (by omega)]) (fun j b => hk2 j (by omega) (by omega))
    have hkS : ∀ k, k ≠ 112 → k ≠ 113 → k ≠ 28 → 10 ≤ k ∨ k = 0 → T k = S k := fun k a b d e => by rw [hk k a b, hS k d e]
    refine ⟨.inl _, S1, _, T, w_restore l S _ hx (by intro E h; cases h), hm, ⟨?_, rfl⟩, ⟨M, q3.cg hf hr, q4.cg hr⟩, ⟨i, 0, h281.trans hH.1, hH.2.1, h282, by decide, ?_, fun j hj => absurd hj (Nat.not_lt_zero j)⟩, Or.inr ⟨?_, ?_, M, ?_, ?_⟩, r1, r2, r3, r4⟩
    · rw [hT]; simp [q_p, q_u, upd]
    · rw [hT]; exact q_p_on _ _ _ _
    · rw [hkS 0 (by decide) (by decide) (by decide) (by decide)]; exact q1
    · rw [hk2 3 (by decide) (by decide)]; exact q2
    · rw [hkS 115 (by decide) (by decide) (by decide) (by decide)]
      exact q3.cg (fun k hk9 j _ => congrFun (hkS _ (by omega) (by omega) (by omega) (by omega)) j) (fun _ _ => rfl)
    · rw [hkS 115 (by decide) (by decide) (by decide) (by decide)]
      exact q4
