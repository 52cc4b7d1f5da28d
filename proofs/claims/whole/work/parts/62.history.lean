
/-! a change that was done: what the history keeps -/
theorem uM_push_k (T : q_St) (z k : Nat) (h2 : k ≠ 112) (h6 : k ≠ 116) : uM_push T z k = T k := by
  unfold uM_push
  split <;> simp [q_p, q_u, h2, h6]
theorem uM_push_112 (T : q_St) (z j : Nat) (h : j ≠ 5) : uM_push T z 112 j = T 112 j := by
  unfold uM_push
  split <;> simp [q_p, q_u, upd, h]
theorem uM_push_5 (T : q_St) (z : Nat) (hz : z ≤ 8) : uM_push T z 112 5 = nI (min (z + 1) 8) := by
  unfold uM_push
  by_cases e : z = 8
  · subst e
    rw [if_pos rfl, q_p_on]
    rfl
  · rw [if_neg e, q_p_on, Nat.min_eq_left (by omega)]
theorem uM_push_116 (T : q_St) (z : Nat) : uM_push T z 116 = if z = 8 then va_cpy (T 114) (va_cpy (T 116) (T 116) 144 0 1008) 0 (144 * 7) 144 else va_cpy (T 114) (T 116) 0 (144 * z) 144 := by
  unfold uM_push
  by_cases e : z = 8
  · rw [if_pos e, if_pos e]; simp [q_p, q_u]
  · rw [if_neg e, if_neg e]; simp [q_p, q_u]
theorem uM_push_new (T : q_St) (z j : Nat) (hz : z ≤ 8) (hj : j < 144) : uM_push T z 116 (144 * (min (z + 1) 8 - 1) + j) = T 114 j := by
  rw [uM_push_116]
  by_cases e : z = 8
  · subst e
    rw [if_pos rfl]
    show (if 144 * 7 ≤ 144 * 7 + j ∧ 144 * 7 + j < 144 * 7 + 144 then T 114 (0 + (144 * 7 + j - 144 * 7)) else _) = _
    rw [if_pos (by omega), show 0 + (144 * 7 + j - 144 * 7) = j by omega]
  · rw [if_neg e, Nat.min_eq_left (by omega), show z + 1 - 1 = z by omega]
    show (if 144 * z ≤ 144 * z + j ∧ 144 * z + j < 144 * z + 144 then T 114 (0 + (144 * z + j - 144 * z)) else _) = _
    rw [if_pos (by omega), show 0 + (144 * z + j - 144 * z) = j by omega]
theorem uM_push_o8 (T : q_St) (r j : Nat) (hr : r < 7) (hj : j < 144) : uM_push T 8 116 (144 * r + j) = T 116 (144 * (r + 1) + j) := by
  rw [uM_push_116, if_pos rfl]
  show (if 144 * 7 ≤ 144 * r + j ∧ 144 * r + j < 144 * 7 + 144 then _ else (if 0 ≤ 144 * r + j ∧ 144 * r + j < 0 + 1008 then T 116 (144 + (144 * r + j - 0)) else _)) = _
  rw [if_neg (by omega), if_pos (by omega), show 144 + (144 * r + j - 0) = 144 * (r + 1) + j by omega]
theorem uM_push_o (T : q_St) (z r j : Nat) (hz : z < 8) (hr : r < z) (hj : j < 144) : uM_push T z 116 (144 * r + j) = T 116 (144 * r + j) := by
  rw [uM_push_116, if_neg (by omega)]
  show (if 144 * z ≤ 144 * r + j ∧ 144 * r + j < 144 * z + 144 then _ else T 116 (144 * r + j)) = _
  rw [if_neg (by omega)]
theorem uH_kp (S : q_St) (i z k : Nat) (h28 : k ≠ 28) : uH_keep S i z 1 k = q_cp S (30 + 9 * i) 1 k := by
  unfold uH_keep
  simp [q_p, h28]
theorem uInv.done {c d M' i z : Nat} {S S1 T : q_St} (h : uInv c S) (hH : uHs (1000 * c) i z S) (hA : ∀ k, 10 ≤ k → S1 k = uH_keep S i z 1 k) (h0 : S1 0 = S 0) (hT : uM_fr (uM_keep S1) T) (h112 : T 112 = uM_keep S1 112) (hE : uT d M' S1 T) (hd : d ≤ 1000 * (c + 1)) : uInv (c + 1) (uM_push T z) := by
  obtain ⟨⟨M, h1⟩, -, h3, h4, h5, h6, h7⟩ := h.up
  obtain ⟨a1, a2, a3, a4, a5, a6⟩ := hH.up (show 1000 * c ≤ 1000 * (c + 1) by omega)
  have hS : ∀ k, 10 ≤ k → k ≠ 28 → (k < 30 + 9 * i ∨ 30 + 9 * i + 9 ≤ k) → S1 k = S k := fun k b1 b2 b3 => by
    rw [hA k b1, uH_kp S i z k b2, q_cp_k S _ _ k b3]
  have hTk : ∀ k, k ≠ 112 → k ≠ 113 → k ≠ 114 → T k = S1 k := fun k b1 b2 b3 => by rw [hT.1 k b1 b2, uM_keep_k S1 k b1 b3]
  have hP : ∀ k, k ≠ 112 → k ≠ 113 → k ≠ 114 → k ≠ 116 → uM_push T z k = S1 k := fun k b1 b2 b3 b4 => by rw [uM_push_k T z k b1 b4, hTk k b1 b2 b3]
  have hPS : ∀ k, 102 ≤ k → k ≠ 112 → k ≠ 113 → k ≠ 114 → k ≠ 116 → uM_push T z k = S k := fun k b0 b1 b2 b3 b4 => by rw [hP k b1 b2 b3 b4, hS k (by omega) (by omega) (by omega)]
  have h13 : S1 113 = S 113 := hS 113 (by decide) (by decide) (by omega)
  have h16 : T 116 = S 116 := (hTk 116 (by decide) (by decide) (by decide)).trans (hS 116 (by decide) (by decide) (by omega))
  have h14 : ∀ j, j < 144 → T 114 j = S 113 j := fun j hj => by
    rw [hT.1 114 (by decide) (by decide), uM_keep_114, q_cpy_at, if_pos hj, h13]
  have hP2 : ∀ j, j ≠ 5 → j ≠ 6 → uM_push T z 112 j = S 112 j := fun j b1 b2 => by
    rw [uM_push_112 T z j b1, h112, uM_keep_112, show upd (S1 112) 6 0 j = S1 112 j from if_neg b2, hS 112 (by decide) (by decide) (by omega)]
  have k1 : S1 28 1 = nI ((i + 1) % 8) := by
    rw [hA 28 (by decide)]
    unfold uH_keep
    rw [q_p_off _ _ _ _ _ _ (Or.inr (by decide)), q_p_on]
  have k2 : S1 28 2 = nI (min (z + 1) 8) := by
    rw [hA 28 (by decide)]
    unfold uH_keep
    rw [q_p_on]
  refine ⟨⟨M', (hE.up hd).cg (fun k b1 b2 => hP k (by omega) (by omega) (by omega) (by omega)) (uM_push_k T z 113 (by decide) (by decide))⟩, ⟨(i + 1) % 8, min (z + 1) 8, ?_⟩, ?_, ?_, ?_, ?_, ?_⟩
  · have hz8 : min (z + 1) 8 ≤ 8 := Nat.min_le_right _ _
    refine ⟨by rw [hP 28 (by decide) (by decide) (by decide) (by decide)]; exact k1, Nat.mod_lt _ (by decide), by rw [hP 28 (by decide) (by decide) (by decide) (by decide)]; exact k2, hz8, uM_push_5 T z a4, fun j hj => ?_⟩
    by_cases e : j = min (z + 1) 8 - 1
    · have e1 : ((i + 1) % 8 + 8 - min (z + 1) 8 + j) % 8 = i := by omega
      rw [e1]
      refine ⟨M, h1.1.cg (fun k hk q hq => ?_) (fun q hq => ?_), h1.2.cg (fun q hq => ?_)⟩
      · show uM_push T z (30 + 9 * i + k) q = S (1 + k) q
        rw [hP _ (by omega) (by omega) (by omega) (by omega), hA _ (by omega), uH_kp S i z _ (by omega)]
        exact q_cp_in S (30 + 9 * i) 1 k q hk hq
      · show uM_push T z 116 (144 * j + q) = S 113 q
        rw [e, uM_push_new T z q a4 hq, h14 q hq]
      · show uM_push T z 116 (144 * j + q) = S 113 q
        rw [e, uM_push_new T z q a4 hq, h14 q hq]
    · by_cases e8 : z = 8
      · subst e8
        obtain ⟨M2, b1, b2⟩ := a6 (j + 1) (by omega)
        have e1 : ((i + 1) % 8 + 8 - min (8 + 1) 8 + j) % 8 = (i + 8 - 8 + (j + 1)) % 8 := by omega
        have e2 : (i + 8 - 8 + (j + 1)) % 8 ≠ i := by omega
        have e3 : (i + 8 - 8 + (j + 1)) % 8 < 8 := Nat.mod_lt _ (by decide)
        rw [e1]
        refine ⟨M2, b1.cg (fun k hk q hq => ?_) (fun q hq => ?_), b2.cg (fun q hq => ?_)⟩
        · refine congrFun ((hP _ (by omega) (by omega) (by omega) (by omega)).trans (hS _ (by omega) (by omega) ?_)) q
          omega
        · show uM_push T 8 116 (144 * j + q) = S 116 (144 * (j + 1) + q)
          rw [uM_push_o8 T j q (by omega) hq, h16]
        · show uM_push T 8 116 (144 * j + q) = S 116 (144 * (j + 1) + q)
          rw [uM_push_o8 T j q (by omega) hq, h16]
      · obtain ⟨M2, b1, b2⟩ := a6 j (by omega)
        have e1 : ((i + 1) % 8 + 8 - min (z + 1) 8 + j) % 8 = (i + 8 - z + j) % 8 := by omega
        have e2 : (i + 8 - z + j) % 8 ≠ i := by omega
        have e3 : (i + 8 - z + j) % 8 < 8 := Nat.mod_lt _ (by decide)
        rw [e1]
        refine ⟨M2, b1.cg (fun k hk q hq => ?_) (fun q hq => ?_), b2.cg (fun q hq => ?_)⟩
        · refine congrFun ((hP _ (by omega) (by omega) (by omega) (by omega)).trans (hS _ (by omega) (by omega) ?_)) q
          omega
        · show uM_push T z 116 (144 * j + q) = S 116 (144 * j + q)
          rw [uM_push_o T z j q (by omega) (by omega) hq, h16]
        · show uM_push T z 116 (144 * j + q) = S 116 (144 * j + q)
          rw [uM_push_o T z j q (by omega) (by omega) hq, h16]
  · unfold uSn
    rw [hP 0 (by decide) (by decide) (by decide) (by decide), h0, hP2 3 (by decide) (by decide), hPS 115 (by decide) (by decide) (by decide) (by decide) (by decide)]
    rcases h3 with q | ⟨q1, q2, M2, q3, q4⟩
    · exact Or.inl q
    · exact Or.inr ⟨q1, q2, M2, q3.cg (fun k hk9 j _ => congrFun ((hP _ (by omega) (by omega) (by omega) (by omega)).trans (hS _ (by omega) (by omega) (by omega))) j) (fun _ _ => rfl), q4⟩
  · unfold uRf
    rw [hPS 102 (by decide) (by decide) (by decide) (by decide) (by decide), hP2 7 (by decide) (by decide), hP2 8 (by decide) (by decide)]
    exact h4
  · unfold uLn
    rw [hPS 110 (by decide) (by decide) (by decide) (by decide) (by decide), hP2 11 (by decide) (by decide), hPS 111 (by decide) (by decide) (by decide) (by decide) (by decide), hPS 117 (by decide) (by decide) (by decide) (by decide) (by decide)]
    exact h5
  · unfold uTx
    rw [hPS 103 (by decide) (by decide) (by decide) (by decide) (by decide), hP2 13 (by decide) (by decide), hPS 104 (by decide) (by decide) (by decide) (by decide) (by decide), hPS 118 (by decide) (by decide) (by decide) (by decide) (by decide)]
    exact h6
  · rw [hPS 103 (by decide) (by decide) (by decide) (by decide) (by decide), hP2 16 (by decide) (by decide)]
    exact h7
