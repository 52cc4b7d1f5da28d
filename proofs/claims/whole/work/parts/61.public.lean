
/-! the public changes: the history, the invariant behind them -/
theorem uInv.go {c : Nat} {S T : q_St} (h : uInv c S) (hk : ∀ k, k ≠ 102 → k ≠ 112 → k ≠ 113 → k ≠ 114 → T k = S k) (h3 : T 113 = S 113) (h2 : ∀ j, j < 6 ∨ 9 < j → T 112 j = S 112 j) (hR : uRf T) : uInv (c + 1) T := by
  have h' := h.up
  obtain ⟨⟨M, h1⟩, ⟨i, z, hH⟩, h3', h4, h5, h6, h7⟩ := h'
  refine ⟨⟨M, h1.cg (fun k a b => hk k (by omega) (by omega) (by omega) (by omega)) h3⟩, ⟨i, z, ?_⟩, ?_, hR, ?_, ?_, ?_⟩
  · obtain ⟨a1, a2, a3, a4, a5, a6⟩ := hH
    refine ⟨by rw [hk 28 (by decide) (by decide) (by decide) (by decide)]; exact a1, a2, by rw [hk 28 (by decide) (by decide) (by decide) (by decide)]; exact a3, a4, by rw [h2 5 (by decide)]; exact a5, fun j hj => ?_⟩
    obtain ⟨M, b1, b2⟩ := a6 j hj
    have hj8 : (i + 8 - z + j) % 8 < 8 := Nat.mod_lt _ (by decide)
    rw [hk 116 (by decide) (by decide) (by decide) (by decide)]
    exact ⟨M, b1.cg (fun k hk9 q _ => congrFun (hk _ (by omega) (by omega) (by omega) (by omega)) q) (fun _ _ => rfl), b2⟩
  · unfold uSn
    rw [hk 0 (by decide) (by decide) (by decide) (by decide), h2 3 (by decide), hk 115 (by decide) (by decide) (by decide) (by decide)]
    rcases h3' with q | ⟨q1, q2, M', q3, q4⟩
    · exact Or.inl q
    · exact Or.inr ⟨q1, q2, M', q3.cg (fun k hk9 j _ => congrFun (hk _ (by omega) (by omega) (by omega) (by omega)) j) (fun _ _ => rfl), q4⟩
  · unfold uLn
    rw [hk 110 (by decide) (by decide) (by decide) (by decide), h2 11 (by decide), hk 111 (by decide) (by decide) (by decide) (by decide), hk 117 (by decide) (by decide) (by decide) (by decide)]
    exact h5
  · unfold uTx
    rw [hk 103 (by decide) (by decide) (by decide) (by decide), h2 13 (by decide), hk 104 (by decide) (by decide) (by decide) (by decide), hk 118 (by decide) (by decide) (by decide) (by decide)]
    exact h6
  · rw [hk 103 (by decide) (by decide) (by decide) (by decide), h2 16 (by decide)]
    exact h7
theorem uM_keep_k (S : q_St) (k : Nat) (h2 : k ≠ 112) (h4 : k ≠ 114) : uM_keep S k = S k := by
  unfold uM_keep
  simp [q_u, q_p, h2, h4]
theorem uM_keep_112 (S : q_St) : uM_keep S 112 = upd (S 112) 6 0 := by
  unfold uM_keep
  simp [q_u, q_p]
theorem uM_keep_114 (S : q_St) : uM_keep S 114 = va_cpy (S 113) (S 114) 0 0 144 := by
  unfold uM_keep
  simp [q_u]
theorem uM_back_k (S : q_St) (k : Nat) (h : k ≠ 113) : uM_back S k = S k := by
  unfold uM_back
  simp [q_u, h]
/-- back behind a change that failed: the row is as it was -/
theorem uM_back_113 {S T : q_St} (h : uM_fr (uM_keep S) T) (hT : ∀ j, 144 ≤ j → T 113 j = S 113 j) : uM_back T 113 = S 113 := by
  have e : T 114 = va_cpy (S 113) (S 114) 0 0 144 := (h.1 114 (by decide) (by decide)).trans (uM_keep_114 S)
  funext j
  show va_cpy (T 114) (T 113) 0 0 144 j = S 113 j
  rw [q_cpy_at, e]
  by_cases c : j < 144
  · rw [if_pos c, q_cpy_at, if_pos c]
  · rw [if_neg c]
    exact hT j (by omega)
/-- a change that failed in both -/
theorem uInv.fail {c : Nat} {S S1 T : q_St} (h : uInv c S) (h1 : ∀ k, k ≠ 102 → S1 k = S k) (hT : uM_fr (uM_keep S1) T) (h13 : T 113 = S1 113) (hR : S1 102 1 = T 112 7 ∧ S1 102 2 = T 112 8) : uInv (c + 1) (uM_back T) := by
  have e112 : ∀ j, j < 6 ∨ 9 < j → T 112 j = S 112 j := fun j hj => by
    rw [hT.2 j hj, uM_keep_112, ← h1 112 (by decide)]
    exact if_neg (by omega)
  refine h.go (fun k a b c d => ?_) ?_ (fun j hj => ?_) ?_
  · rw [uM_back_k T k c, hT.1 k b c, uM_keep_k S1 k b d, h1 k a]
  · rw [uM_back_113 hT (fun j _ => congrFun h13 j), h1 113 (by decide)]
  · rw [uM_back_k T 112 (by decide)]
    exact e112 j hj
  · unfold uRf
    rw [uM_back_k T 102 (by decide), uM_back_k T 112 (by decide), hT.1 102 (by decide) (by decide), uM_keep_k S1 102 (by decide) (by decide)]
    exact hR
