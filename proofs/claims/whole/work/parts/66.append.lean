
/-! the input, the line -/
theorem uInv.gen {c : Nat} {S T : q_St} (h : uInv c S) (hk : ∀ k, k < 10 ∨ (19 ≤ k ∧ k < 102) ∨ k = 113 ∨ k = 115 ∨ k = 116 → T k = S k) (h2 : ∀ j, j = 3 ∨ j = 5 → T 112 j = S 112 j) (hR : uRf T) (hL : uLn T) (hX : uTx T) (hE : T 103 4 = T 112 16) : uInv (c + 1) T := by
  have h' := h.up
  obtain ⟨⟨M, h1⟩, ⟨i, z, hH⟩, h3', -⟩ := h'
  refine ⟨⟨M, h1.cg (fun k a b => hk k (by omega)) (hk 113 (by omega))⟩, ⟨i, z, ?_⟩, ?_, hR, hL, hX, hE⟩
  · obtain ⟨a1, a2, a3, a4, a5, a6⟩ := hH
    refine ⟨by rw [hk 28 (by omega)]; exact a1, a2, by rw [hk 28 (by omega)]; exact a3, a4, by rw [h2 5 (Or.inr rfl)]; exact a5, fun j hj => ?_⟩
    obtain ⟨M, b1, b2⟩ := a6 j hj
    have hj8 : (i + 8 - z + j) % 8 < 8 := Nat.mod_lt _ (by decide)
    rw [hk 116 (by omega)]
    exact ⟨M, b1.cg (fun k hk9 q _ => congrFun (hk _ (by omega)) q) (fun _ _ => rfl), b2⟩
  · unfold uSn
    rw [hk 0 (by omega), h2 3 (Or.inl rfl), hk 115 (by omega)]
    rcases h3' with q | ⟨q1, q2, M', q3, q4⟩
    · exact Or.inl q
    · exact Or.inr ⟨q1, q2, M', q3.cg (fun k hk9 j _ => congrFun (hk _ (by omega)) j) (fun _ _ => rfl), q4⟩
theorem uCh_nI (x : Int32) : ∃ z, z < 65536 ∧ uCh x = nI z := by
  have h1 : (x.toUInt32 % 65536).toNat < 65536 := by
    rw [UInt32.toNat_mod]
    exact Nat.mod_lt _ (by decide)
  refine ⟨(x.toUInt32 % 65536).toNat, h1, ?_⟩
  unfold uCh nI
  apply Int32.toBitVec_inj.mp
  show (x.toUInt32 % 65536).toBitVec = BitVec.ofNat 32 (x.toUInt32 % 65536).toNat
  rw [← UInt32.toNat_toBitVec, BitVec.ofNat_toNat]
  simp
theorem s_append (l : Launch) (hst : l.stackTraces = false) : uSt_append l uInv := by
  intro c S x hc hI
  obtain ⟨-, -, -, hR, hL, ⟨n, hn, t1, t2, t3, t4⟩, hE⟩ := id hI
  have hx := c_X6_append l hst S n t1 hn (uCh x) (uCh_nI x)
  have hm : ∀ S1 : q_St, S1 112 = S 112 → _ := fun S1 e => c_X7_append l S1 n (by rw [e]; exact t2) hn (uCh x) (uCh_nI x)
  by_cases h1 : n < 60
  · have e2 : uG_append S n (uCh x) = (.inl (nI (n + 1)), q_p (q_p S 104 n (uCh x)) 103 1 (nI (n + 1))) := by unfold uG_append; rw [if_pos h1]
    rw [e2] at hx
    obtain ⟨S1, hS1⟩ : ∃ S1, S1 = q_p (q_p S 104 n (uCh x)) 103 1 (nI (n + 1)) := ⟨_, rfl⟩
    rw [← hS1] at hx
    have k2 := hm S1 (by rw [hS1]; simp [q_p])
    have e3 : uMq_append S1 n (uCh x) = (nI (n + 1), q_p (q_p (q_p S1 112 6 0) 118 n (uCh x)) 112 13 (nI (n + 1))) := by unfold uMq_append; rw [if_neg (by omega)]
    rw [e3] at k2
    obtain ⟨T, hT⟩ : ∃ T, T = q_p (q_p (q_p S1 112 6 0) 118 n (uCh x)) 112 13 (nI (n + 1)) := ⟨_, rfl⟩
    have hk : ∀ k, k ≠ 103 → k ≠ 104 → k ≠ 112 → k ≠ 118 → T k = S k := fun k a b c d => by rw [hT, hS1]; simp [q_p, a, b, c, d]
    have hk2 : ∀ j, j ≠ 6 → j ≠ 13 → T 112 j = S 112 j := fun j a b => by rw [hT, hS1]; simp [q_p, upd, a, b]
    have h13 : T 112 13 = nI (n + 1) := by rw [hT]; exact q_p_on _ _ _ _
    have h6 : T 112 6 = 0 := by rw [hT]; simp [q_p, upd]
    have h103 : ∀ j, j ≠ 1 → T 103 j = S 103 j := fun j a => by rw [hT, hS1]; simp [q_p, upd, a]
    have h1031 : T 103 1 = nI (n + 1) := by rw [hT, hS1]; simp [q_p, upd]
    have h104 : ∀ j, T 104 j = if j = n then uCh x else S 104 j := fun j => by rw [hT, hS1]; simp [q_p, upd]
    have h118 : ∀ j, T 118 j = if j = n then uCh x else S 118 j := fun j => by rw [hT, hS1]; simp [q_p, upd]
    rw [← hT] at k2
    refine ⟨.inl _, S1, nI (n + 1), T, w_append l S _ _ hx (by intro E h; cases h), k2, ⟨h6, rfl⟩, hI.gen (fun k q => hk k (by omega) (by omega) (by omega) (by omega)) (fun j q => hk2 j (by omega) (by omega)) ?_ ?_ ?_ ?_⟩
    · unfold uRf
      rw [hk 102 (by decide) (by decide) (by decide) (by decide), hk2 7 (by decide) (by decide), hk2 8 (by decide) (by decide)]
      exact hR
    · unfold uLn
      rw [hk 110 (by decide) (by decide) (by decide) (by decide), hk2 11 (by decide) (by decide), hk 111 (by decide) (by decide) (by decide) (by decide), hk 117 (by decide) (by decide) (by decide) (by decide)]
      exact hL
    · refine ⟨n + 1, by omega, h1031, h13, fun j hj => ?_, fun j hj => ?_⟩
      · rw [h104, h118]
        by_cases e : j = n
        · rw [if_pos e, if_pos e]; exact ⟨uCh_nI x, uCh_nI x⟩
        · rw [if_neg e, if_neg e]; exact t3 j hj
      · rw [h104, h118]
        by_cases e : j = n
        · rw [if_pos e, if_pos e]
        · rw [if_neg e, if_neg e]; exact t4 j (by omega)
    · rw [h103 4 (by decide), hk2 16 (by decide) (by decide)]
      exact hE
  · have hn60 : n = 60 := by omega
    have e2 : uG_append S n (uCh x) = (.inr xEIs, S) := by unfold uG_append; rw [if_neg h1]
    rw [e2] at hx
    have k2 := hm S rfl
    have e3 : uMq_append S n (uCh x) = (0, q_p S 112 6 1) := by unfold uMq_append; rw [if_pos hn60]; rfl
    rw [e3] at k2
    exact ⟨.inr _, S, _, _, w_append l S _ _ hx (by intro E h; cases h; simp), k2, ⟨(q_p_on S 112 6 1).trans (by decide +kernel), by decide +kernel⟩, hI.n6 1⟩
