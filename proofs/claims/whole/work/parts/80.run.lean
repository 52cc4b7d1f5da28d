
/-! run: the text read, then carried out whole or not at all -/
theorem uInv.gen0 {e : Nat} {S T : q_St} (h : uInv e S) (hT : ∃ M, uT (1000 * e) M T T) (hk : ∀ k, k = 0 ∨ (19 ≤ k ∧ k < 102) ∨ k = 115 ∨ k = 116 → T k = S k) (h3 : T 112 3 = S 112 3) (h5 : T 112 5 = S 112 5) (hR : uRf T) (hL : uLn T) (hX : uTx T) (hE : T 103 4 = T 112 16) : uInv e T := by
  obtain ⟨-, ⟨i, z, hH⟩, h3', -⟩ := h
  refine ⟨hT, ⟨i, z, hH.to (fun k q => hk k (by omega)) h5⟩, ?_, hR, hL, hX, hE⟩
  unfold uSn
  rw [hk 0 (by omega), h3, hk 115 (by omega)]
  rcases h3' with q | ⟨q1, q2, M', q3, q4⟩
  · exact Or.inl q
  · exact Or.inr ⟨q1, q2, M', q3.cg (fun k hk9 j _ => congrFun (hk _ (by omega)) j) (fun _ _ => rfl), q4⟩
section UG
variable (t : Nat → Int32) (n : Nat) (S : q_St)
theorem uG_R_1 : uG_R t n S 103 1 = 0 := by unfold uG_R uO_fin; exact q_p_on _ _ _ _
theorem uG_R_4 : uG_R t n S 103 4 = if (uO_text t n S).2.1 = true then nI (uO_text t n S).2.2 else -1 := by
  unfold uG_R uO_fin
  rw [q_p_off _ _ _ _ _ _ (Or.inr (by decide)), q_p_on]
theorem uG_R_5 : uG_R t n S 103 5 = (uO_text t n S).1 103 5 := by
  unfold uG_R uO_fin
  rw [q_p_off _ _ _ _ _ _ (Or.inr (by decide)), q_p_off _ _ _ _ _ _ (Or.inr (by decide))]
  exact uO_at_k _ _ 5 (by decide) (by decide)
theorem uG_R_o (k : Nat) (h : k ≠ 103) : uG_R t n S k = (uO_text t n S).1 k := by
  unfold uG_R uO_fin uO_at
  simp [q_p, h]
theorem uG_P_R (k : Nat) (h : k < 10 ∨ 19 ≤ k) : uG_P t n S k = uG_R t n S k := q_cp_k _ _ _ _ (by omega)
theorem uG_P_in (k j : Nat) (h : k < 9) (hj : j < uC_len k) : uG_P t n S (10 + k) j = S (1 + k) j := by
  unfold uG_P
  rw [q_cp_in _ _ _ _ _ h hj, uG_R_k _ _ _ _ (by omega)]
end UG
section URD
variable (r : q_St × Nat × (Bool × Nat))
theorem uM_rd_k (k : Nat) (h : k ≠ 112) : uM_rd r k = r.1 k := by
  unfold uM_rd uQ_at
  simp [q_p, h]
theorem uM_rd_j (j : Nat) (h1 : j ≠ 13) (h2 : j ≠ 14) (h3 : j ≠ 15) (h4 : j ≠ 16) : uM_rd r 112 j = r.1 112 j := by
  unfold uM_rd
  rw [q_p_off _ _ _ _ _ _ (Or.inr h1), q_p_off _ _ _ _ _ _ (Or.inr h4)]
  exact uQ_at_k _ _ j h2 h3
theorem uM_rd_13 : uM_rd r 112 13 = 0 := q_p_on _ _ _ _
theorem uM_rd_16 : uM_rd r 112 16 = -1 := by
  unfold uM_rd
  rw [q_p_off _ _ _ _ _ _ (Or.inr (by decide)), q_p_on]
theorem uM_rbad_k (k : Nat) (h : k ≠ 112) : uM_rbad r k = r.1 k := by
  unfold uM_rbad uQ_at
  simp [q_p, h]
theorem uM_rbad_j (j : Nat) (h1 : j ≠ 13) (h2 : j ≠ 14) (h3 : j ≠ 15) (h4 : j ≠ 16) : uM_rbad r 112 j = r.1 112 j := by
  unfold uM_rbad
  rw [q_p_off _ _ _ _ _ _ (Or.inr h1), q_p_off _ _ _ _ _ _ (Or.inr h4)]
  exact uQ_at_k _ _ j h2 h3
theorem uM_rbad_13 : uM_rbad r 112 13 = 0 := q_p_on _ _ _ _
theorem uM_rbad_16 : uM_rbad r 112 16 = nI r.2.2.2 := by
  unfold uM_rbad
  rw [q_p_off _ _ _ _ _ _ (Or.inr (by decide)), q_p_on]
end URD
theorem uM_keep_9 (X : q_St) (v : Int32) : uM_keep (q_p X 112 9 v) = q_p (uM_keep X) 112 9 v := by
  funext k j
  by_cases h : k = 112
  · subst h
    rw [uM_keep_112]
    by_cases e : j = 9
    · subst e
      rw [show upd (q_p X 112 9 v 112) 6 0 9 = q_p X 112 9 v 112 9 from if_neg (by decide), q_p_on, q_p_on]
    · rw [q_p_off _ _ _ _ _ _ (Or.inr e), uM_keep_112]
      by_cases e6 : j = 6
      · subst e6; exact (if_pos rfl).trans (if_pos rfl).symm
      · rw [show upd (q_p X 112 9 v 112) 6 0 j = q_p X 112 9 v 112 j from if_neg e6, show upd (X 112) 6 0 j = X 112 j from if_neg e6, q_p_off _ _ _ _ _ _ (Or.inr e)]
  · rw [q_p_off _ _ _ _ _ _ (Or.inl h)]
    by_cases h4 : k = 114
    · subst h4
      rw [uM_keep_114, uM_keep_114]
      simp [q_p]
    · rw [uM_keep_k _ k h h4, uM_keep_k _ k h h4, q_p_off _ _ _ _ _ _ (Or.inl h)]
theorem uN_inj {a b : Nat} (ha : a < 2 ^ 31) (hb : b < 2 ^ 31) (h : nI a = nI b) : a = b := by
  have := congrArg uN h
  rw [uN_nI ha, uN_nI hb] at this
  exact this
theorem uH_kpo (S : q_St) (i z o k : Nat) (h28 : k ≠ 28) : uH_keep S i z o k = q_cp S (30 + 9 * i) o k := by
  unfold uH_keep
  simp [q_p, h28]
section RUN
variable {c M n i z : Nat} {S : q_St}
/-- both have read the same, and carry out the same -/
theorem uRunM (hc : c < 512) (hT : uT (1000 * c) M S S) (hn : n ≤ 60) (hz : uP_nx (S 104) n = uP_nx (S 118) n) (hf : ¬ (uO_text (S 104) n S).2.1 = true) {S1 : q_St} (e13 : S1 113 = S 113) (e12 : S1 112 = S 112) {cnt : Nat} (hcnt : cnt = (uQ_text (S 118) n S).2.1) :
    cnt ≤ 30 ∧ uG_P (S 104) n S 103 5 = nI cnt ∧ (∀ j, j < cnt → uQ_let (uG_P (S 104) n S 105 j)) ∧ uJ (uG_P (S 104) n S) ∧
    (¬ ((uQ_text (S 118) n S1).2.2.1 = true ∨ (uQ_text (S 118) n S1).2.2.2 < n) → uM_alJ (uM_U0 (uQ_text (S 118) n S1)) (uQ_text (S 118) n S1).2.1 0 (uM_U0 (uQ_text (S 118) n S1))) ∧
    (((uG_U (S 104) n S cnt).1 = 0 ∧ ∃ M' B', uM_run (S 118) n S1 z = uM_ends (nI cnt, B') z ∧ uT (1000 * c + 24 * cnt) M' (uG_U (S 104) n S cnt).2 B' ∧ uM_fr (uM_U0 (uQ_text (S 118) n S1)) B' ∧ (∀ j, j ≠ 9 → B' 112 j = uM_U0 (uQ_text (S 118) n S1) 112 j) ∧ (uG_U (S 104) n S cnt).2 102 = S 102) ∨
     ((uG_U (S 104) n S cnt).1 = 1 ∧ ∃ B', uM_run (S 118) n S1 z = uM_ends (0, B') z ∧ uM_fr (uM_U0 (uQ_text (S 118) n S1)) B' ∧ B' 112 6 = 2 ∧ (uG_U (S 104) n S cnt).2 102 1 = B' 112 7 ∧ (uG_U (S 104) n S cnt).2 102 2 = B' 112 8) ∨
     ((uG_U (S 104) n S cnt).1 = 2 ∧ ∃ B', uM_run (S 118) n S1 z = uM_ends (0, B') z ∧ uM_fr (uM_U0 (uQ_text (S 118) n S1)) B' ∧ B' 112 6 = 1 ∧ B' 112 7 = S 112 7 ∧ B' 112 8 = S 112 8 ∧ (uG_U (S 104) n S cnt).2 102 = S 102)) := by
  have hf' : ¬ (uO_text (S 118) n S).2.1 = true := by rw [← uZ_text hz]; exact hf
  obtain ⟨a1, -, a3⟩ := uRd_text (t := S 118) hn S S
  obtain ⟨b1, -, b3⟩ := uRd_text (t := S 118) hn S S1
  obtain ⟨a4, a5, -⟩ := a3 hf'
  obtain ⟨b4, b5, b6⟩ := b3 hf'
  have ec : (uQ_text (S 118) n S1).2.1 = cnt := by
    rw [hcnt]
    exact uN_inj (by omega) (by omega) (b5.symm.trans a5)
  have hw : ¬ ((uQ_text (S 118) n S1).2.2.1 = true ∨ (uQ_text (S 118) n S1).2.2.2 < n) := fun q => hf' (b1.mpr q)
  rw [ec] at b4 b5 b6
  have eo : ∀ k, 105 ≤ k → k < 109 → uG_P (S 104) n S k = (uO_text (S 118) n S).1 k := fun k h1 h2 => by rw [uG_P_R _ _ _ _ (by omega), uG_R_o _ _ _ _ (by omega), uZ_text hz]
  have h5 : uG_P (S 104) n S 103 5 = nI cnt := by rw [uG_P_R _ _ _ _ (by omega), uG_R_5, uZ_text hz]; exact b5
  have hTP : uT (1000 * c) M (uG_P (S 104) n S) S := hT.cg (fun k h1 h2 => uG_P_k _ _ _ _ (by omega)) rfl
  have hU13 : uM_U0 (uQ_text (S 118) n S1) 113 = S 113 := by
    unfold uM_U0
    rw [uM_keep_k _ 113 (by decide) (by decide), uM_rd_k _ 113 (by decide), uQ_text_k _ _ (by decide) (by decide), e13]
  have hU119 : uM_U0 (uQ_text (S 118) n S1) 119 = (uQ_text (S 118) n S1).1 119 := by
    unfold uM_U0
    rw [uM_keep_k _ 119 (by decide) (by decide), uM_rd_k _ 119 (by decide)]
  have hU112 : ∀ j, j = 7 ∨ j = 8 → uM_U0 (uQ_text (S 118) n S1) 112 j = S 112 j := fun j hj => by
    unfold uM_U0
    rw [uM_keep_7 _ (by omega), uM_rd_j _ _ (by omega) (by omega) (by omega) (by omega), uQ_text_112 _ _ (by omega), e12]
  have hT0 : uT (1000 * c) M (uG_P (S 104) n S) (uM_U0 (uQ_text (S 118) n S1)) := hTP.cg (fun _ _ _ => rfl) hU13
  have h102 : uG_P (S 104) n S 102 = S 102 := uG_P_k _ _ _ _ (by omega)
  have hO : ∀ j, 0 ≤ j → j < 0 + cnt → uM_U0 (uQ_text (S 118) n S1) 119 (4 * j) = uG_P (S 104) n S 105 j ∧ uOq (uG_P (S 104) n S 105 j) (uG_P (S 104) n S 106 j) (uG_P (S 104) n S 107 j) (uG_P (S 104) n S 108 j) (uM_U0 (uQ_text (S 118) n S1) 119 (4 * j + 1)) (uM_U0 (uQ_text (S 118) n S1) 119 (4 * j + 2)) (uM_U0 (uQ_text (S 118) n S1) 119 (4 * j + 3)) := fun j _ hj => by
    rw [hU119, eo 105 (by omega) (by omega), eo 106 (by omega) (by omega), eo 107 (by omega) (by omega), eo 108 (by omega) (by omega)]
    exact b6 j (by omega)
  obtain ⟨r1, r2⟩ := uRun (uG_P (S 104) n S) (uM_U0 (uQ_text (S 118) n S1)) z cnt cnt 0 (1000 * c) M (uG_P (S 104) n S) (uM_U0 (uQ_text (S 118) n S1)) hO hT0 (by omega) (uM_keep_6 _)
  have eR : uM_run (S 118) n S1 z = uM_all (uM_U0 (uQ_text (S 118) n S1)) z cnt cnt 0 (uM_U0 (uQ_text (S 118) n S1)) := by
    unfold uM_run
    rw [if_neg hw, ec]
  refine ⟨b4, h5, fun j hj => ?_, hTP.cJ, fun _ => by rw [ec]; exact r1, ?_⟩
  · rw [eo 105 (by omega) (by omega)]
    exact (b6 j hj).2.1
  · rw [eR]
    rcases r2 with ⟨q1, M', B', q2, q3, q4, q5, q6⟩ | ⟨q1, B', q2, q3, q4, q5, q6⟩ | ⟨q1, B', q2, q3, q4, q5, q6, q7⟩
    · exact Or.inl ⟨q1, M', B', q2, q3, q4, q5, q6.trans h102⟩
    · exact Or.inr (Or.inl ⟨q1, B', q2, q3, q4, q5, q6⟩)
    · exact Or.inr (Or.inr ⟨q1, B', q2, q3, q4, q5.trans (hU112 7 (Or.inl rfl)), q6.trans (hU112 8 (Or.inr rfl)), q7.trans h102⟩)
/-- the places behind a run -/
theorem uG_U_0 (cnt : Nat) : (uG_U (S 104) n S cnt).2 0 = S 0 := by
  unfold uG_U
  rw [uK_all_0, uG_P_k _ _ _ _ (by omega)]
theorem uG_U_in (cnt k j : Nat) (h : k < 9) (hj : j < uC_len k) : (uG_U (S 104) n S cnt).2 (10 + k) j = S (1 + k) j := by
  unfold uG_U
  rw [uK_all_k _ _ (by omega) (by omega), uG_P_in _ _ _ _ _ h hj]
theorem uG_U_103 (cnt j : Nat) : (uG_U (S 104) n S cnt).2 103 j = uG_R (S 104) n S 103 j := by
  unfold uG_U
  rw [uK_all_k _ _ (by omega) (by omega), uG_P_R _ _ _ _ (by omega)]
/-- what a read text leaves for the invariant -/
theorem uRdInv (hI : uInv c S) (hf : ¬ (uO_text (S 104) n S).2.1 = true) {e : Nat} {X T : q_St} (hX : uInv e X) (hT : ∃ M, uT (1000 * e) M T T) (hk : ∀ k, k = 0 ∨ (19 ≤ k ∧ k < 102) ∨ k = 115 ∨ k = 116 → T k = X k) (h35 : ∀ j, j = 3 ∨ j = 5 → T 112 j = X 112 j) (hR : uRf T)
    (hs : ∀ k, k = 104 ∨ k = 110 ∨ k = 111 ∨ k = 117 ∨ k = 118 → T k = S k) (h11 : T 112 11 = S 112 11) (h13 : T 112 13 = 0) (h16 : T 112 16 = -1) (h103 : ∀ j, T 103 j = uG_R (S 104) n S 103 j) : uInv e T := by
  obtain ⟨-, -, -, -, hL, ⟨n0, t0, t1, t2, t3, t4⟩, -⟩ := hI
  refine hX.gen0 hT hk (h35 3 (Or.inl rfl)) (h35 5 (Or.inr rfl)) hR ?_ ⟨0, by omega, ?_, ?_, ?_, fun j hj => absurd hj (Nat.not_lt_zero j)⟩ ?_
  · unfold uLn
    rw [hs 110 (by omega), h11, hs 111 (by omega), hs 117 (by omega)]
    exact hL
  · rw [h103]; exact uG_R_1 _ _ _
  · rw [h13]; rfl
  · rw [hs 104 (by omega), hs 118 (by omega)]; exact t3
  · rw [h103, uG_R_4, if_neg hf, h16]
end RUN
