
/-! run: what it leaves, what it answers -/
section RUN2
variable {c M n i z : Nat} {S : q_St}
theorem uQ_rdk (t : Nat → Int32) (S1 : q_St) (k : Nat) (h : k ≠ 112) (h2 : k ≠ 119) : uM_rd (uQ_text t n S1) k = S1 k := by rw [uM_rd_k _ k h, uQ_text_k _ _ h h2]
theorem uQ_rdj (t : Nat → Int32) (S1 : q_St) (j : Nat) (h1 : j ≠ 13) (h2 : j ≠ 14) (h3 : j ≠ 15) (h4 : j ≠ 16) (h5 : j ≠ 18) : uM_rd (uQ_text t n S1) 112 j = S1 112 j := by rw [uM_rd_j _ j h1 h2 h3 h4, uQ_text_112 _ _ h5]
theorem uRun_done (hI : uInv c S) (hH : uHs (1000 * c) i z S) (hf : ¬ (uO_text (S 104) n S).2.1 = true) {cnt : Nat} (h30 : cnt ≤ 30) {K S1 : q_St} (hK : K = (uG_U (S 104) n S cnt).2) (hS1 : S1 = uH_keep K i z 10) {M' : Nat} {B' : q_St}
    (hT : uT (1000 * c + 24 * cnt) M' K B') (hfr : uM_fr (uM_U0 (uQ_text (S 118) n S1)) B') (hj : ∀ j, j ≠ 9 → B' 112 j = uM_U0 (uQ_text (S 118) n S1) 112 j) (h102 : K 102 = S 102) : uInv (c + 1) (uM_push B' z) := by
  obtain ⟨-, hi8, -, hz8, -⟩ := id hH
  have K0 : K 0 = S 0 := by rw [hK]; exact uG_U_0 cnt
  have Kin : ∀ k j, k < 9 → j < uC_len k → K (10 + k) j = S (1 + k) j := fun k j a b => by rw [hK]; exact uG_U_in cnt k j a b
  have K103 : ∀ j, K 103 j = uG_R (S 104) n S 103 j := fun j => by rw [hK]; exact uG_U_103 cnt j
  have Kk : ∀ k, 19 ≤ k ∧ k ≠ 102 ∧ (k < 103 ∨ k = 104 ∨ 108 < k) → K k = S k := fun k h => by rw [hK]; exact uG_U_k _ _ _ _ _ h
  have S1k : ∀ k, k < 28 ∨ 102 ≤ k → S1 k = K k := fun k h => by rw [hS1]; exact uH_keep_k K i z 10 k h hi8
  obtain ⟨U, hU⟩ : ∃ U, U = uM_rd (uQ_text (S 118) n S1) := ⟨_, rfl⟩
  have Uk : ∀ k, k ≠ 112 → k ≠ 119 → U k = S1 k := fun k a b => by rw [hU]; exact uQ_rdk _ _ _ a b
  have Uj : ∀ j, j ≠ 13 → j ≠ 14 → j ≠ 15 → j ≠ 16 → j ≠ 18 → U 112 j = S 112 j := fun j a b c d e => by rw [hU, uQ_rdj _ _ _ a b c d e, S1k 112 (by omega), Kk 112 (by omega)]
  have hU0 : uM_U0 (uQ_text (S 118) n S1) = uM_keep U := by rw [hU]; rfl
  rw [hU0] at hfr hj
  obtain ⟨S2, hS2⟩ : ∃ S2, S2 = q_p U 112 9 (B' 112 9) := ⟨_, rfl⟩
  have S2k : ∀ k, k ≠ 112 → S2 k = U k := fun k h => by rw [hS2]; simp [q_p, h]
  have S2j : ∀ j, j ≠ 9 → S2 112 j = U 112 j := fun j h => by rw [hS2]; exact uM_9 U h _
  obtain ⟨S0, hS0⟩ : ∃ S0 : q_St, S0 = fun k => if k < 10 ∨ (28 ≤ k ∧ k < 102) then S k else S2 k := ⟨_, rfl⟩
  have S0a : ∀ k, k < 10 ∨ (28 ≤ k ∧ k < 102) → S0 k = S k := fun k h => by rw [hS0]; exact if_pos h
  have S0b : ∀ k, (10 ≤ k ∧ k < 28) ∨ 102 ≤ k → S0 k = S2 k := fun k h => by rw [hS0]; exact if_neg (by omega)
  have S0c : ∀ k, (10 ≤ k ∧ k < 28) ∨ 102 ≤ k → k ≠ 112 → k ≠ 119 → S0 k = K k := fun k h a b => by rw [S0b k h, S2k k a, Uk k a b, S1k k (by omega)]
  have S0d : ∀ k, (19 ≤ k ∧ k < 28) ∨ k = 104 ∨ 108 < k → k ≠ 112 → k ≠ 119 → S0 k = S k := fun k h a b => by rw [S0c k (by omega) a b, Kk k (by omega)]
  have S0j : ∀ j, j ≠ 9 → j ≠ 13 → j ≠ 14 → j ≠ 15 → j ≠ 16 → j ≠ 18 → S0 112 j = S 112 j := fun j a b c d e f => by rw [S0b 112 (by omega), S2j j a, Uj j b c d e f]
  obtain ⟨⟨M0, hT0⟩, -, -, hRf, -⟩ := id hI
  have hI0 : uInv c S0 := by
    refine uRdInv hI hf hI ⟨M0, hT0.cg (fun k a b => S0a k (by omega)) (S0d 113 (by omega) (by omega) (by omega))⟩ (fun k h => ?_) (fun j h => S0j j (by omega) (by omega) (by omega) (by omega) (by omega) (by omega)) ?_ (fun k h => S0d k (by omega) (by omega) (by omega)) (S0j 11 (by omega) (by omega) (by omega) (by omega) (by omega) (by omega)) ?_ ?_ (fun j => ?_)
    · by_cases h1 : k < 10 ∨ (28 ≤ k ∧ k < 102)
      · exact S0a k h1
      · exact S0d k (by omega) (by omega) (by omega)
    · unfold uRf
      rw [S0c 102 (by omega) (by omega) (by omega), h102, S0j 7 (by omega) (by omega) (by omega) (by omega) (by omega) (by omega), S0j 8 (by omega) (by omega) (by omega) (by omega) (by omega) (by omega)]
      exact hRf
    · rw [S0b 112 (by omega), S2j 13 (by omega), hU]; exact uM_rd_13 _
    · rw [S0b 112 (by omega), S2j 16 (by omega), hU]; exact uM_rd_16 _
    · rw [S0c 103 (by omega) (by omega) (by omega)]; exact K103 j
  have hH0 : uHs (1000 * c) i z S0 := hH.to (fun k h => by
    by_cases h1 : k = 116
    · exact S0d k (by omega) (by omega) (by omega)
    · exact S0a k (by omega)) (S0j 5 (by omega) (by omega) (by omega) (by omega) (by omega) (by omega))
  refine hI0.done (d := 1000 * c + 24 * cnt) (S1 := S2) (T := B') hH0 (fun k hk => ?_) ?_ ?_ ?_ (hT.cg (fun k a b => ?_) rfl) (by omega)
  · by_cases h28 : k = 28
    · subst h28
      rw [S2k 28 (by omega), Uk 28 (by omega) (by omega), hS1]
      have e1 : q_cp K (30 + 9 * i) 10 28 = q_cp S0 (30 + 9 * i) 1 28 := by rw [q_cp_k _ _ _ _ (by omega), q_cp_k _ _ _ _ (by omega), Kk 28 (by omega), S0a 28 (by omega)]
      unfold uH_keep
      funext j
      simp only [q_p, e1]
    · rw [uH_kpo _ _ _ _ _ h28]
      by_cases hw : 30 + 9 * i ≤ k ∧ k < 30 + 9 * i + 9
      · obtain ⟨q, rfl⟩ : ∃ q, k = 30 + 9 * i + q := ⟨k - (30 + 9 * i), by omega⟩
        rw [S2k _ (by omega), Uk _ (by omega) (by omega), hS1, uH_kpo _ _ _ _ _ h28]
        funext j
        by_cases hl : j < uC_len q
        · rw [q_cp_in _ _ _ _ _ (by omega) hl, q_cp_in _ _ _ _ _ (by omega) hl, Kin q j (by omega) hl, S0a _ (by omega)]
        · unfold q_cp
          rw [Nat.add_sub_cancel_left, if_neg (fun z => hl z.2.2), if_neg (fun z => hl z.2.2), Kk _ (by omega), S0a _ (by omega)]
      · rw [q_cp_k _ _ _ _ (by omega)]
        by_cases h1 : 28 ≤ k ∧ k < 102
        · rw [S2k _ (by omega), Uk _ (by omega) (by omega), hS1, uH_kpo _ _ _ _ _ h28, q_cp_k _ _ _ _ (by omega), Kk _ (by omega), S0a _ (by omega)]
        · exact (S0b k (by omega)).symm
  · rw [S2k 0 (by omega), Uk 0 (by omega) (by omega), S1k 0 (by omega), K0, S0a 0 (by omega)]
  · rw [hS2, uM_keep_9]
    refine ⟨fun k a b => ?_, fun j h => ?_⟩
    · rw [show q_p (uM_keep U) 112 9 (B' 112 9) k = uM_keep U k from by simp [q_p, a]]
      exact hfr.1 k a b
    · rw [uM_9 _ (by omega)]
      exact hfr.2 j h
  · rw [hS2, uM_keep_9]
    funext j
    by_cases e : j = 9
    · subst e; exact (q_p_on _ _ _ _).symm
    · rw [uM_9 _ e]; exact hj j e
  · rw [S2k k (by omega), Uk k (by omega) (by omega), S1k k (by omega)]
theorem uRun_fail (hI : uInv c S) (hf : ¬ (uO_text (S 104) n S).2.1 = true) {cnt : Nat} {K S1 : q_St} (hK : K = (uG_U (S 104) n S cnt).2) (hS1 : S1 = q_cp K 1 10) {B' : q_St} (hfr : uM_fr (uM_U0 (uQ_text (S 118) n S1)) B') (hR : K 102 1 = B' 112 7 ∧ K 102 2 = B' 112 8) : uInv (c + 1) (uM_back B') := by
  have K0 : K 0 = S 0 := by rw [hK]; exact uG_U_0 cnt
  have Kin : ∀ k j, k < 9 → j < uC_len k → K (10 + k) j = S (1 + k) j := fun k j a b => by rw [hK]; exact uG_U_in cnt k j a b
  have K103 : ∀ j, K 103 j = uG_R (S 104) n S 103 j := fun j => by rw [hK]; exact uG_U_103 cnt j
  have Kk : ∀ k, 19 ≤ k ∧ k ≠ 102 ∧ (k < 103 ∨ k = 104 ∨ 108 < k) → K k = S k := fun k h => by rw [hK]; exact uG_U_k _ _ _ _ _ h
  have S1k : ∀ k, k < 1 ∨ 10 ≤ k → S1 k = K k := fun k h => by rw [hS1]; exact q_cp_k K 1 10 k (by omega)
  obtain ⟨U, hU⟩ : ∃ U, U = uM_rd (uQ_text (S 118) n S1) := ⟨_, rfl⟩
  have Uk : ∀ k, k ≠ 112 → k ≠ 119 → U k = S1 k := fun k a b => by rw [hU]; exact uQ_rdk _ _ _ a b
  have Uj : ∀ j, j ≠ 13 → j ≠ 14 → j ≠ 15 → j ≠ 16 → j ≠ 18 → U 112 j = S 112 j := fun j a b c d e => by rw [hU, uQ_rdj _ _ _ a b c d e, S1k 112 (by omega), Kk 112 (by omega)]
  have hU0 : uM_U0 (uQ_text (S 118) n S1) = uM_keep U := by rw [hU]; rfl
  rw [hU0] at hfr
  have Tk : ∀ k, k ≠ 112 → k ≠ 113 → k ≠ 114 → k ≠ 119 → uM_back B' k = S1 k := fun k a b d e => by rw [uM_back_k _ k b, hfr.1 k a b, uM_keep_k _ k a d, Uk k a e]
  have Ts : ∀ k, 19 ≤ k ∧ k ≠ 102 ∧ (k < 103 ∨ k = 104 ∨ 108 < k) → k ≠ 112 → k ≠ 113 → k ≠ 114 → k ≠ 119 → uM_back B' k = S k := fun k h a b d e => by rw [Tk k a b d e, S1k k (by omega), Kk k h]
  have Tj : ∀ j, j < 6 ∨ 9 < j → j ≠ 13 → j ≠ 14 → j ≠ 15 → j ≠ 16 → j ≠ 18 → uM_back B' 112 j = S 112 j := fun j h a b c d e => by rw [uM_back_k _ 112 (by decide), hfr.2 j h, uM_keep_7 _ (by omega), Uj j a b c d e]
  have T13 : ∀ j, j < 144 → uM_back B' 113 j = S 113 j := fun j h => by
    show va_cpy (B' 114) (B' 113) 0 0 144 j = S 113 j
    rw [q_cpy_at, if_pos h, hfr.1 114 (by decide) (by decide), uM_keep_114, q_cpy_at, if_pos h, Uk 113 (by decide) (by decide), S1k 113 (by omega), Kk 113 (by omega)]
  obtain ⟨⟨M0, hT0⟩, -⟩ := hI.up
  refine uRdInv hI hf hI.up ⟨M0, hT0.1.cg (fun k a j b => ?_) T13, hT0.2.cg T13⟩ (fun k h => ?_) (fun j h => Tj j (by omega) (by omega) (by omega) (by omega) (by omega) (by omega)) ?_ (fun k h => Ts k (by omega) (by omega) (by omega) (by omega) (by omega)) (Tj 11 (by omega) (by omega) (by omega) (by omega) (by omega) (by omega)) ?_ ?_ (fun j => ?_)
  · show uM_back B' (1 + k) j = S (1 + k) j
    rw [Tk _ (by omega) (by omega) (by omega) (by omega), hS1, q_cp_in _ _ _ _ _ a b]
    exact Kin k j a b
  · by_cases h0 : k = 0
    · subst h0; rw [Tk 0 (by omega) (by omega) (by omega) (by omega), S1k 0 (by omega), K0]
    · exact Ts k (by omega) (by omega) (by omega) (by omega) (by omega)
  · unfold uRf
    rw [Tk 102 (by omega) (by omega) (by omega) (by omega), S1k 102 (by omega), uM_back_k _ 112 (by decide)]
    exact hR
  · rw [uM_back_k _ 112 (by decide), hfr.2 13 (by omega), uM_keep_7 _ (by omega), hU]; exact uM_rd_13 _
  · rw [uM_back_k _ 112 (by decide), hfr.2 16 (by omega), uM_keep_7 _ (by omega), hU]; exact uM_rd_16 _
  · rw [Tk 103 (by omega) (by omega) (by omega) (by omega), S1k 103 (by omega)]; exact K103 j
end RUN2
theorem s_run (l : Launch) (hst : l.stackTraces = false) : uSt_run l uInv := by
  intro c S hc hI
  obtain ⟨⟨M, hT⟩, ⟨i, z, hH⟩, -, hRf, hLn, ⟨n, hn60, t1, t2, t3, t4⟩, -⟩ := id hI
  obtain ⟨hi1, hi8, hz1, hz8, hz5, -⟩ := id hH
  have hz : uP_nx (S 104) n = uP_nx (S 118) n := by
    funext p
    unfold uP_nx
    by_cases h : p < n
    · rw [if_pos h, if_pos h, t4 p h]
    · rw [if_neg h, if_neg h]
  obtain ⟨cnt, hcnt⟩ : ∃ k, k = (uQ_text (S 118) n S).2.1 := ⟨_, rfl⟩
  have hR := fun (hf : ¬ (uO_text (S 104) n S).2.1 = true) (S1 : q_St) (e13 : S1 113 = S 113) (e12 : S1 112 = S 112) => uRunM (z := z) hc hT hn60 hz hf (S1 := S1) e13 e12 hcnt
  have hx := c_X6_run l hst S i z hi1 hi8 hz1 hz8 (S 104) n rfl t1 hn60 (fun j hj => (t3 j hj).1) cnt hT.bool (fun hf => (hR hf S rfl rfl).2.1) (fun hf => (hR hf S rfl rfl).1) (fun hf => (hR hf S rfl rfl).2.2.1) (fun hf => (hR hf S rfl rfl).2.2.2.1)
  have hm := fun (S1 : q_St) (e18 : S1 118 = S 118) (e12 : S1 112 = S 112) => c_X7_run l S1 (S 118) n e18 (by rw [e12]; exact t2) hn60 (fun j hj => (t3 j hj).2) z (by rw [e12]; exact hz5) hz8 (uQ_text_let S1)
  unfold uG_run at hx
  by_cases hf : (uO_text (S 104) n S).2.1 = true
  · rw [if_pos hf] at hx
    obtain ⟨S1, hS1⟩ : ∃ S1, S1 = uG_R (S 104) n S := ⟨_, rfl⟩
    rw [← hS1] at hx
    have S1k : ∀ k, k < 103 ∨ k = 104 ∨ 108 < k → S1 k = S k := fun k h => by rw [hS1]; exact uG_R_k _ _ _ _ h
    obtain ⟨b1, b2, -⟩ := uRd_text (t := S 118) hn60 S S1
    have hf' : (uO_text (S 118) n S).2.1 = true := by rw [← uZ_text hz]; exact hf
    have hw := b1.mp hf'
    have k2 := hm S1 (S1k 118 (by omega)) (S1k 112 (by omega)) (fun q => absurd hw q)
    have eR : uM_run (S 118) n S1 z = (0, q_p (uM_rbad (uQ_text (S 118) n S1)) 112 6 1) := if_pos hw
    rw [eR] at k2
    obtain ⟨T, hTT⟩ : ∃ T, T = q_p (uM_rbad (uQ_text (S 118) n S1)) 112 6 1 := ⟨_, rfl⟩
    have k3 : q_Fi l yX7_run kX7_run 7 [.ref 112] S1 0 T := by rw [hTT]; exact k2
    have Tk : ∀ k, k ≠ 112 → k ≠ 119 → T k = S1 k := fun k a b => by
      rw [hTT, show q_p (uM_rbad (uQ_text (S 118) n S1)) 112 6 1 k = uM_rbad (uQ_text (S 118) n S1) k by simp [q_p, a], uM_rbad_k _ k a, uQ_text_k _ _ a b]
    have Tj : ∀ j, j ≠ 6 → j ≠ 13 → j ≠ 14 → j ≠ 15 → j ≠ 16 → j ≠ 18 → T 112 j = S 112 j := fun j a b c d e f => by
      rw [hTT, q_p_off _ _ _ _ _ _ (Or.inr a), uM_rbad_j _ j b c d e, uQ_text_112 _ _ f, S1k 112 (by omega)]
    have T6 : T 112 6 = 1 := by rw [hTT]; exact q_p_on _ _ _ _
    have T13 : T 112 13 = 0 := by rw [hTT, q_p_off _ _ _ _ _ _ (Or.inr (by decide))]; exact uM_rbad_13 _
    have T16 : T 112 16 = nI (uQ_text (S 118) n S1).2.2.2 := by rw [hTT, q_p_off _ _ _ _ _ _ (Or.inr (by decide))]; exact uM_rbad_16 _
    refine ⟨.inr xEIa, S1, 0, T, w_run l S _ hx (by intro E h; cases h; simp), k3, ⟨T6.trans (by decide +kernel), by decide +kernel⟩, hI.gen (fun k h => ?_) (fun j h => Tj j (by omega) (by omega) (by omega) (by omega) (by omega) (by omega)) ?_ ?_ ?_ ?_⟩
    · rw [Tk k (by omega) (by omega), S1k k (by omega)]
    · unfold uRf
      rw [Tk 102 (by omega) (by omega), S1k 102 (by omega), Tj 7 (by omega) (by omega) (by omega) (by omega) (by omega) (by omega), Tj 8 (by omega) (by omega) (by omega) (by omega) (by omega) (by omega)]
      exact hRf
    · unfold uLn
      rw [Tk 110 (by omega) (by omega), S1k 110 (by omega), Tk 111 (by omega) (by omega), S1k 111 (by omega), Tk 117 (by omega) (by omega), S1k 117 (by omega), Tj 11 (by omega) (by omega) (by omega) (by omega) (by omega) (by omega)]
      exact hLn
    · refine ⟨0, by omega, ?_, by rw [T13]; rfl, ?_, fun j hj => absurd hj (Nat.not_lt_zero j)⟩
      · rw [Tk 103 (by omega) (by omega), hS1]; exact uG_R_1 _ _ _
      · rw [Tk 104 (by omega) (by omega), S1k 104 (by omega), Tk 118 (by omega) (by omega), S1k 118 (by omega)]; exact t3
    · rw [Tk 103 (by omega) (by omega), hS1, uG_R_4, if_pos hf, T16, ← b2, uZ_text hz]
  · rw [if_neg hf] at hx
    obtain ⟨K, hK⟩ : ∃ K, K = (uG_U (S 104) n S cnt).2 := ⟨_, rfl⟩
    have Kk : ∀ k, 19 ≤ k ∧ k ≠ 102 ∧ (k < 103 ∨ k = 104 ∨ 108 < k) → K k = S k := fun k h => by rw [hK]; exact uG_U_k _ _ _ _ _ h
    have h30 : cnt ≤ 30 := (hR hf S rfl rfl).1
    by_cases e0 : (uG_U (S 104) n S cnt).1 = 0
    · rw [if_pos e0, ← hK] at hx
      obtain ⟨S1, hS1⟩ : ∃ S1, S1 = uH_keep K i z 10 := ⟨_, rfl⟩
      rw [← hS1] at hx
      have S1k : ∀ k, 108 < k → S1 k = S k := fun k h => by rw [hS1, uH_keep_k K i z 10 k (by omega) hi8, Kk k (by omega)]
      obtain ⟨-, -, -, -, hA, hq⟩ := hR hf S1 (S1k 113 (by omega)) (S1k 112 (by omega))
      have k2 := hm S1 (S1k 118 (by omega)) (S1k 112 (by omega)) hA
      rcases hq with ⟨-, M', B', q1, q2, q3, q4, q5⟩ | ⟨q0, -⟩ | ⟨q0, -⟩
      · have h6 : B' 112 6 = 0 := (q4 6 (by decide)).trans (uM_keep_6 _)
        rw [q1, uEnds_d h6] at k2
        rw [← hK] at q2 q5
        exact ⟨.inl (nI cnt), S1, nI cnt, uM_push B' z, w_run l S _ hx (by intro E h; cases h), k2, ⟨(uM_push_112 _ z 6 (by decide)).trans h6, rfl⟩, uRun_done hI hH hf h30 hK hS1 q2 q3 q4 q5⟩
      · rw [e0] at q0; exact absurd q0 (by decide)
      · rw [e0] at q0; exact absurd q0 (by decide)
    · rw [if_neg e0] at hx
      obtain ⟨S1, hS1⟩ : ∃ S1, S1 = q_cp K 1 10 := ⟨_, rfl⟩
      have S1k : ∀ k, 108 < k → S1 k = S k := fun k h => by rw [hS1, q_cp_k _ _ _ _ (by omega), Kk k (by omega)]
      obtain ⟨-, -, -, -, hA, hq⟩ := hR hf S1 (S1k 113 (by omega)) (S1k 112 (by omega))
      have k2 := hm S1 (S1k 118 (by omega)) (S1k 112 (by omega)) hA
      by_cases e1 : (uG_U (S 104) n S cnt).1 = 1
      · rw [if_pos e1, ← hK, ← hS1] at hx
        rcases hq with ⟨q0, -⟩ | ⟨-, B', q1, q2, q3, q4, q5⟩ | ⟨q0, -⟩
        · exact absurd q0 e0
        · rw [q1, uEnds_f (by rw [q3]; decide)] at k2
          rw [← hK] at q4 q5
          exact ⟨.inr xEUn, S1, 0, uM_back B', w_run l S _ hx (by intro E h; cases h; simp), k2, ⟨((congrFun (uM_back_k B' 112 (by decide)) 6).trans q3).trans (by decide +kernel), by decide +kernel⟩, uRun_fail hI hf hK hS1 q2 ⟨q4, q5⟩⟩
        · rw [e1] at q0; exact absurd q0 (by decide)
      · rw [if_neg e1, ← hK, ← hS1] at hx
        rcases hq with ⟨q0, -⟩ | ⟨q0, -⟩ | ⟨-, B', q1, q2, q3, q4, q5, q6⟩
        · exact absurd q0 e0
        · exact absurd q0 e1
        · rw [q1, uEnds_f (by rw [q3]; decide)] at k2
          rw [← hK] at q6
          exact ⟨.inr xEIa, S1, 0, uM_back B', w_run l S _ hx (by intro E h; cases h; simp), k2, ⟨((congrFun (uM_back_k B' 112 (by decide)) 6).trans q3).trans (by decide +kernel), by decide +kernel⟩, uRun_fail hI hf hK hS1 q2 (by rw [q6, q4, q5]; exact hRf)⟩
