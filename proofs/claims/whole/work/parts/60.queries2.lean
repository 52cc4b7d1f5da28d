
/-! more questions -/
theorem s_isAwake (l : Launch) : uSt_isAwake l uInv := by
  intro c S hc hI
  obtain ⟨⟨M, hT⟩, -⟩ := id hI
  have hm := c_X7_isAwake l S
  rw [show (uMq_isAwake S).1 = S 1 5 from ?_] at hm
  · exact ⟨S, _, _, c_X6_isAwake l S hT.bool, hm, hI.n6 0⟩
  · show (if S 113 1 = 0 then 1 else 0) = S 1 5
    rw [hT.awk]
    rcases hT.r1 with e | e <;> rw [e] <;> decide
theorem s_coins (l : Launch) : uSt_coins l uInv := by
  intro c S x hc hI
  obtain ⟨⟨M, hT⟩, -⟩ := id hI
  have hw := c_X6_coins l S M hT.hMA hT.M8 (uB x)
  rw [show (if uB x = 0 then uC_coins S else uC_coinsS S M) = uM_coins S from ?_] at hw
  · exact ⟨S, _, _, hw, c_X7_coins l S (uB x), hI.n6 0⟩
  · split
    · exact hT.coins
    · exact hT.coinsS
theorem s_errorPosition (l : Launch) : uSt_errorPosition l uInv := by
  intro c S hc hI
  have hw := c_X6_errorPosition l S
  rw [hI.2.2.2.2.2.2] at hw
  exact ⟨S, _, _, hw, c_X7_errorPosition l S, hI.n6 0⟩
theorem uF_nn (x : Int32) : FP.Core.dIsNaN (FP.ddiv (FP.i2d x) 4618441417868443648) = false := by
  have hb : FP.Core.DFin 4618441417868443648 := (FP.Core.fin_bits _).mpr (by decide)
  have hz : ¬ FP.Core.DZero 4618441417868443648 := fun h => absurd ((FP.Core.zero_bits2 _).mp h) (by decide)
  exact FP.Core.ddiv_out ((FP.Core.notNaN_iff _).mpr (FP.Core.i2d_fin x).ne_nan) hb hz
theorem s_meanDoubt (l : Launch) : uSt_meanDoubt l uInv := by
  intro c S hc hI
  obtain ⟨⟨M, hT⟩, -⟩ := id hI
  have hw := c_X6_meanDoubt l S
  rw [hT.hours] at hw
  exact ⟨S, _, _, hw, c_X7_meanDoubt l S, uF_nn _, hI.n6 0⟩
theorem uF_dn (x y : Int32) (h0 : y ≠ 0) : FP.Core.dIsNaN (FP.f2d (FP.fdiv (FP.i2f x) (FP.i2f y))) = false := by
  rw [show FP.f2d (FP.fdiv (FP.i2f x) (FP.i2f y)) = FP.Core.f2d (FP.Core.fdiv (FP.Core.i2f x) (FP.Core.i2f y)) from FP.f2d_core (uF_fin x y h0)]
  exact FP.Core.f2d_out (uF_fin x y h0)
theorem s_sealedShare (l : Launch) (hst : l.stackTraces = false) : uSt_sealedShare l uInv := by
  intro c S hc hI
  obtain ⟨⟨M, hT⟩, -⟩ := id hI
  have e1 : S 1 1 = S 113 5 := hT.hNA.trans hT.hN.symm
  have hm := c_X7_sealedShare l S M hT.hM hT.M8
  have hx := c_X6_sealedShare l hst S M hT.hMA hT.M8
  by_cases h0 : S 113 5 = 0
  · have e2 : uG_share S M = (.inr xEAr, S) := by unfold uG_share; rw [if_pos (e1.trans h0)]
    have e3 : uMq_share S M = (FP.fconst0, q_p S 112 6 1) := by unfold uMq_share; rw [if_pos h0]
    rw [e2] at hx
    rw [e3] at hm
    have hw := w_sealedShare l S _ hx (by intro E h; cases h; simp) (by intro v h; cases h)
    exact ⟨.inr _, S, _, _, hw, hm, ⟨(q_p_on S 112 6 1).trans (by decide +kernel), by decide +kernel⟩, fun q => absurd ((q_p_on S 112 6 1).symm.trans q) (by decide), hI.n6 1⟩
  · have e2 : uG_share S M = (.inl (FP.fdiv (FP.i2f (uM_matters S M 1)) (FP.i2f (S 113 5))), S) := by unfold uG_share; rw [if_neg (by rw [e1]; exact h0), hT.matters, e1]
    have e3 : uMq_share S M = (FP.fdiv (FP.i2f (uM_matters S M 1)) (FP.i2f (S 113 5)), q_p S 112 6 0) := by unfold uMq_share; rw [if_neg h0]
    rw [e2] at hx
    rw [e3] at hm
    have hw := w_sealedShare l S _ hx (by intro E h; cases h) (by intro v h; cases h; exact uF_d64 _ _ h0)
    exact ⟨.inl _, S, _, _, hw, hm, ⟨rfl, rfl⟩, fun _ => ⟨uF_d64 _ _ h0, uF_dn _ _ h0⟩, hI.n6 0⟩
theorem s_book (l : Launch) (hst : l.stackTraces = false) : uSt_book l uInv := by
  intro c S x hc hI
  obtain ⟨⟨M, hT⟩, -⟩ := id hI
  have hM8 := hT.M8
  have hN8 : uD (S 113) M ≤ 8 := Nat.le_trans (uD_le _ _) hM8
  have hm := c_X7_book l S _ hT.hN hN8 x
  have hx := c_X6_book l hst S _ hT.hNA hN8 x
  by_cases h1 : 0 ≤ x ∧ x < nI (uD (S 113) M)
  · have e2 : uG_book S x = (.inl (S 4 (uN x)), S) := by unfold uG_book; rw [hT.hNA, if_pos h1]
    have e3 : uMq_book S (uD (S 113) M) x = (S 4 (uN x), q_p S 112 6 0) := by
      unfold uMq_book
      rw [if_pos ((uM_isK (by omega)).mpr h1)]
      obtain ⟨p, hp, rfl⟩ := uK_okX rfl (by omega) h1
      rw [uN_nI (by omega), hT.book (by omega)]
    rw [e2] at hx
    rw [e3] at hm
    exact ⟨.inl _, S, _, _, w_book l S x _ hx (by intro E h; cases h), hm, ⟨rfl, rfl⟩, hI.n6 0⟩
  · have e2 : uG_book S x = (.inr xENs, S) := by unfold uG_book; rw [hT.hNA, if_neg h1]
    have e3 : uMq_book S (uD (S 113) M) x = (0, q_p S 112 6 1) := by unfold uMq_book; rw [if_neg (fun q => h1 ((uM_isK (by omega)).mp q))]; rfl
    rw [e2] at hx
    rw [e3] at hm
    exact ⟨.inr _, S, _, _, w_book l S x _ hx (by intro E h; cases h; simp), hm, ⟨(q_p_on S 112 6 1).trans (by decide +kernel), by decide +kernel⟩, hI.n6 1⟩
theorem s_character (l : Launch) (hst : l.stackTraces = false) : uSt_character l uInv := by
  intro c S x hc hI
  obtain ⟨n, hn, g1, g2, g3⟩ := hI.2.2.2.2.1
  have hm := c_X7_character l S n g2 (by omega) (fun j hj => by rw [← (g3 j hj).1]; exact (g3 j hj).2) x
  have hx := c_X6_character l hst S n g1 hn (fun j hj => (g3 j hj).2) x
  by_cases h1 : 0 ≤ x ∧ x < nI n
  · have e2 : uG_char S x = (.inl (S 111 (uN x)), S) := by unfold uG_char; rw [g1, if_pos h1]
    have e3 : uMq_char S n x = (S 111 (uN x), q_p S 112 6 0) := by
      unfold uMq_char
      rw [if_pos ((uM_isK (by omega)).mpr h1)]
      obtain ⟨p, hp, rfl⟩ := uK_okX rfl (by omega) h1
      rw [uN_nI (by omega), (g3 p hp).1]
    rw [e2] at hx
    rw [e3] at hm
    exact ⟨.inl _, S, _, _, w_character l S x _ hx (by intro E h; cases h), hm, ⟨rfl, rfl⟩, hI.n6 0⟩
  · have e2 : uG_char S x = (.inr xEIo, S) := by unfold uG_char; rw [g1, if_neg h1]
    have e3 : uMq_char S n x = (32, q_p S 112 6 1) := by unfold uMq_char; rw [if_neg (fun q => h1 ((uM_isK (by omega)).mp q))]
    rw [e2] at hx
    rw [e3] at hm
    exact ⟨.inr _, S, _, _, w_character l S x _ hx (by intro E h; cases h; simp), hm, ⟨(q_p_on S 112 6 1).trans (by decide +kernel), by decide +kernel⟩, hI.n6 1⟩
theorem s_refusal (l : Launch) (hst : l.stackTraces = false) : uSt_refusal l uInv := by
  intro c S x hc hI
  obtain ⟨r1, r2⟩ := hI.2.2.2.1
  have hm := c_X7_refusal l S (uB x)
  have hx := c_X6_refusal l hst S (uB x)
  by_cases h1 : S 112 7 = 0
  · have e2 : uG_refusal S (uB x) = (.inr xENs, S) := by unfold uG_refusal; rw [if_pos (r1.trans h1)]
    have e3 : uMq_refusal S (uB x) = (0, q_p S 112 6 1) := by unfold uMq_refusal; rw [if_pos h1]; rfl
    rw [e2] at hx
    rw [e3] at hm
    exact ⟨.inr _, S, _, _, w_refusal l S _ _ hx (by intro E h; cases h; simp), hm, ⟨(q_p_on S 112 6 1).trans (by decide +kernel), by decide +kernel⟩, hI.n6 1⟩
  · have e2 : uG_refusal S (uB x) = (.inl (if uB x = 0 then S 112 7 else S 112 8), S) := by unfold uG_refusal; rw [if_neg (by rw [r1]; exact h1), r1, r2]
    have e3 : uMq_refusal S (uB x) = (if uB x = 0 then S 112 7 else S 112 8, q_p S 112 6 0) := by unfold uMq_refusal; rw [if_neg h1]
    rw [e2] at hx
    rw [e3] at hm
    exact ⟨.inl _, S, _, _, w_refusal l S _ _ hx (by intro E h; cases h), hm, ⟨rfl, rfl⟩, hI.n6 0⟩
theorem s_wouldSeal (l : Launch) (hst : l.stackTraces = false) : uSt_wouldSeal l uInv := by
  intro c S x hc hI
  obtain ⟨⟨M, hT⟩, -⟩ := id hI
  have hM8 := hT.M8
  have hm := c_X7_wouldSeal l S M hT.hM hM8 x
  have hx := c_X6_wouldSeal l hst S M hT.hMA hM8 x
  by_cases h1 : 0 ≤ x ∧ x < nI M
  · obtain ⟨m, hm9, rfl⟩ := uK_okX rfl (by omega) h1
    by_cases h2 : uM_how S m ≠ 0 ∨ uM_cnt S m 0 4 = 0
    · have e2 : uG_would S M (nI m) = (.inr xEIs, S) := by unfold uG_would; rw [hT.hMA, if_pos h1, uN_nI (by omega), hT.how (by omega), hT.guilds (by omega), if_pos h2]
      have e3 : uMq_would S M (nI m) = (0, q_p S 112 6 2) := by unfold uMq_would; rw [if_pos h1, uN_nI (by omega), if_pos h2]; rfl
      rw [e2] at hx
      rw [e3] at hm
      exact ⟨.inr _, S, _, _, w_wouldSeal l S _ _ hx (by intro E h; cases h; simp) (by intro v h; cases h), hm, ⟨(q_p_on S 112 6 2).trans (by decide +kernel), by decide +kernel⟩, Or.inl rfl, hI.n6 2⟩
    · have e2 : uG_would S M (nI m) = (.inl (uO_b (q_every (uM_pAll S M m) 6 0)), S) := by unfold uG_would; rw [hT.hMA, if_pos h1, uN_nI (by omega), hT.how (by omega), hT.guilds (by omega), if_neg h2, hT.would0 (by omega)]
      have e3 : uMq_would S M (nI m) = (uO_b (q_every (uM_pAll S M m) 6 0), q_p S 112 6 0) := by unfold uMq_would; rw [if_pos h1, uN_nI (by omega), if_neg h2]
      rw [e2] at hx
      rw [e3] at hm
      have hb : uO_b (q_every (uM_pAll S M m) 6 0) = 0 ∨ uO_b (q_every (uM_pAll S M m) 6 0) = 1 := by cases q_every (uM_pAll S M m) 6 0 <;> decide
      exact ⟨.inl _, S, _, _, w_wouldSeal l S _ _ hx (by intro E h; cases h) (by intro v h; cases h; exact hb), hm, ⟨rfl, rfl⟩, hb, hI.n6 0⟩
  · have e2 : uG_would S M x = (.inr xENs, S) := by unfold uG_would; rw [hT.hMA, if_neg h1]
    have e3 : uMq_would S M x = (0, q_p S 112 6 1) := by unfold uMq_would; rw [if_neg h1]; rfl
    rw [e2] at hx
    rw [e3] at hm
    exact ⟨.inr _, S, _, _, w_wouldSeal l S _ _ hx (by intro E h; cases h; simp) (by intro v h; cases h), hm, ⟨(q_p_on S 112 6 1).trans (by decide +kernel), by decide +kernel⟩, Or.inl rfl, hI.n6 1⟩
theorem uInv.nA {c : Nat} {S : q_St} (hI : uInv c S) {M : Nat} (hT : uT (1000 * c) M S S) {x : Int32} (h : 0 ≤ x ∧ x ≤ 12) : (if x = 11 then S 103 1 else if x = 12 then S 28 2 else uC_nA S M (uN x)) = uM_nA S M (uN x) := by
  obtain ⟨-, ⟨i, z, hH⟩, -, -, -, ⟨n, -, t1, t2, -⟩, -⟩ := hI
  obtain ⟨k, hk, rfl⟩ := uN_le (k := 12) h (by omega)
  rw [uN_nI (by omega)]
  rcases (show k = 0 ∨ k = 1 ∨ k = 2 ∨ k = 3 ∨ k = 4 ∨ k = 5 ∨ k = 6 ∨ k = 7 ∨ k = 8 ∨ k = 9 ∨ k = 10 ∨ k = 11 ∨ k = 12 by omega) with rfl | rfl | rfl | rfl | rfl | rfl | rfl | rfl | rfl | rfl | rfl | rfl | rfl
  · rw [if_neg (by decide), if_neg (by decide)]; rfl
  · rw [if_neg (by decide), if_neg (by decide)]; exact hT.matters 0
  · rw [if_neg (by decide), if_neg (by decide)]; exact hT.matters 1
  · rw [if_neg (by decide), if_neg (by decide)]; exact hT.matters 2
  · rw [if_neg (by decide), if_neg (by decide)]; exact hT.awake
  · rw [if_neg (by decide), if_neg (by decide)]; exact hT.inDoubt
  · rw [if_neg (by decide), if_neg (by decide)]; exact hT.hour
  · rw [if_neg (by decide), if_neg (by decide)]; exact hT.hours
  · rw [if_neg (by decide), if_neg (by decide)]; exact hT.inq
  · rw [if_neg (by decide), if_neg (by decide)]; exact hT.fts
  · rw [if_neg (by decide), if_neg (by decide)]; exact hT.heardAll
  · rw [if_pos (by decide)]; exact t1.trans t2.symm
  · rw [if_neg (by decide), if_pos (by decide)]; exact hH.2.2.1.trans hH.2.2.2.2.1.symm
theorem s_account (l : Launch) (hst : l.stackTraces = false) : uSt_account l uInv := by
  intro c S x hc hI
  obtain ⟨⟨M, hT⟩, -⟩ := id hI
  have hm := c_X7_account l S M hT.hM hT.M8 x
  have hx := c_X6_account l hst S M hT.hMA hT.M8 x
  by_cases h1 : 0 ≤ x ∧ x ≤ 12
  · have e2 : uG_account S M x = (.inl (uM_nA S M (uN x)), S) := by unfold uG_account; rw [if_pos h1, hI.nA hT h1]
    have e3 : uMq_account S M x = (uM_nA S M (uN x), q_p S 112 6 0) := by unfold uMq_account; rw [if_pos h1]
    rw [e2] at hx
    rw [e3] at hm
    exact ⟨.inl _, S, _, _, w_account l S x _ hx (by intro E h; cases h), hm, ⟨rfl, rfl⟩, hI.n6 0⟩
  · have e2 : uG_account S M x = (.inr xEIa, S) := by unfold uG_account; rw [if_neg h1]
    have e3 : uMq_account S M x = (0, q_p S 112 6 1) := by unfold uMq_account; rw [if_neg h1]; rfl
    rw [e2] at hx
    rw [e3] at hm
    exact ⟨.inr _, S, _, _, w_account l S x _ hx (by intro E h; cases h; simp), hm, ⟨(q_p_on S 112 6 1).trans (by decide +kernel), by decide +kernel⟩, hI.n6 1⟩
