
theorem uL_num_d {v : Nat} (h : v < 10) (q : uL_T) : (uL_num v q).1 = q.1 + 1 := by
  unfold uL_num
  rw [if_neg (by omega)]
  rfl
theorem uL_num_2 (v : Nat) (q : uL_T) : (uL_num v q).1 ≤ q.1 + 2 := by
  unfold uL_num
  split
  · exact Nat.le_refl _
  · exact Nat.le_succ _
theorem uL_gs_len (S : q_St) {m : Nat} (hm : m < 8) : ∀ g, g ≤ 6 → (uL_gs S m g).1 ≤ 3 + 6 * g
  | 0, _ => by
    show (uL_put _ (uL_num m (uL_put 35 (0, S 111)))).1 ≤ 3
    show (uL_num m (uL_put 35 (0, S 111))).1 + 1 ≤ 3
    rw [uL_num_d (by omega)]
    exact Nat.le_refl _
  | g + 1, hg => by
    have h1 := uL_gs_len S hm g (by omega)
    rw [uL_gs]
    split
    · unfold uL_guild
      show (uL_num _ (uL_put _ (uL_num g (uL_put 32 (uL_gs S m g))))).1 + 1 ≤ _
      have h2 := uL_num_2 (uL_abs (S 5 (m * 6 + g))) (uL_put (if S 5 (m * 6 + g) < 0 then 45 else 43) (uL_num g (uL_put 32 (uL_gs S m g))))
      have h3 : (uL_put (if S 5 (m * 6 + g) < 0 then 45 else 43) (uL_num g (uL_put 32 (uL_gs S m g)))).1 = (uL_gs S m g).1 + 3 := by
        show (uL_num g (uL_put 32 (uL_gs S m g))).1 + 1 = _
        rw [uL_num_d (by omega)]
        rfl
      omega
    · omega
theorem uV_gs_cg {S T : q_St} (h3 : T 113 = S 113) (h7 : T 117 = S 117) (m : Nat) : ∀ g, uV_gs T m g = uV_gs S m g
  | 0 => by
    show uV_head T m = uV_head S m
    unfold uV_head
    rw [show uM_how T m = uM_how S m from congrFun h3 _, h7]
  | g + 1 => by
    rw [uV_gs, uV_gs, uV_gs_cg h3 h7 m g]
    unfold uV_guild
    rw [show uM_am T m g = uM_am S m g from congrFun h3 _, show uM_an T m g = uM_an S m g from congrFun h3 _]
theorem s_line (l : Launch) (hst : l.stackTraces = false) : uSt_line l uInv := by
  intro c S x hc hI
  obtain ⟨⟨M, hT⟩, -⟩ := id hI
  have hM8 := hT.M8
  have hx := c_X6_line l hst S M hT.hMA hM8 x (fun m hm g hg => by rw [hT.am (by omega) hg]; exact hT.am50 (by omega) hg) (fun m hm g hg => by rw [hT.an (by omega) hg]; exact hT.an5 (by omega) hg)
  have hV : ∀ S1 : q_St, S1 113 = S 113 → uV_ok S1 M := fun S1 e m hm => by
    rw [e]
    refine ⟨?_, fun g hg => ⟨hT.am50 (by omega) hg, ?_⟩⟩
    · rcases hT.how3 (show m < 8 by omega) with q | q | q
      · exact ⟨0, by decide, q⟩
      · exact ⟨1, by decide, q⟩
      · exact ⟨2, by decide, q⟩
    · rcases hT.an5 (show m < 8 by omega) hg with q | q | q | q | q
      · exact ⟨0, by decide, q⟩
      · exact ⟨1, by decide, q⟩
      · exact ⟨2, by decide, q⟩
      · exact ⟨3, by decide, q⟩
      · exact ⟨4, by decide, q⟩
  have hm : ∀ S1 : q_St, S1 113 = S 113 → _ := fun S1 e => c_X7_line l S1 M (by rw [e]; exact hT.hM) hM8 x (hV S1 e)
  by_cases h1 : 0 ≤ x ∧ x < nI M
  · obtain ⟨m, hm9, rfl⟩ := uK_okX rfl (by omega) h1
    obtain ⟨S1, hS1⟩ : ∃ S1, S1 = uL_at S (uL_gs S m 6) := ⟨_, rfl⟩
    rw [show uG_line S (nI m) = (.inl (nI (uL_gs S m 6).1), S1) by unfold uG_line; rw [hT.hMA, if_pos h1, uN_nI (by omega), hS1]] at hx
    have hk : ∀ k, k ≠ 110 → k ≠ 111 → S1 k = S k := fun k a b => by rw [hS1]; simp [uL_at, q_u, q_p, a, b]
    have k2 := hm S1 (hk 113 (by decide) (by decide))
    obtain ⟨T, hTT⟩ : ∃ T, T = uV_at (q_p S1 112 6 0) (uV_gs S m 6) := ⟨_, rfl⟩
    rw [show uMq_line S1 M (nI m) = (nI (uV_gs S m 6).1, T) by unfold uMq_line; rw [if_pos h1, uN_nI (by omega), uV_gs_cg (hk 113 (by decide) (by decide)) (hk 117 (by decide) (by decide)), hTT]] at k2
    have hq := hT.lineq (show m < 8 by omega) 6 (Nat.le_refl _)
    have hlen := uL_gs_len S (show m < 8 by omega) 6 (Nat.le_refl _)
    have hkT : ∀ k, k ≠ 110 → k ≠ 111 → k ≠ 112 → k ≠ 117 → T k = S k := fun k a b d e => by rw [hTT]; simp [uV_at, q_u, q_p, d, e, hk k a b]
    have hk2 : ∀ j, j ≠ 6 → j ≠ 11 → T 112 j = S 112 j := fun j a b => by rw [hTT]; simp [uV_at, q_u, q_p, upd, a, b, hk 112 (by decide) (by decide)]
    have t110 : T 110 1 = nI (uL_gs S m 6).1 := by rw [hTT, hS1]; simp [uV_at, uL_at, q_u, q_p, upd]
    have t111 : T 111 = (uL_gs S m 6).2 := by rw [hTT, hS1]; simp [uV_at, uL_at, q_u, q_p]
    have t117 : T 117 = (uV_gs S m 6).2 := by rw [hTT]; simp [uV_at, q_u]
    have t11 : T 112 11 = nI (uV_gs S m 6).1 := by rw [hTT]; simp [uV_at, q_u, q_p, upd]
    have t6 : T 112 6 = 0 := by rw [hTT]; simp [uV_at, q_u, q_p, upd]
    obtain ⟨-, -, -, hR, hL, hX, hE⟩ := id hI
    refine ⟨.inl _, S1, nI (uV_gs S m 6).1, T, w_line l S _ _ hx (by intro E h; cases h), k2, ⟨t6, congrArg nI hq.1⟩, hI.gen (fun k a => hkT k (by omega) (by omega) (by omega) (by omega)) (fun j a => hk2 j (by omega) (by omega)) ?_ ⟨(uL_gs S m 6).1, by omega, t110, by rw [t11, hq.1], fun j hj => ?_⟩ ?_ ?_⟩
    · unfold uRf
      rw [hkT 102 (by decide) (by decide) (by decide) (by decide), hk2 7 (by decide) (by decide), hk2 8 (by decide) (by decide)]
      exact hR
    · rw [t111, t117]
      exact hq.2 j hj
    · unfold uTx
      rw [hkT 103 (by decide) (by decide) (by decide) (by decide), hk2 13 (by decide) (by decide), hkT 104 (by decide) (by decide) (by decide) (by decide), hkT 118 (by decide) (by decide) (by decide) (by decide)]
      exact hX
    · rw [hkT 103 (by decide) (by decide) (by decide) (by decide), hk2 16 (by decide) (by decide)]
      exact hE
  · have k2 := hm S rfl
    rw [show uG_line S x = (.inr xENs, S) by unfold uG_line; rw [hT.hMA, if_neg h1]] at hx
    rw [show uMq_line S M x = (0, q_p S 112 6 1) by unfold uMq_line; rw [if_neg h1]; rfl] at k2
    exact ⟨.inr _, S, _, _, w_line l S _ _ hx (by intro E h; cases h; simp), k2, ⟨(q_p_on S 112 6 1).trans (by decide +kernel), by decide +kernel⟩, hI.n6 1⟩
