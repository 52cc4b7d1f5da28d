
set_option maxHeartbeats 1000000 in
theorem s_decide (l : Launch) (hst : l.stackTraces = false) : uSt_decide l uInv := by
  intro c S x hc hI
  obtain ⟨⟨M, hT⟩, ⟨i, z, hH⟩, -⟩ := id hI
  have hM8 := hT.M8
  obtain ⟨hi1, hi8, hz1, hz8, hz5, -⟩ := id hH
  have hU : ∀ S1 : q_St, S1 113 = S 113 → uT (1000 * c) M S (uM_keep S1) := fun S1 e => hT.cg (fun _ _ _ => rfl) (by rw [uM_keep_k S1 113 (by decide) (by decide), e])
  have hV : ∀ S1 : q_St, S1 113 = S 113 → uT (1000 * c) M (uH_keep S i z 1) (uM_keep S1) := fun S1 e => (hU S1 e).cg (fun k _ b => uHk S hi8 z k (Or.inl (by omega))) rfl
  have hx := c_X6_decide l hst S M hT.hMA hM8 i z hi1 hi8 hz1 hz8 (uD (S 113) M) hT.hNA (by exact fun n a b => by {have q9 := uD_lt (r := S 113) ((hT.how (by omega)).symm.trans b) M a; omega}) x hT.bool
  have hm : ∀ S1 : q_St, S1 113 = S 113 → S1 112 = S 112 → _ := fun S1 e13 e12 => c_X7_decide l S1 M (by rw [e13]; exact hT.hM) hM8 (uD (S 113) M) (by rw [e13]; exact hT.hN) (by rw [e13]; exact fun n a b => by {have q9 := uD_lt b M a; omega}) z (by rw [e12]; exact hz5) hz8 x
  unfold uG_decide at hx
  rw [hT.hMA] at hx
  by_cases h1 : 0 ≤ x ∧ x < nI M
  rotate_left
  · have k2 := hm S rfl rfl
    unfold uMd_decide at k2
    rw [if_neg h1] at k2 hx
    rw [show uM_bad (uM_keep S) 1 = (0, q_p (uM_keep S) 112 6 1) from rfl, uEnds_f (by rw [q_p_on]; decide)] at k2
    obtain ⟨b1, b2⟩ := hI.bad 1
    exact ⟨.inr _, S, _, _, w_decide l S _ _ hx (by intro E h; cases h; simp), k2, ⟨b2.trans (by decide +kernel), by decide +kernel⟩, b1⟩
  rw [if_pos h1] at hx
  obtain ⟨m, hm9, rfl⟩ := uK_okX rfl (by omega) h1
  rw [uN_nI (by omega)] at hx
  cases ho : uR_decide S M m with
  | some q =>
    rw [ho] at hx
    have k2 := hm (uR_set S q.1 q.2) (uR_set_k S _ _ 113 (by decide)) (uR_set_k S _ _ 112 (by decide))
    have hq := hU (uR_set S q.1 q.2) (uR_set_k S _ _ 113 (by decide))
    unfold uMd_decide at k2
    rw [if_pos h1] at k2
    rw [uN_nI (by omega)] at k2
    rw [← hq.rf_decide (by omega), ho, show ∀ (U V : q_St) (v : Int32), uM_out U 2 (some q) v V = (0, uM_refuse U 2 q.1 q.2) from fun _ _ _ => rfl, uEnds_f (by rw [uM_refuse_6]; decide)] at k2
    obtain ⟨b1, b2⟩ := hI.refd 2 q.1 q.2
    exact ⟨.inr _, uR_set S q.1 q.2, _, _, w_decide l S _ _ hx (by intro E h; cases h; simp), k2, ⟨b2.trans (by decide +kernel), by decide +kernel⟩, b1⟩
  | none =>
    rw [ho] at hx
    obtain ⟨S1, hS1⟩ : ∃ S1, S1 = uC_decide (uH_keep S i z 1) (uD (S 113) M) m := ⟨_, rfl⟩
    have e10 : ∀ k, 10 ≤ k → S1 k = uH_keep S i z 1 k := fun k hk => by rw [hS1]; exact (by unfold uC_decide uC_book; simp [q_p, show k ≠ 1 by omega, show k ≠ 2 by omega, show k ≠ 4 by omega])
    have e0 : S1 0 = S 0 := by rw [hS1, show (uC_decide (uH_keep S i z 1) (uD (S 113) M) m) 0 = uH_keep S i z 1 0 from (by unfold uC_decide uC_book; simp [q_p])]; exact uHk S hi8 z 0 (by decide)
    have e13 : S1 113 = S 113 := (e10 113 (by decide)).trans (uHk S hi8 z 113 (by decide))
    have e12 : S1 112 = S 112 := (e10 112 (by decide)).trans (uHk S hi8 z 112 (by decide))
    have k2 := hm S1 e13 e12
    have hq := hU S1 e13
    have hv := hV S1 e13
    unfold uMd_decide at k2
    rw [if_pos h1] at k2
    rw [uN_nI (by omega)] at k2
    have ho' := (hq.rf_decide (by omega)).symm.trans ho
    rw [ho', show ∀ (U V : q_St) (v : Int32), uM_out U 2 none v V = (v, V) from fun _ _ _ => rfl] at k2
    have f1 : uM_how (uM_keep S1) m = 0 := Decidable.byContradiction fun q => (by unfold uMr_decide at ho'; rw [if_pos q] at ho'; (repeat' (split at ho')); all_goals cases ho')
    have f2 : uD (S 113) M = uD (uM_keep S1 113) M := by rw [uM_keep_k S1 113 (by decide) (by decide), e13]
    have hE : uT (1000 * c) M S1 (uM_dec (uM_keep S1) (uD (S 113) M) m) := by have h9 := hv.t_dec hm9 f1 f2; rw [← hS1] at h9; exact h9
    rw [uEnds_d (T := uM_dec (uM_keep S1) (uD (S 113) M) m) (by exact (congrFun (show (uM_dec (uM_keep S1) (uD (S 113) M) m) 112 = uM_keep S1 112 from (by unfold uM_dec uM_book; simp [q_p])) 6).trans (uM_keep_6 S1))] at k2
    rw [show ∀ (v : Int32) (V : q_St), uG_req S none v V = (.inl v, V) from fun _ _ => rfl] at hx
    rw [← hS1] at hx
    refine ⟨.inl _, S1, _, _, w_decide l S _ _ hx (by intro E h; cases h), k2, ⟨?_, ?_⟩, hI.done hH e10 e0 (uM_fr.book (uM_fr.rf _) _ _ _) ((by unfold uM_dec uM_book; simp [q_p])) hE (by omega)⟩
    · exact (uM_push_112 _ z 6 (by decide)).trans ((congrFun (show (uM_dec (uM_keep S1) (uD (S 113) M) m) 112 = uM_keep S1 112 from (by unfold uM_dec uM_book; simp [q_p])) 6).trans (uM_keep_6 S1))
    · exact u_ifc (hv.opposed (by omega))
set_option maxHeartbeats 1000000 in
theorem s_wake (l : Launch) (hst : l.stackTraces = false) : uSt_wake l uInv := by
  intro c S  hc hI
  obtain ⟨⟨M, hT⟩, ⟨i, z, hH⟩, -⟩ := id hI
  have hM8 := hT.M8
  obtain ⟨hi1, hi8, hz1, hz8, hz5, -⟩ := id hH
  have hU : ∀ S1 : q_St, S1 113 = S 113 → uT (1000 * c) M S (uM_keep S1) := fun S1 e => hT.cg (fun _ _ _ => rfl) (by rw [uM_keep_k S1 113 (by decide) (by decide), e])
  have hV : ∀ S1 : q_St, S1 113 = S 113 → uT (1000 * c) M (uH_keep S i z 1) (uM_keep S1) := fun S1 e => (hU S1 e).cg (fun k _ b => uHk S hi8 z k (Or.inl (by omega))) rfl
  have hx := c_X6_wake l hst S M hT.hMA hM8 i z hi1 hi8 hz1 hz8 (uD (S 113) M) hT.hNA (by have hK := hT.cg (A' := uH_keep S i z 1) (B' := S) (fun k _ b => uHk S hi8 z k (Or.inl (by omega))) rfl; rw [hK.t_up.wkN _ M hM8]; exact hT.wk8)  hT.bool
  have hm : ∀ S1 : q_St, S1 113 = S 113 → S1 112 = S 112 → _ := fun S1 e13 e12 => c_X7_wake l S1 M (by rw [e13]; exact hT.hM) hM8 (uD (S 113) M) (by rw [e13]; exact hT.hN) (by have q9 := (hU S1 e13).wk8; rw [uM_keep_k S1 113 (by decide) (by decide), e13] at q9; exact q9) z (by rw [e12]; exact hz5) hz8 
  unfold uG_wake at hx
  cases ho : uR_wake S with
  | some q =>
    rw [ho] at hx
    have k2 := hm (uR_set S q.1 q.2) (uR_set_k S _ _ 113 (by decide)) (uR_set_k S _ _ 112 (by decide))
    have hq := hU (uR_set S q.1 q.2) (uR_set_k S _ _ 113 (by decide))
    unfold uMd_wake at k2
    rw [← hq.rf_wake, ho, show ∀ (U V : q_St) (v : Int32), uM_out U 1 (some q) v V = (0, uM_refuse U 1 q.1 q.2) from fun _ _ _ => rfl, uEnds_f (by rw [uM_refuse_6]; decide)] at k2
    obtain ⟨b1, b2⟩ := hI.refd 1 q.1 q.2
    exact ⟨.inr _, uR_set S q.1 q.2, _, _, w_wake l S _ hx (by intro E h; cases h; simp), k2, ⟨b2.trans (by decide +kernel), by decide +kernel⟩, b1⟩
  | none =>
    rw [ho] at hx
    obtain ⟨S1, hS1⟩ : ∃ S1, S1 = uC_wake (uH_keep S i z 1) M (uD (S 113) M) := ⟨_, rfl⟩
    have e10 : ∀ k, 10 ≤ k → S1 k = uH_keep S i z 1 k := fun k hk => by rw [hS1]; exact (by unfold uC_wake; rw [uC_wk_ne _ _ k (by omega) (by omega) (by omega) M]; simp [q_p, show k ≠ 1 by omega])
    have e0 : S1 0 = S 0 := by rw [hS1, show (uC_wake (uH_keep S i z 1) M (uD (S 113) M)) 0 = uH_keep S i z 1 0 from (by unfold uC_wake; rw [uC_wk_ne _ _ 0 (by decide) (by decide) (by decide) M]; simp [q_p])]; exact uHk S hi8 z 0 (by decide)
    have e13 : S1 113 = S 113 := (e10 113 (by decide)).trans (uHk S hi8 z 113 (by decide))
    have e12 : S1 112 = S 112 := (e10 112 (by decide)).trans (uHk S hi8 z 112 (by decide))
    have k2 := hm S1 e13 e12
    have hq := hU S1 e13
    have hv := hV S1 e13
    unfold uMd_wake at k2
    have ho' := (hq.rf_wake).symm.trans ho
    rw [ho', show ∀ (U V : q_St) (v : Int32), uM_out U 1 none v V = (v, V) from fun _ _ _ => rfl] at k2
    have f2 : uD (S 113) M = uD (uM_keep S1 113) M := by rw [uM_keep_k S1 113 (by decide) (by decide), e13]
    have hE : uT (1000 * c) M S1 (uM_wake (uM_keep S1) M (uD (S 113) M)) := by have h9 := hv.t_wake f2; rw [← hS1] at h9; exact h9
    rw [uEnds_d (T := uM_wake (uM_keep S1) M (uD (S 113) M)) (by exact (congrFun (show (uM_wake (uM_keep S1) M (uD (S 113) M)) 112 = uM_keep S1 112 from (by unfold uM_wake; rw [uM_wk_ne _ _ 112 (by decide) M]; simp [q_p])) 6).trans (uM_keep_6 S1))] at k2
    rw [show ∀ (v : Int32) (V : q_St), uG_req S none v V = (.inl v, V) from fun _ _ => rfl] at hx
    rw [← hS1] at hx
    refine ⟨.inl _, S1, _, _, w_wake l S _ hx (by intro E h; cases h), k2, ⟨?_, ?_⟩, hI.done hH e10 e0 (uM_fr.wk ((uM_fr.rf _).p _ _) _ _) ((by unfold uM_wake; rw [uM_wk_ne _ _ 112 (by decide) M]; simp [q_p])) hE (by omega)⟩
    · exact (uM_push_112 _ z 6 (by decide)).trans ((congrFun (show (uM_wake (uM_keep S1) M (uD (S 113) M)) 112 = uM_keep S1 112 from (by unfold uM_wake; rw [uM_wk_ne _ _ 112 (by decide) M]; simp [q_p])) 6).trans (uM_keep_6 S1))
    · show nI (uC_wkN (q_p (uH_keep S i z 1) 1 5 1) (uD (S 113) M) M) - nI (uD (S 113) M) = nI (uM_wkN (q_p (uM_keep S1) 113 1 0) (uD (S 113) M) M - uD (S 113) M)
      rw [hv.t_up.wkN _ M hM8]
      refine pk_sub ?_
      have q9 := uM_wkN_mono (q_p (uM_keep S1) 113 1 0) (uD (S 113) M) 0 M
      rw [Nat.zero_add] at q9
      exact q9
