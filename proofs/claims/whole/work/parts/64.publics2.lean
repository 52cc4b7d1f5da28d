
set_option maxHeartbeats 1000000 in
theorem s_sleep (l : Launch) (hst : l.stackTraces = false) : uSt_sleep l uInv := by
  intro c S y hc hI
  obtain ⟨⟨M, hT⟩, ⟨i, z, hH⟩, -⟩ := id hI
  have hM8 := hT.M8
  obtain ⟨hi1, hi8, hz1, hz8, hz5, -⟩ := id hH
  have hU : ∀ S1 : q_St, S1 113 = S 113 → uT (1000 * c) M S (uM_keep S1) := fun S1 e => hT.cg (fun _ _ _ => rfl) (by rw [uM_keep_k S1 113 (by decide) (by decide), e])
  have hV : ∀ S1 : q_St, S1 113 = S 113 → uT (1000 * c) M (uH_keep S i z 1) (uM_keep S1) := fun S1 e => (hU S1 e).cg (fun k _ b => uHk S hi8 z k (Or.inl (by omega))) rfl
  have hx := c_X6_sleep l hst S i z hi1 hi8 hz1 hz8 y hT.bool
  have hm : ∀ S1 : q_St, S1 113 = S 113 → S1 112 = S 112 → _ := fun S1 e13 e12 => c_X7_sleep l S1 z (by rw [e12]; exact hz5) hz8 y
  unfold uG_sleep at hx
  by_cases h1 : 0 ≤ y ∧ y < 6
  rotate_left
  · have k2 := hm S rfl rfl
    unfold uMd_sleep at k2
    rw [if_neg h1] at k2 hx
    rw [show uM_bad (uM_keep S) 1 = (0, q_p (uM_keep S) 112 6 1) from rfl, uEnds_f (by rw [q_p_on]; decide)] at k2
    obtain ⟨b1, b2⟩ := hI.bad 1
    exact ⟨.inr _, S, _, _, w_sleep l S _ _ hx (by intro E h; cases h; simp), k2, ⟨b2.trans (by decide +kernel), by decide +kernel⟩, b1⟩
  rw [if_pos h1] at hx
  obtain ⟨g, hg9, rfl⟩ := uK_okG h1
  rw [uN_nI (by omega)] at hx
  cases ho : uR_sleep S g with
  | some q =>
    rw [ho] at hx
    have k2 := hm (uR_set S q.1 q.2) (uR_set_k S _ _ 113 (by decide)) (uR_set_k S _ _ 112 (by decide))
    have hq := hU (uR_set S q.1 q.2) (uR_set_k S _ _ 113 (by decide))
    unfold uMd_sleep at k2
    rw [if_pos h1] at k2
    rw [uN_nI (by omega)] at k2
    rw [← hq.rf_sleep hg9, ho, show ∀ (U V : q_St) (v : Int32), uM_out U 2 (some q) v V = (0, uM_refuse U 2 q.1 q.2) from fun _ _ _ => rfl, uEnds_f (by rw [uM_refuse_6]; decide)] at k2
    obtain ⟨b1, b2⟩ := hI.refd 2 q.1 q.2
    exact ⟨.inr _, uR_set S q.1 q.2, _, _, w_sleep l S _ _ hx (by intro E h; cases h; simp), k2, ⟨b2.trans (by decide +kernel), by decide +kernel⟩, b1⟩
  | none =>
    rw [ho] at hx
    obtain ⟨S1, hS1⟩ : ∃ S1, S1 = q_p (uH_keep S i z 1) 9 g 0 := ⟨_, rfl⟩
    have e10 : ∀ k, 10 ≤ k → S1 k = uH_keep S i z 1 k := fun k hk => by rw [hS1]; exact (by simp [q_p, show k ≠ 9 by omega])
    have e0 : S1 0 = S 0 := by rw [hS1, show (q_p (uH_keep S i z 1) 9 g 0) 0 = uH_keep S i z 1 0 from (by simp [q_p])]; exact uHk S hi8 z 0 (by decide)
    have e13 : S1 113 = S 113 := (e10 113 (by decide)).trans (uHk S hi8 z 113 (by decide))
    have e12 : S1 112 = S 112 := (e10 112 (by decide)).trans (uHk S hi8 z 112 (by decide))
    have k2 := hm S1 e13 e12
    have hq := hU S1 e13
    have hv := hV S1 e13
    unfold uMd_sleep at k2
    rw [if_pos h1] at k2
    rw [uN_nI (by omega)] at k2
    have ho' := (hq.rf_sleep hg9).symm.trans ho
    rw [ho', show ∀ (U V : q_St) (v : Int32), uM_out U 2 none v V = (v, V) from fun _ _ _ => rfl] at k2
    have hE : uT (1000 * c) M S1 (q_p (uM_keep S1) 113 (12 + g) 1) := by have h9 := (show uT (1000 * c) M (q_p (uH_keep S i z 1) 9 g 0) (q_p (uM_keep S1) 113 (12 + g) 1) from by have q9 := hv.t_slp (g := g) hg9 (v := 1) (by decide); rw [show (1 : Int32) - 1 = 0 from by decide] at q9; exact q9); rw [← hS1] at h9; exact h9
    rw [uEnds_d (T := q_p (uM_keep S1) 113 (12 + g) 1) (by exact (congrFun (show (q_p (uM_keep S1) 113 (12 + g) 1) 112 = uM_keep S1 112 from rfl) 6).trans (uM_keep_6 S1))] at k2
    rw [show ∀ (v : Int32) (V : q_St), uG_req S none v V = (.inl v, V) from fun _ _ => rfl] at hx
    rw [← hS1] at hx
    refine ⟨.inl _, S1, _, _, w_sleep l S _ _ hx (by intro E h; cases h), k2, ⟨?_, ?_⟩, hI.done hH e10 e0 ((uM_fr.rf _).p _ _) (rfl) hE (by omega)⟩
    · exact (uM_push_112 _ z 6 (by decide)).trans ((congrFun (show (q_p (uM_keep S1) 113 (12 + g) 1) 112 = uM_keep S1 112 from rfl) 6).trans (uM_keep_6 S1))
    · exact hE.awake
set_option maxHeartbeats 1000000 in
theorem s_rouse (l : Launch) (hst : l.stackTraces = false) : uSt_rouse l uInv := by
  intro c S y hc hI
  obtain ⟨⟨M, hT⟩, ⟨i, z, hH⟩, -⟩ := id hI
  have hM8 := hT.M8
  obtain ⟨hi1, hi8, hz1, hz8, hz5, -⟩ := id hH
  have hU : ∀ S1 : q_St, S1 113 = S 113 → uT (1000 * c) M S (uM_keep S1) := fun S1 e => hT.cg (fun _ _ _ => rfl) (by rw [uM_keep_k S1 113 (by decide) (by decide), e])
  have hV : ∀ S1 : q_St, S1 113 = S 113 → uT (1000 * c) M (uH_keep S i z 1) (uM_keep S1) := fun S1 e => (hU S1 e).cg (fun k _ b => uHk S hi8 z k (Or.inl (by omega))) rfl
  have hx := c_X6_rouse l hst S i z hi1 hi8 hz1 hz8 y hT.bool
  have hm : ∀ S1 : q_St, S1 113 = S 113 → S1 112 = S 112 → _ := fun S1 e13 e12 => c_X7_rouse l S1 z (by rw [e12]; exact hz5) hz8 y
  unfold uG_rouse at hx
  by_cases h1 : 0 ≤ y ∧ y < 6
  rotate_left
  · have k2 := hm S rfl rfl
    unfold uMd_sleep at k2
    rw [if_neg h1] at k2 hx
    rw [show uM_bad (uM_keep S) 1 = (0, q_p (uM_keep S) 112 6 1) from rfl, uEnds_f (by rw [q_p_on]; decide)] at k2
    obtain ⟨b1, b2⟩ := hI.bad 1
    exact ⟨.inr _, S, _, _, w_rouse l S _ _ hx (by intro E h; cases h; simp), k2, ⟨b2.trans (by decide +kernel), by decide +kernel⟩, b1⟩
  rw [if_pos h1] at hx
  obtain ⟨g, hg9, rfl⟩ := uK_okG h1
  rw [uN_nI (by omega)] at hx
  cases ho : uR_rouse S g with
  | some q =>
    rw [ho] at hx
    have k2 := hm (uR_set S q.1 q.2) (uR_set_k S _ _ 113 (by decide)) (uR_set_k S _ _ 112 (by decide))
    have hq := hU (uR_set S q.1 q.2) (uR_set_k S _ _ 113 (by decide))
    unfold uMd_sleep at k2
    rw [if_pos h1] at k2
    rw [uN_nI (by omega)] at k2
    rw [← hq.rf_rouse hg9, ho, show ∀ (U V : q_St) (v : Int32), uM_out U 2 (some q) v V = (0, uM_refuse U 2 q.1 q.2) from fun _ _ _ => rfl, uEnds_f (by rw [uM_refuse_6]; decide)] at k2
    obtain ⟨b1, b2⟩ := hI.refd 2 q.1 q.2
    exact ⟨.inr _, uR_set S q.1 q.2, _, _, w_rouse l S _ _ hx (by intro E h; cases h; simp), k2, ⟨b2.trans (by decide +kernel), by decide +kernel⟩, b1⟩
  | none =>
    rw [ho] at hx
    obtain ⟨S1, hS1⟩ : ∃ S1, S1 = q_p (uH_keep S i z 1) 9 g 1 := ⟨_, rfl⟩
    have e10 : ∀ k, 10 ≤ k → S1 k = uH_keep S i z 1 k := fun k hk => by rw [hS1]; exact (by simp [q_p, show k ≠ 9 by omega])
    have e0 : S1 0 = S 0 := by rw [hS1, show (q_p (uH_keep S i z 1) 9 g 1) 0 = uH_keep S i z 1 0 from (by simp [q_p])]; exact uHk S hi8 z 0 (by decide)
    have e13 : S1 113 = S 113 := (e10 113 (by decide)).trans (uHk S hi8 z 113 (by decide))
    have e12 : S1 112 = S 112 := (e10 112 (by decide)).trans (uHk S hi8 z 112 (by decide))
    have k2 := hm S1 e13 e12
    have hq := hU S1 e13
    have hv := hV S1 e13
    unfold uMd_sleep at k2
    rw [if_pos h1] at k2
    rw [uN_nI (by omega)] at k2
    have ho' := (hq.rf_rouse hg9).symm.trans ho
    rw [ho', show ∀ (U V : q_St) (v : Int32), uM_out U 2 none v V = (v, V) from fun _ _ _ => rfl] at k2
    have hE : uT (1000 * c) M S1 (q_p (uM_keep S1) 113 (12 + g) 0) := by have h9 := (show uT (1000 * c) M (q_p (uH_keep S i z 1) 9 g 1) (q_p (uM_keep S1) 113 (12 + g) 0) from by have q9 := hv.t_slp (g := g) hg9 (v := 0) (by decide); rw [show (1 : Int32) - 0 = 1 from by decide] at q9; exact q9); rw [← hS1] at h9; exact h9
    rw [uEnds_d (T := q_p (uM_keep S1) 113 (12 + g) 0) (by exact (congrFun (show (q_p (uM_keep S1) 113 (12 + g) 0) 112 = uM_keep S1 112 from rfl) 6).trans (uM_keep_6 S1))] at k2
    rw [show ∀ (v : Int32) (V : q_St), uG_req S none v V = (.inl v, V) from fun _ _ => rfl] at hx
    rw [← hS1] at hx
    refine ⟨.inl _, S1, _, _, w_rouse l S _ _ hx (by intro E h; cases h), k2, ⟨?_, ?_⟩, hI.done hH e10 e0 ((uM_fr.rf _).p _ _) (rfl) hE (by omega)⟩
    · exact (uM_push_112 _ z 6 (by decide)).trans ((congrFun (show (q_p (uM_keep S1) 113 (12 + g) 0) 112 = uM_keep S1 112 from rfl) 6).trans (uM_keep_6 S1))
    · exact hE.awake
set_option maxHeartbeats 1000000 in
theorem s_faint (l : Launch) (hst : l.stackTraces = false) : uSt_faint l uInv := by
  intro c S  hc hI
  obtain ⟨⟨M, hT⟩, ⟨i, z, hH⟩, -⟩ := id hI
  have hM8 := hT.M8
  obtain ⟨hi1, hi8, hz1, hz8, hz5, -⟩ := id hH
  have hU : ∀ S1 : q_St, S1 113 = S 113 → uT (1000 * c) M S (uM_keep S1) := fun S1 e => hT.cg (fun _ _ _ => rfl) (by rw [uM_keep_k S1 113 (by decide) (by decide), e])
  have hV : ∀ S1 : q_St, S1 113 = S 113 → uT (1000 * c) M (uH_keep S i z 1) (uM_keep S1) := fun S1 e => (hU S1 e).cg (fun k _ b => uHk S hi8 z k (Or.inl (by omega))) rfl
  have hx := c_X6_faint l hst S M hT.hMA hM8 i z hi1 hi8 hz1 hz8  hT.bool
  have hm : ∀ S1 : q_St, S1 113 = S 113 → S1 112 = S 112 → _ := fun S1 e13 e12 => c_X7_faint l S1 M (by rw [e13]; exact hT.hM) hM8 z (by rw [e12]; exact hz5) hz8 
  unfold uG_faint at hx
  cases ho : uR_fainted S M with
  | some q =>
    rw [ho] at hx
    have k2 := hm (uR_set S q.1 q.2) (uR_set_k S _ _ 113 (by decide)) (uR_set_k S _ _ 112 (by decide))
    have hq := hU (uR_set S q.1 q.2) (uR_set_k S _ _ 113 (by decide))
    unfold uMd_faint at k2
    rw [← hq.rf_faint, ho, show ∀ (U V : q_St) (v : Int32), uM_out U 1 (some q) v V = (0, uM_refuse U 1 q.1 q.2) from fun _ _ _ => rfl, uEnds_f (by rw [uM_refuse_6]; decide)] at k2
    obtain ⟨b1, b2⟩ := hI.refd 1 q.1 q.2
    exact ⟨.inr _, uR_set S q.1 q.2, _, _, w_faint l S _ hx (by intro E h; cases h; simp), k2, ⟨b2.trans (by decide +kernel), by decide +kernel⟩, b1⟩
  | none =>
    rw [ho] at hx
    obtain ⟨S1, hS1⟩ : ∃ S1, S1 = uC_faint (uH_keep S i z 1) := ⟨_, rfl⟩
    have e10 : ∀ k, 10 ≤ k → S1 k = uH_keep S i z 1 k := fun k hk => by rw [hS1]; exact (by unfold uC_faint; simp [q_p, show k ≠ 1 by omega])
    have e0 : S1 0 = S 0 := by rw [hS1, show (uC_faint (uH_keep S i z 1)) 0 = uH_keep S i z 1 0 from (by unfold uC_faint; simp [q_p])]; exact uHk S hi8 z 0 (by decide)
    have e13 : S1 113 = S 113 := (e10 113 (by decide)).trans (uHk S hi8 z 113 (by decide))
    have e12 : S1 112 = S 112 := (e10 112 (by decide)).trans (uHk S hi8 z 112 (by decide))
    have k2 := hm S1 e13 e12
    have hq := hU S1 e13
    have hv := hV S1 e13
    unfold uMd_faint at k2
    have ho' := (hq.rf_faint).symm.trans ho
    rw [ho', show ∀ (U V : q_St) (v : Int32), uM_out U 1 none v V = (v, V) from fun _ _ _ => rfl] at k2
    have hE : uT (1000 * c) M S1 (uM_faint (uM_keep S1)) := by have h9 := hv.t_faint; rw [← hS1] at h9; exact h9
    rw [uEnds_d (T := uM_faint (uM_keep S1)) (by exact (congrFun (show (uM_faint (uM_keep S1)) 112 = uM_keep S1 112 from rfl) 6).trans (uM_keep_6 S1))] at k2
    rw [show ∀ (v : Int32) (V : q_St), uG_req S none v V = (.inl v, V) from fun _ _ => rfl] at hx
    rw [← hS1] at hx
    refine ⟨.inl _, S1, _, _, w_faint l S _ hx (by intro E h; cases h), k2, ⟨?_, ?_⟩, hI.done hH e10 e0 (((uM_fr.rf _).p _ _).p _ _) (rfl) hE (by omega)⟩
    · exact (uM_push_112 _ z 6 (by decide)).trans ((congrFun (show (uM_faint (uM_keep S1)) 112 = uM_keep S1 112 from rfl) 6).trans (uM_keep_6 S1))
    · show uC_matters (uH_keep S i z 1) M 0 = _; rw [← hE.matters 0, hS1]; rfl
set_option maxHeartbeats 1000000 in
theorem s_matter (l : Launch) (hst : l.stackTraces = false) : uSt_matter l uInv := by
  intro c S  hc hI
  obtain ⟨⟨M, hT⟩, ⟨i, z, hH⟩, -⟩ := id hI
  have hM8 := hT.M8
  obtain ⟨hi1, hi8, hz1, hz8, hz5, -⟩ := id hH
  have hU : ∀ S1 : q_St, S1 113 = S 113 → uT (1000 * c) M S (uM_keep S1) := fun S1 e => hT.cg (fun _ _ _ => rfl) (by rw [uM_keep_k S1 113 (by decide) (by decide), e])
  have hV : ∀ S1 : q_St, S1 113 = S 113 → uT (1000 * c) M (uH_keep S i z 1) (uM_keep S1) := fun S1 e => (hU S1 e).cg (fun k _ b => uHk S hi8 z k (Or.inl (by omega))) rfl
  have hx := c_X6_matter l hst S M hT.hMA hM8 i z hi1 hi8 hz1 hz8  hT.bool
  have hm : ∀ S1 : q_St, S1 113 = S 113 → S1 112 = S 112 → _ := fun S1 e13 e12 => c_X7_matter l S1 M (by rw [e13]; exact hT.hM) hM8 z (by rw [e12]; exact hz5) hz8 
  unfold uG_matter at hx
  cases ho : uR_matter M with
  | some q =>
    rw [ho] at hx
    have k2 := hm (uR_set S q.1 q.2) (uR_set_k S _ _ 113 (by decide)) (uR_set_k S _ _ 112 (by decide))
    have hq := hU (uR_set S q.1 q.2) (uR_set_k S _ _ 113 (by decide))
    unfold uMd_matter at k2
    rw [← hq.rf_matter, ho, show ∀ (U V : q_St) (v : Int32), uM_out U 1 (some q) v V = (0, uM_refuse U 1 q.1 q.2) from fun _ _ _ => rfl, uEnds_f (by rw [uM_refuse_6]; decide)] at k2
    obtain ⟨b1, b2⟩ := hI.refd 1 q.1 q.2
    exact ⟨.inr _, uR_set S q.1 q.2, _, _, w_matter l S _ hx (by intro E h; cases h; simp), k2, ⟨b2.trans (by decide +kernel), by decide +kernel⟩, b1⟩
  | none =>
    rw [ho] at hx
    obtain ⟨S1, hS1⟩ : ∃ S1, S1 = q_p (q_p (uH_keep S i z 1) 3 M (uH_keep S i z 1 1 2)) 1 0 (nI (M + 1)) := ⟨_, rfl⟩
    have e10 : ∀ k, 10 ≤ k → S1 k = uH_keep S i z 1 k := fun k hk => by rw [hS1]; exact (by simp [q_p, show k ≠ 1 by omega, show k ≠ 3 by omega])
    have e0 : S1 0 = S 0 := by rw [hS1, show (q_p (q_p (uH_keep S i z 1) 3 M (uH_keep S i z 1 1 2)) 1 0 (nI (M + 1))) 0 = uH_keep S i z 1 0 from (by simp [q_p])]; exact uHk S hi8 z 0 (by decide)
    have e13 : S1 113 = S 113 := (e10 113 (by decide)).trans (uHk S hi8 z 113 (by decide))
    have e12 : S1 112 = S 112 := (e10 112 (by decide)).trans (uHk S hi8 z 112 (by decide))
    have k2 := hm S1 e13 e12
    have hq := hU S1 e13
    have hv := hV S1 e13
    unfold uMd_matter at k2
    have ho' := (hq.rf_matter).symm.trans ho
    rw [ho', show ∀ (U V : q_St) (v : Int32), uM_out U 1 none v V = (v, V) from fun _ _ _ => rfl] at k2
    have f1 : M < 8 := Nat.lt_of_not_le (fun q => by have q9 : M = 8 := by {omega}; unfold uMr_matter at ho'; rw [if_pos q9] at ho'; cases ho')
    have hE : uT (1000 * c) (M + 1) S1 (uM_newm (uM_keep S1) M) := by have h9 := hv.t_matter f1; rw [← hS1] at h9; exact h9
    rw [uEnds_d (T := uM_newm (uM_keep S1) M) (by exact (congrFun (show (uM_newm (uM_keep S1) M) 112 = uM_keep S1 112 from (by unfold uM_newm; rw [show ∀ (U : q_St) (a b : Nat) (x y : Int32), q_p (q_p U 113 a x) 113 b y 112 = U 112 from fun U a b x y => by simp [q_p]]; exact uM_z_k _ _ 112 (by decide) 14)) 6).trans (uM_keep_6 S1))] at k2
    rw [show ∀ (v : Int32) (V : q_St), uG_req S none v V = (.inl v, V) from fun _ _ => rfl] at hx
    rw [← hS1] at hx
    refine ⟨.inl _, S1, _, _, w_matter l S _ hx (by intro E h; cases h), k2, ⟨?_, ?_⟩, hI.done hH e10 e0 (((uM_fr.z (uM_fr.rf _) M 14).p _ _).p _ _) ((by unfold uM_newm; rw [show ∀ (U : q_St) (a b : Nat) (x y : Int32), q_p (q_p U 113 a x) 113 b y 112 = U 112 from fun U a b x y => by simp [q_p]]; exact uM_z_k _ _ 112 (by decide) 14)) hE (by omega)⟩
    · exact (uM_push_112 _ z 6 (by decide)).trans ((congrFun (show (uM_newm (uM_keep S1) M) 112 = uM_keep S1 112 from (by unfold uM_newm; rw [show ∀ (U : q_St) (a b : Nat) (x y : Int32), q_p (q_p U 113 a x) 113 b y 112 = U 112 from fun U a b x y => by simp [q_p]]; exact uM_z_k _ _ 112 (by decide) 14)) 6).trans (uM_keep_6 S1))
    · rfl
set_option maxHeartbeats 1000000 in
theorem s_pass (l : Launch) (hst : l.stackTraces = false) : uSt_pass l uInv := by
  intro c S h hc hI
  obtain ⟨⟨M, hT⟩, ⟨i, z, hH⟩, -⟩ := id hI
  have hM8 := hT.M8
  obtain ⟨hi1, hi8, hz1, hz8, hz5, -⟩ := id hH
  have hU : ∀ S1 : q_St, S1 113 = S 113 → uT (1000 * c) M S (uM_keep S1) := fun S1 e => hT.cg (fun _ _ _ => rfl) (by rw [uM_keep_k S1 113 (by decide) (by decide), e])
  have hV : ∀ S1 : q_St, S1 113 = S 113 → uT (1000 * c) M (uH_keep S i z 1) (uM_keep S1) := fun S1 e => (hU S1 e).cg (fun k _ b => uHk S hi8 z k (Or.inl (by omega))) rfl
  have hx := c_X6_pass l hst S M hT.hMA hM8 i z hi1 hi8 hz1 hz8 h hT.bool
  have hm : ∀ S1 : q_St, S1 113 = S 113 → S1 112 = S 112 → _ := fun S1 e13 e12 => c_X7_pass l S1 M (by rw [e13]; exact hT.hM) hM8 z (by rw [e12]; exact hz5) hz8 h
  unfold uG_pass at hx
  by_cases h1 : 1 ≤ h ∧ h ≤ 24
  rotate_left
  · have k2 := hm S rfl rfl
    unfold uMd_pass at k2
    rw [if_neg h1] at k2 hx
    rw [show uM_bad (uM_keep S) 1 = (0, q_p (uM_keep S) 112 6 1) from rfl, uEnds_f (by rw [q_p_on]; decide)] at k2
    obtain ⟨b1, b2⟩ := hI.bad 1
    exact ⟨.inr _, S, _, _, w_pass l S _ _ hx (by intro E h; cases h; simp), k2, ⟨b2.trans (by decide +kernel), by decide +kernel⟩, b1⟩
  rw [if_pos h1] at hx
  obtain ⟨n, hn9, rfl⟩ := uN_le (k := 24) ⟨Int32.le_trans (by decide) h1.1, h1.2⟩ (by omega)
  obtain ⟨S1, hS1⟩ : ∃ S1, S1 = uC_pass (uH_keep S i z 1) M (nI n) := ⟨_, rfl⟩
  have e10 : ∀ k, 10 ≤ k → S1 k = uH_keep S i z 1 k := fun k hk => by rw [hS1]; exact (by unfold uC_pass; rw [uC_ps_ne _ M _ k (by omega) 6]; simp [q_p, show k ≠ 1 by omega])
  have e0 : S1 0 = S 0 := by rw [hS1, show (uC_pass (uH_keep S i z 1) M (nI n)) 0 = uH_keep S i z 1 0 from (by unfold uC_pass; rw [uC_ps_ne _ M _ 0 (by decide) 6]; simp [q_p])]; exact uHk S hi8 z 0 (by decide)
  have e13 : S1 113 = S 113 := (e10 113 (by decide)).trans (uHk S hi8 z 113 (by decide))
  have e12 : S1 112 = S 112 := (e10 112 (by decide)).trans (uHk S hi8 z 112 (by decide))
  have k2 := hm S1 e13 e12
  have hq := hU S1 e13
  have hv := hV S1 e13
  unfold uMd_pass at k2
  rw [if_pos h1] at k2
  have hE : uT (1000 * c + 24) M S1 (uM_pass (uM_keep S1) M (nI n)) := by have h9 := hv.t_pass rfl hn9 (by omega); rw [← hS1] at h9; exact h9
  rw [uEnds_d (T := uM_pass (uM_keep S1) M (nI n)) (by exact (congrFun (show (uM_pass (uM_keep S1) M (nI n)) 112 = uM_keep S1 112 from (by unfold uM_pass; rw [show ∀ (U : q_St) (a : Nat) (x : Int32), q_p U 113 a x 112 = U 112 from fun U a x => by simp [q_p]]; exact uM_ps_k _ _ _ 112 (by decide) 6)) 6).trans (uM_keep_6 S1))] at k2
  rw [← hS1] at hx
  refine ⟨.inl _, S1, _, _, w_pass l S _ _ hx (by intro E h; cases h), k2, ⟨?_, ?_⟩, hI.done hH e10 e0 ((uM_fr.ps (uM_fr.rf _) M (nI n) 6).p _ _) ((by unfold uM_pass; rw [show ∀ (U : q_St) (a : Nat) (x : Int32), q_p U 113 a x 112 = U 112 from fun U a x => by simp [q_p]]; exact uM_ps_k _ _ _ 112 (by decide) 6)) hE (by omega)⟩
  · exact (uM_push_112 _ z 6 (by decide)).trans ((congrFun (show (uM_pass (uM_keep S1) M (nI n)) 112 = uM_keep S1 112 from (by unfold uM_pass; rw [show ∀ (U : q_St) (a : Nat) (x : Int32), q_p U 113 a x 112 = U 112 from fun U a x => by simp [q_p]]; exact uM_ps_k _ _ _ 112 (by decide) 6)) 6).trans (uM_keep_6 S1))
  · exact q_sum_cg 6 (fun g hg => hv.psf (nI n) hg)
