
/-! the public changes -/
theorem uEnds_f {v : Int32} {T : q_St} {z : Nat} (h : 0 < T 112 6) : uM_ends (v, T) z = (0, uM_back T) := if_pos h
theorem uEnds_d {v : Int32} {T : q_St} {z : Nat} (h : T 112 6 = 0) : uM_ends (v, T) z = (v, uM_push T z) := if_neg (by show ¬ 0 < T 112 6; rw [h]; decide)
theorem uM_keep_6 (S : q_St) : uM_keep S 112 6 = 0 := by rw [uM_keep_112]; exact if_pos rfl
theorem uM_keep_7 (S : q_St) {j : Nat} (hj : j ≠ 6) : uM_keep S 112 j = S 112 j := by rw [uM_keep_112]; exact if_neg hj
theorem uInv.bad {c : Nat} {S : q_St} (h : uInv c S) (p : Int32) : uInv (c + 1) (uM_back (q_p (uM_keep S) 112 6 p)) ∧ uM_back (q_p (uM_keep S) 112 6 p) 112 6 = p := by
  refine ⟨h.fail (S1 := S) (fun _ _ => rfl) ((uM_fr.rf _).x 6 p (by omega) (by omega)) ?_ ⟨?_, ?_⟩, ?_⟩
  · show q_p (uM_keep S) 112 6 p 113 = S 113
    rw [show q_p (uM_keep S) 112 6 p 113 = uM_keep S 113 by simp [q_p], uM_keep_k S 113 (by decide) (by decide)]
  · rw [q_p_off _ _ _ _ _ _ (Or.inr (by decide)), uM_keep_7 S (by decide)]; exact h.2.2.2.1.1
  · rw [q_p_off _ _ _ _ _ _ (Or.inr (by decide)), uM_keep_7 S (by decide)]; exact h.2.2.2.1.2
  · rw [uM_back_k _ 112 (by decide), q_p_on]
theorem uR_set_k (S : q_St) (a b : Int32) (k : Nat) (h : k ≠ 102) : uR_set S a b k = S k := by
  unfold uR_set
  simp [q_p, h]
theorem uInv.refd {c : Nat} {S : q_St} (h : uInv c S) (p a b : Int32) : uInv (c + 1) (uM_back (uM_refuse (uM_keep (uR_set S a b)) p a b)) ∧ uM_back (uM_refuse (uM_keep (uR_set S a b)) p a b) 112 6 = p := by
  refine ⟨h.fail (S1 := uR_set S a b) (fun k hk => uR_set_k S a b k hk) ((uM_fr.rf _).refuse p a b) ?_ ⟨?_, ?_⟩, ?_⟩
  · unfold uM_refuse
    rw [show ∀ U : q_St, q_p (q_p (q_p (q_p U 112 6 p) 112 9 1) 112 7 a) 112 8 b 113 = U 113 from fun U => by simp [q_p], uM_keep_k _ 113 (by decide) (by decide)]
  · unfold uM_refuse uR_set
    rw [q_p_off _ _ _ _ _ _ (Or.inr (by decide)), q_p_on, q_p_off _ _ _ _ _ _ (Or.inr (by decide)), q_p_on]
  · unfold uM_refuse uR_set
    rw [q_p_on, q_p_on]
  · rw [uM_back_k _ 112 (by decide)]
    unfold uM_refuse
    rw [q_p_off _ _ _ _ _ _ (Or.inr (by decide)), q_p_off _ _ _ _ _ _ (Or.inr (by decide)), q_p_off _ _ _ _ _ _ (Or.inr (by decide)), q_p_on]
theorem uM_refuse_6 (U : q_St) (p a b : Int32) : uM_refuse U p a b 112 6 = p := by
  unfold uM_refuse
  rw [q_p_off _ _ _ _ _ _ (Or.inr (by decide)), q_p_off _ _ _ _ _ _ (Or.inr (by decide)), q_p_off _ _ _ _ _ _ (Or.inr (by decide)), q_p_on]
theorem u_ifc {p q : Prop} [Decidable p] [Decidable q] (h : p ↔ q) {a b : Int32} : (if p then a else b) = if q then a else b := by
  by_cases c : p
  · rw [if_pos c, if_pos (h.mp c)]
  · rw [if_neg c, if_neg (fun x => c (h.mpr x))]
theorem uHk (S : q_St) {i : Nat} (hi : i < 8) (z k : Nat) (h : k < 28 ∨ 102 ≤ k) : uH_keep S i z 1 k = S k := uH_keep_k S i z 1 k h hi
set_option maxHeartbeats 1000000 in
theorem s_set (l : Launch) (hst : l.stackTraces = false) : uSt_set l uInv := by
  intro c S x y a hc hI
  obtain ⟨⟨M, hT⟩, ⟨i, z, hH⟩, -⟩ := id hI
  have hM8 := hT.M8
  obtain ⟨hi1, hi8, hz1, hz8, hz5, -⟩ := id hH
  have hU : ∀ S1 : q_St, S1 113 = S 113 → uT (1000 * c) M S (uM_keep S1) := fun S1 e => hT.cg (fun _ _ _ => rfl) (by rw [uM_keep_k S1 113 (by decide) (by decide), e])
  have hV : ∀ S1 : q_St, S1 113 = S 113 → uT (1000 * c) M (uH_keep S i z 1) (uM_keep S1) := fun S1 e => (hU S1 e).cg (fun k _ b => uHk S hi8 z k (Or.inl (by omega))) rfl
  have hx := c_X6_set l hst S M hT.hMA hM8 i z hi1 hi8 hz1 hz8 x y a hT.bool
  have hm : ∀ S1 : q_St, S1 113 = S 113 → S1 112 = S 112 → _ := fun S1 e13 e12 => c_X7_set l S1 M (by rw [e13]; exact hT.hM) hM8 z (by rw [e12]; exact hz5) hz8 x y a
  unfold uG_set at hx
  rw [hT.hMA] at hx
  by_cases h1 : 0 ≤ x ∧ x < nI M
  rotate_left
  · have k2 := hm S rfl rfl
    unfold uMd_set at k2
    rw [if_neg h1] at k2 hx
    rw [show uM_bad (uM_keep S) 1 = (0, q_p (uM_keep S) 112 6 1) from rfl, uEnds_f (by rw [q_p_on]; decide)] at k2
    obtain ⟨b1, b2⟩ := hI.bad 1
    exact ⟨.inr _, S, _, _, w_set l S _ _ _ _ hx (by intro E h; cases h; simp), k2, ⟨b2.trans (by decide +kernel), by decide +kernel⟩, b1⟩
  by_cases h2 : 0 ≤ y ∧ y < 6
  rotate_left
  · have k2 := hm S rfl rfl
    unfold uMd_set at k2
    rw [if_pos h1, if_neg h2] at k2 hx
    rw [show uM_bad (uM_keep S) 1 = (0, q_p (uM_keep S) 112 6 1) from rfl, uEnds_f (by rw [q_p_on]; decide)] at k2
    obtain ⟨b1, b2⟩ := hI.bad 1
    exact ⟨.inr _, S, _, _, w_set l S _ _ _ _ hx (by intro E h; cases h; simp), k2, ⟨b2.trans (by decide +kernel), by decide +kernel⟩, b1⟩
  by_cases h3 : -50 ≤ a ∧ a ≤ 50
  rotate_left
  · have k2 := hm S rfl rfl
    unfold uMd_set at k2
    rw [if_pos h1, if_pos h2, if_neg h3] at k2 hx
    rw [show uM_bad (uM_keep S) 2 = (0, q_p (uM_keep S) 112 6 2) from rfl, uEnds_f (by rw [q_p_on]; decide)] at k2
    obtain ⟨b1, b2⟩ := hI.bad 2
    exact ⟨.inr _, S, _, _, w_set l S _ _ _ _ hx (by intro E h; cases h; simp), k2, ⟨b2.trans (by decide +kernel), by decide +kernel⟩, b1⟩
  rw [if_pos h1, if_pos h2, if_pos h3] at hx
  obtain ⟨m, hm9, rfl⟩ := uK_okX rfl (by omega) h1
  obtain ⟨g, hg9, rfl⟩ := uK_okG h2
  rw [uN_nI (by omega), uN_nI (by omega)] at hx
  cases ho : uR_setA S m g a with
  | some q =>
    rw [ho] at hx
    have k2 := hm (uR_set S q.1 q.2) (uR_set_k S _ _ 113 (by decide)) (uR_set_k S _ _ 112 (by decide))
    have hq := hU (uR_set S q.1 q.2) (uR_set_k S _ _ 113 (by decide))
    unfold uMd_set at k2
    rw [if_pos h1, if_pos h2, if_pos h3] at k2
    rw [uN_nI (by omega), uN_nI (by omega)] at k2
    rw [← hq.rf_set (by omega) hg9 a, ho, show ∀ (U V : q_St) (v : Int32), uM_out U 3 (some q) v V = (0, uM_refuse U 3 q.1 q.2) from fun _ _ _ => rfl, uEnds_f (by rw [uM_refuse_6]; decide)] at k2
    obtain ⟨b1, b2⟩ := hI.refd 3 q.1 q.2
    exact ⟨.inr _, uR_set S q.1 q.2, _, _, w_set l S _ _ _ _ hx (by intro E h; cases h; simp), k2, ⟨b2.trans (by decide +kernel), by decide +kernel⟩, b1⟩
  | none =>
    rw [ho] at hx
    obtain ⟨S1, hS1⟩ : ∃ S1, S1 = q_p (uH_keep S i z 1) 5 (m * 6 + g) a := ⟨_, rfl⟩
    have e10 : ∀ k, 10 ≤ k → S1 k = uH_keep S i z 1 k := fun k hk => by rw [hS1]; exact (by simp [q_p, show k ≠ 5 by omega])
    have e0 : S1 0 = S 0 := by rw [hS1, show (q_p (uH_keep S i z 1) 5 (m * 6 + g) a) 0 = uH_keep S i z 1 0 from (by simp [q_p])]; exact uHk S hi8 z 0 (by decide)
    have e13 : S1 113 = S 113 := (e10 113 (by decide)).trans (uHk S hi8 z 113 (by decide))
    have e12 : S1 112 = S 112 := (e10 112 (by decide)).trans (uHk S hi8 z 112 (by decide))
    have k2 := hm S1 e13 e12
    have hq := hU S1 e13
    have hv := hV S1 e13
    unfold uMd_set at k2
    rw [if_pos h1, if_pos h2, if_pos h3] at k2
    rw [uN_nI (by omega), uN_nI (by omega)] at k2
    have ho' := (hq.rf_set (by omega) hg9 a).symm.trans ho
    rw [ho', show ∀ (U V : q_St) (v : Int32), uM_out U 3 none v V = (v, V) from fun _ _ _ => rfl] at k2
    have f1 : ¬ 0 < uM_cnt (uM_keep S1) m 1 4 := fun q => (by unfold uMr_set at ho'; rw [if_pos q] at ho'; (repeat' (split at ho')); all_goals cases ho')
    have hE : uT (1000 * c) M S1 (q_p (uM_keep S1) 113 (32 + 14 * m + 2 + g) a) := by have h9 := hv.t_set hm9 hg9 h3 f1; rw [← hS1] at h9; exact h9
    rw [uEnds_d (T := q_p (uM_keep S1) 113 (32 + 14 * m + 2 + g) a) (by exact (congrFun (show (q_p (uM_keep S1) 113 (32 + 14 * m + 2 + g) a) 112 = uM_keep S1 112 from rfl) 6).trans (uM_keep_6 S1))] at k2
    rw [show ∀ (v : Int32) (V : q_St), uG_req S none v V = (.inl v, V) from fun _ _ => rfl] at hx
    rw [← hS1] at hx
    refine ⟨.inl _, S1, _, _, w_set l S _ _ _ _ hx (by intro E h; cases h), k2, ⟨?_, ?_⟩, hI.done hH e10 e0 ((uM_fr.rf _).p _ _) (rfl) hE (by omega)⟩
    · exact (uM_push_112 _ z 6 (by decide)).trans ((congrFun (show (q_p (uM_keep S1) 113 (32 + 14 * m + 2 + g) a) 112 = uM_keep S1 112 from rfl) 6).trans (uM_keep_6 S1))
    · exact hE.guilds (by omega)
set_option maxHeartbeats 1000000 in
theorem s_ask (l : Launch) (hst : l.stackTraces = false) : uSt_ask l uInv := by
  intro c S x y hc hI
  obtain ⟨⟨M, hT⟩, ⟨i, z, hH⟩, -⟩ := id hI
  have hM8 := hT.M8
  obtain ⟨hi1, hi8, hz1, hz8, hz5, -⟩ := id hH
  have hU : ∀ S1 : q_St, S1 113 = S 113 → uT (1000 * c) M S (uM_keep S1) := fun S1 e => hT.cg (fun _ _ _ => rfl) (by rw [uM_keep_k S1 113 (by decide) (by decide), e])
  have hV : ∀ S1 : q_St, S1 113 = S 113 → uT (1000 * c) M (uH_keep S i z 1) (uM_keep S1) := fun S1 e => (hU S1 e).cg (fun k _ b => uHk S hi8 z k (Or.inl (by omega))) rfl
  have hx := c_X6_ask l hst S M hT.hMA hM8 i z hi1 hi8 hz1 hz8 x y hT.bool
  have hm : ∀ S1 : q_St, S1 113 = S 113 → S1 112 = S 112 → _ := fun S1 e13 e12 => c_X7_ask l S1 M (by rw [e13]; exact hT.hM) hM8 z (by rw [e12]; exact hz5) hz8 x y
  unfold uG_ask at hx
  rw [hT.hMA] at hx
  by_cases h1 : 0 ≤ x ∧ x < nI M
  rotate_left
  · have k2 := hm S rfl rfl
    unfold uMd_ask at k2
    rw [if_neg h1] at k2 hx
    rw [show uM_bad (uM_keep S) 1 = (0, q_p (uM_keep S) 112 6 1) from rfl, uEnds_f (by rw [q_p_on]; decide)] at k2
    obtain ⟨b1, b2⟩ := hI.bad 1
    exact ⟨.inr _, S, _, _, w_ask l S _ _ _ hx (by intro E h; cases h; simp), k2, ⟨b2.trans (by decide +kernel), by decide +kernel⟩, b1⟩
  by_cases h2 : 0 ≤ y ∧ y < 6
  rotate_left
  · have k2 := hm S rfl rfl
    unfold uMd_ask at k2
    rw [if_pos h1, if_neg h2] at k2 hx
    rw [show uM_bad (uM_keep S) 2 = (0, q_p (uM_keep S) 112 6 2) from rfl, uEnds_f (by rw [q_p_on]; decide)] at k2
    obtain ⟨b1, b2⟩ := hI.bad 2
    exact ⟨.inr _, S, _, _, w_ask l S _ _ _ hx (by intro E h; cases h; simp), k2, ⟨b2.trans (by decide +kernel), by decide +kernel⟩, b1⟩
  rw [if_pos h1, if_pos h2] at hx
  obtain ⟨m, hm9, rfl⟩ := uK_okX rfl (by omega) h1
  obtain ⟨g, hg9, rfl⟩ := uK_okG h2
  rw [uN_nI (by omega), uN_nI (by omega)] at hx
  cases ho : uR_ask S M m g with
  | some q =>
    rw [ho] at hx
    have k2 := hm (uR_set S q.1 q.2) (uR_set_k S _ _ 113 (by decide)) (uR_set_k S _ _ 112 (by decide))
    have hq := hU (uR_set S q.1 q.2) (uR_set_k S _ _ 113 (by decide))
    unfold uMd_ask at k2
    rw [if_pos h1, if_pos h2] at k2
    rw [uN_nI (by omega), uN_nI (by omega)] at k2
    rw [← hq.rf_ask (by omega) hg9, ho, show ∀ (U V : q_St) (v : Int32), uM_out U 3 (some q) v V = (0, uM_refuse U 3 q.1 q.2) from fun _ _ _ => rfl, uEnds_f (by rw [uM_refuse_6]; decide)] at k2
    obtain ⟨b1, b2⟩ := hI.refd 3 q.1 q.2
    exact ⟨.inr _, uR_set S q.1 q.2, _, _, w_ask l S _ _ _ hx (by intro E h; cases h; simp), k2, ⟨b2.trans (by decide +kernel), by decide +kernel⟩, b1⟩
  | none =>
    rw [ho] at hx
    obtain ⟨S1, hS1⟩ : ∃ S1, S1 = uC_ask (uH_keep S i z 1) M m g := ⟨_, rfl⟩
    have e10 : ∀ k, 10 ≤ k → S1 k = uH_keep S i z 1 k := fun k hk => by rw [hS1]; exact (by unfold uC_ask; simp [q_p, show k ≠ 6 by omega])
    have e0 : S1 0 = S 0 := by rw [hS1, show (uC_ask (uH_keep S i z 1) M m g) 0 = uH_keep S i z 1 0 from (by unfold uC_ask; simp [q_p])]; exact uHk S hi8 z 0 (by decide)
    have e13 : S1 113 = S 113 := (e10 113 (by decide)).trans (uHk S hi8 z 113 (by decide))
    have e12 : S1 112 = S 112 := (e10 112 (by decide)).trans (uHk S hi8 z 112 (by decide))
    have k2 := hm S1 e13 e12
    have hq := hU S1 e13
    have hv := hV S1 e13
    unfold uMd_ask at k2
    rw [if_pos h1, if_pos h2] at k2
    rw [uN_nI (by omega), uN_nI (by omega)] at k2
    have ho' := (hq.rf_ask (by omega) hg9).symm.trans ho
    rw [ho', show ∀ (U V : q_St) (v : Int32), uM_out U 3 none v V = (v, V) from fun _ _ _ => rfl] at k2
    have f1 : uM_am (uM_keep S1) m g ≠ 0 := fun q => (by unfold uMr_ask at ho'; rw [if_pos q] at ho'; (repeat' (split at ho')); all_goals cases ho')
    have f2 : uM_an (uM_keep S1) m g = 0 := Decidable.byContradiction fun q => (by unfold uMr_ask at ho'; rw [if_pos q] at ho'; (repeat' (split at ho')); all_goals cases ho')
    have hE : uT (1000 * c) M S1 (uM_ask (uM_keep S1) M m g) := by have h9 := hv.t_ask hm9 hg9 f1 f2; rw [← hS1] at h9; exact h9
    rw [uEnds_d (T := uM_ask (uM_keep S1) M m g) (by exact (congrFun (show (uM_ask (uM_keep S1) M m g) 112 = uM_keep S1 112 from rfl) 6).trans (uM_keep_6 S1))] at k2
    rw [show ∀ (v : Int32) (V : q_St), uG_req S none v V = (.inl v, V) from fun _ _ => rfl] at hx
    rw [← hS1] at hx
    refine ⟨.inl _, S1, _, _, w_ask l S _ _ _ hx (by intro E h; cases h), k2, ⟨?_, ?_⟩, hI.done hH e10 e0 ((uM_fr.rf _).p _ _) (rfl) hE (by omega)⟩
    · exact (uM_push_112 _ z 6 (by decide)).trans ((congrFun (show (uM_ask (uM_keep S1) M m g) 112 = uM_keep S1 112 from rfl) 6).trans (uM_keep_6 S1))
    · exact u_ifc (hv.would (by omega) hg9)
set_option maxHeartbeats 1000000 in
theorem s_tell (l : Launch) (hst : l.stackTraces = false) : uSt_tell l uInv := by
  intro c S x y hc hI
  obtain ⟨⟨M, hT⟩, ⟨i, z, hH⟩, -⟩ := id hI
  have hM8 := hT.M8
  obtain ⟨hi1, hi8, hz1, hz8, hz5, -⟩ := id hH
  have hU : ∀ S1 : q_St, S1 113 = S 113 → uT (1000 * c) M S (uM_keep S1) := fun S1 e => hT.cg (fun _ _ _ => rfl) (by rw [uM_keep_k S1 113 (by decide) (by decide), e])
  have hV : ∀ S1 : q_St, S1 113 = S 113 → uT (1000 * c) M (uH_keep S i z 1) (uM_keep S1) := fun S1 e => (hU S1 e).cg (fun k _ b => uHk S hi8 z k (Or.inl (by omega))) rfl
  have hx := c_X6_tell l hst S M hT.hMA hM8 i z hi1 hi8 hz1 hz8 x y hT.bool
  have hm : ∀ S1 : q_St, S1 113 = S 113 → S1 112 = S 112 → _ := fun S1 e13 e12 => c_X7_tell l S1 M (by rw [e13]; exact hT.hM) hM8 z (by rw [e12]; exact hz5) hz8 x y
  unfold uG_tell at hx
  rw [hT.hMA] at hx
  by_cases h1 : 0 ≤ x ∧ x < nI M
  rotate_left
  · have k2 := hm S rfl rfl
    unfold uMd_tell at k2
    rw [if_neg h1] at k2 hx
    rw [show uM_bad (uM_keep S) 1 = (0, q_p (uM_keep S) 112 6 1) from rfl, uEnds_f (by rw [q_p_on]; decide)] at k2
    obtain ⟨b1, b2⟩ := hI.bad 1
    exact ⟨.inr _, S, _, _, w_tell l S _ _ _ hx (by intro E h; cases h; simp), k2, ⟨b2.trans (by decide +kernel), by decide +kernel⟩, b1⟩
  by_cases h2 : 0 ≤ y ∧ y < 6
  rotate_left
  · have k2 := hm S rfl rfl
    unfold uMd_tell at k2
    rw [if_pos h1, if_neg h2] at k2 hx
    rw [show uM_bad (uM_keep S) 2 = (0, q_p (uM_keep S) 112 6 2) from rfl, uEnds_f (by rw [q_p_on]; decide)] at k2
    obtain ⟨b1, b2⟩ := hI.bad 2
    exact ⟨.inr _, S, _, _, w_tell l S _ _ _ hx (by intro E h; cases h; simp), k2, ⟨b2.trans (by decide +kernel), by decide +kernel⟩, b1⟩
  rw [if_pos h1, if_pos h2] at hx
  obtain ⟨m, hm9, rfl⟩ := uK_okX rfl (by omega) h1
  obtain ⟨g, hg9, rfl⟩ := uK_okG h2
  rw [uN_nI (by omega), uN_nI (by omega)] at hx
  cases ho : uR_tell S M m g with
  | some q =>
    rw [ho] at hx
    have k2 := hm (uR_set S q.1 q.2) (uR_set_k S _ _ 113 (by decide)) (uR_set_k S _ _ 112 (by decide))
    have hq := hU (uR_set S q.1 q.2) (uR_set_k S _ _ 113 (by decide))
    unfold uMd_tell at k2
    rw [if_pos h1, if_pos h2] at k2
    rw [uN_nI (by omega), uN_nI (by omega)] at k2
    rw [← hq.rf_tell (by omega) hg9, ho, show ∀ (U V : q_St) (v : Int32), uM_out U 3 (some q) v V = (0, uM_refuse U 3 q.1 q.2) from fun _ _ _ => rfl, uEnds_f (by rw [uM_refuse_6]; decide)] at k2
    obtain ⟨b1, b2⟩ := hI.refd 3 q.1 q.2
    exact ⟨.inr _, uR_set S q.1 q.2, _, _, w_tell l S _ _ _ hx (by intro E h; cases h; simp), k2, ⟨b2.trans (by decide +kernel), by decide +kernel⟩, b1⟩
  | none =>
    rw [ho] at hx
    obtain ⟨S1, hS1⟩ : ∃ S1, S1 = uC_tell (uH_keep S i z 1) m g := ⟨_, rfl⟩
    have e10 : ∀ k, 10 ≤ k → S1 k = uH_keep S i z 1 k := fun k hk => by rw [hS1]; exact (by unfold uC_tell uC_seal; split <;> simp [q_p, show k ≠ 6 by omega, show k ≠ 7 by omega])
    have e0 : S1 0 = S 0 := by rw [hS1, show (uC_tell (uH_keep S i z 1) m g) 0 = uH_keep S i z 1 0 from (by unfold uC_tell uC_seal; split <;> simp [q_p])]; exact uHk S hi8 z 0 (by decide)
    have e13 : S1 113 = S 113 := (e10 113 (by decide)).trans (uHk S hi8 z 113 (by decide))
    have e12 : S1 112 = S 112 := (e10 112 (by decide)).trans (uHk S hi8 z 112 (by decide))
    have k2 := hm S1 e13 e12
    have hq := hU S1 e13
    have hv := hV S1 e13
    unfold uMd_tell at k2
    rw [if_pos h1, if_pos h2] at k2
    rw [uN_nI (by omega), uN_nI (by omega)] at k2
    have ho' := (hq.rf_tell (by omega) hg9).symm.trans ho
    rw [ho', show ∀ (U V : q_St) (v : Int32), uM_out U 3 none v V = (v, V) from fun _ _ _ => rfl] at k2
    have f1 : uM_am (uM_keep S1) m g ≠ 0 := fun q => (by unfold uMr_tell at ho'; rw [if_pos q] at ho'; (repeat' (split at ho')); all_goals cases ho')
    have f2 : ¬ 3 ≤ uM_an (uM_keep S1) m g := fun q => (by unfold uMr_tell at ho'; rw [if_pos q] at ho'; (repeat' (split at ho')); all_goals cases ho')
    have hE : uT (1000 * c) M S1 (uM_tell (uM_keep S1) m g) := by have h9 := hv.t_tell hm9 hg9 f1 f2; rw [← hS1] at h9; exact h9
    rw [uEnds_d (T := uM_tell (uM_keep S1) m g) (by exact (congrFun (show (uM_tell (uM_keep S1) m g) 112 = uM_keep S1 112 from (by unfold uM_tell uM_hear1 uM_hear0; split <;> simp [q_p])) 6).trans (uM_keep_6 S1))] at k2
    rw [show ∀ (v : Int32) (V : q_St), uG_req S none v V = (.inl v, V) from fun _ _ => rfl] at hx
    rw [← hS1] at hx
    refine ⟨.inl _, S1, _, _, w_tell l S _ _ _ hx (by intro E h; cases h), k2, ⟨?_, ?_⟩, hI.done hH e10 e0 (uM_fr.tell (uM_fr.rf _) m g) ((by unfold uM_tell uM_hear1 uM_hear0; split <;> simp [q_p])) hE (by omega)⟩
    · exact (uM_push_112 _ z 6 (by decide)).trans ((congrFun (show (uM_tell (uM_keep S1) m g) 112 = uM_keep S1 112 from (by unfold uM_tell uM_hear1 uM_hear0; split <;> simp [q_p])) 6).trans (uM_keep_6 S1))
    · exact hE.coin hg9
set_option maxHeartbeats 1000000 in
theorem s_inquire (l : Launch) (hst : l.stackTraces = false) : uSt_inquire l uInv := by
  intro c S x y w hc hI
  obtain ⟨⟨M, hT⟩, ⟨i, z, hH⟩, -⟩ := id hI
  have hM8 := hT.M8
  obtain ⟨hi1, hi8, hz1, hz8, hz5, -⟩ := id hH
  have hU : ∀ S1 : q_St, S1 113 = S 113 → uT (1000 * c) M S (uM_keep S1) := fun S1 e => hT.cg (fun _ _ _ => rfl) (by rw [uM_keep_k S1 113 (by decide) (by decide), e])
  have hV : ∀ S1 : q_St, S1 113 = S 113 → uT (1000 * c) M (uH_keep S i z 1) (uM_keep S1) := fun S1 e => (hU S1 e).cg (fun k _ b => uHk S hi8 z k (Or.inl (by omega))) rfl
  have hx := c_X6_inquire l hst S M hT.hMA hM8 i z hi1 hi8 hz1 hz8 x y w hT.bool
  have hm : ∀ S1 : q_St, S1 113 = S 113 → S1 112 = S 112 → _ := fun S1 e13 e12 => c_X7_inquire l S1 M (by rw [e13]; exact hT.hM) hM8 z (by rw [e12]; exact hz5) hz8 x y w
  unfold uG_inq at hx
  rw [hT.hMA] at hx
  by_cases h1 : 0 ≤ x ∧ x < nI M
  rotate_left
  · have k2 := hm S rfl rfl
    unfold uMd_inq at k2
    rw [if_neg h1] at k2 hx
    rw [show uM_bad (uM_keep S) 1 = (0, q_p (uM_keep S) 112 6 1) from rfl, uEnds_f (by rw [q_p_on]; decide)] at k2
    obtain ⟨b1, b2⟩ := hI.bad 1
    exact ⟨.inr _, S, _, _, w_inquire l S _ _ _ _ hx (by intro E h; cases h; simp), k2, ⟨b2.trans (by decide +kernel), by decide +kernel⟩, b1⟩
  by_cases h2 : 0 ≤ y ∧ y < 6
  rotate_left
  · have k2 := hm S rfl rfl
    unfold uMd_inq at k2
    rw [if_pos h1, if_neg h2] at k2 hx
    rw [show uM_bad (uM_keep S) 2 = (0, q_p (uM_keep S) 112 6 2) from rfl, uEnds_f (by rw [q_p_on]; decide)] at k2
    obtain ⟨b1, b2⟩ := hI.bad 2
    exact ⟨.inr _, S, _, _, w_inquire l S _ _ _ _ hx (by intro E h; cases h; simp), k2, ⟨b2.trans (by decide +kernel), by decide +kernel⟩, b1⟩
  by_cases h3 : 0 ≤ w ∧ w < 6
  rotate_left
  · have k2 := hm S rfl rfl
    unfold uMd_inq at k2
    rw [if_pos h1, if_pos h2, if_neg h3] at k2 hx
    rw [show uM_bad (uM_keep S) 2 = (0, q_p (uM_keep S) 112 6 2) from rfl, uEnds_f (by rw [q_p_on]; decide)] at k2
    obtain ⟨b1, b2⟩ := hI.bad 2
    exact ⟨.inr _, S, _, _, w_inquire l S _ _ _ _ hx (by intro E h; cases h; simp), k2, ⟨b2.trans (by decide +kernel), by decide +kernel⟩, b1⟩
  rw [if_pos h1, if_pos h2, if_pos h3] at hx
  obtain ⟨m, hm9, rfl⟩ := uK_okX rfl (by omega) h1
  obtain ⟨g, hg9, rfl⟩ := uK_okG h2
  obtain ⟨o, ho9, rfl⟩ := uK_okG h3
  rw [uN_nI (by omega), uN_nI (by omega), uN_nI (by omega)] at hx
  cases ho : uR_inq S m g o with
  | some q =>
    rw [ho] at hx
    have k2 := hm (uR_set S q.1 q.2) (uR_set_k S _ _ 113 (by decide)) (uR_set_k S _ _ 112 (by decide))
    have hq := hU (uR_set S q.1 q.2) (uR_set_k S _ _ 113 (by decide))
    unfold uMd_inq at k2
    rw [if_pos h1, if_pos h2, if_pos h3] at k2
    rw [uN_nI (by omega), uN_nI (by omega), uN_nI (by omega)] at k2
    rw [← hq.rf_inq (by omega) hg9 ho9, ho, show ∀ (U V : q_St) (v : Int32), uM_out U 3 (some q) v V = (0, uM_refuse U 3 q.1 q.2) from fun _ _ _ => rfl, uEnds_f (by rw [uM_refuse_6]; decide)] at k2
    obtain ⟨b1, b2⟩ := hI.refd 3 q.1 q.2
    exact ⟨.inr _, uR_set S q.1 q.2, _, _, w_inquire l S _ _ _ _ hx (by intro E h; cases h; simp), k2, ⟨b2.trans (by decide +kernel), by decide +kernel⟩, b1⟩
  | none =>
    rw [ho] at hx
    obtain ⟨S1, hS1⟩ : ∃ S1, S1 = uC_inq (uH_keep S i z 1) m g o := ⟨_, rfl⟩
    have e10 : ∀ k, 10 ≤ k → S1 k = uH_keep S i z 1 k := fun k hk => by rw [hS1]; exact (by unfold uC_inq uC_seal; split; (simp [q_p, show k ≠ 6 by omega, show k ≠ 7 by omega, show k ≠ 1 by omega]); (split <;> simp [q_p, show k ≠ 6 by omega, show k ≠ 1 by omega]))
    have e0 : S1 0 = S 0 := by rw [hS1, show (uC_inq (uH_keep S i z 1) m g o) 0 = uH_keep S i z 1 0 from (by unfold uC_inq uC_seal; split; (simp [q_p]); (split <;> simp [q_p]))]; exact uHk S hi8 z 0 (by decide)
    have e13 : S1 113 = S 113 := (e10 113 (by decide)).trans (uHk S hi8 z 113 (by decide))
    have e12 : S1 112 = S 112 := (e10 112 (by decide)).trans (uHk S hi8 z 112 (by decide))
    have k2 := hm S1 e13 e12
    have hq := hU S1 e13
    have hv := hV S1 e13
    unfold uMd_inq at k2
    rw [if_pos h1, if_pos h2, if_pos h3] at k2
    rw [uN_nI (by omega), uN_nI (by omega), uN_nI (by omega)] at k2
    have ho' := (hq.rf_inq (by omega) hg9 ho9).symm.trans ho
    rw [ho', show ∀ (U V : q_St) (v : Int32), uM_out U 3 none v V = (v, V) from fun _ _ _ => rfl] at k2
    have f1 : uM_am (uM_keep S1) m g ≠ 0 := fun q => (by unfold uMr_inq at ho'; rw [if_pos q] at ho'; (repeat' (split at ho')); all_goals cases ho')
    have f2 : uM_am (uM_keep S1) m o ≠ 0 := fun q => (by unfold uMr_inq at ho'; rw [if_pos q] at ho'; (repeat' (split at ho')); all_goals cases ho')
    have f3 : uM_an (uM_keep S1) m g = 1 := Decidable.byContradiction fun q => (by unfold uMr_inq at ho'; rw [if_pos q] at ho'; (repeat' (split at ho')); all_goals cases ho')
    have f4 : uM_an (uM_keep S1) m o ≠ 1 := fun q => (by unfold uMr_inq at ho'; rw [if_pos q] at ho'; (repeat' (split at ho')); all_goals cases ho')
    have f5 : o ≠ g := fun e => f4 (by rw [e]; exact f3)
    have hE : uT (1000 * c) M S1 (uM_inq (uM_keep S1) m g o) := by have h9 := hv.t_inq hm9 hg9 ho9 f5 f1 f2 f3 f4; rw [← hS1] at h9; exact h9
    rw [uEnds_d (T := uM_inq (uM_keep S1) m g o) (by exact (congrFun (show (uM_inq (uM_keep S1) m g o) 112 = uM_keep S1 112 from (by unfold uM_inq uM_hear1 uM_hear0; split; (split <;> simp [q_p]); simp [q_p])) 6).trans (uM_keep_6 S1))] at k2
    rw [show ∀ (v : Int32) (V : q_St), uG_req S none v V = (.inl v, V) from fun _ _ => rfl] at hx
    rw [← hS1] at hx
    refine ⟨.inl _, S1, _, _, w_inquire l S _ _ _ _ hx (by intro E h; cases h), k2, ⟨?_, ?_⟩, hI.done hH e10 e0 (uM_fr.inq (uM_fr.rf _) m g o) ((by unfold uM_inq uM_hear1 uM_hear0; split; (split <;> simp [q_p]); simp [q_p])) hE (by omega)⟩
    · exact (uM_push_112 _ z 6 (by decide)).trans ((congrFun (show (uM_inq (uM_keep S1) m g o) 112 = uM_keep S1 112 from (by unfold uM_inq uM_hear1 uM_hear0; split; (split <;> simp [q_p]); simp [q_p])) 6).trans (uM_keep_6 S1))
    · exact hE.an (m := m) (g := g) (by omega) hg9
