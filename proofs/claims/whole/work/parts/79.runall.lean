
/-! the orders one after the other -/
theorem uM_refuse_9 (U : q_St) (p a b : Int32) : uM_refuse U p a b 112 9 = 1 ∧ uM_refuse U p a b 112 7 = a ∧ uM_refuse U p a b 112 8 = b := by
  unfold uM_refuse
  refine ⟨?_, ?_, ?_⟩ <;> simp [q_p, upd]
theorem uM_9 (B : q_St) {j : Nat} (hj : j ≠ 9) (v : Int32) : q_p B 112 9 v 112 j = B 112 j := q_p_off _ _ _ _ _ _ (Or.inr hj)
theorem uRun (TO O : q_St) (pm c : Nat) : ∀ (f i : Nat) (d M : Nat) (A B : q_St), (∀ j, i ≤ j → j < i + f → O 119 (4 * j) = TO 105 j ∧ uOq (TO 105 j) (TO 106 j) (TO 107 j) (TO 108 j) (O 119 (4 * j + 1)) (O 119 (4 * j + 2)) (O 119 (4 * j + 3))) → uT d M A B → d + 24 * f < 2 ^ 30 → B 112 6 = 0 →
    uM_alJ O f i B ∧
    (((uK_all TO f i A).1 = 0 ∧ ∃ M' B', uM_all O pm c f i B = uM_ends (nI c, B') pm ∧ uT (d + 24 * f) M' (uK_all TO f i A).2 B' ∧ uM_fr B B' ∧ (∀ j, j ≠ 9 → B' 112 j = B 112 j) ∧ (uK_all TO f i A).2 102 = A 102) ∨
     ((uK_all TO f i A).1 = 1 ∧ ∃ B', uM_all O pm c f i B = uM_ends (0, B') pm ∧ uM_fr B B' ∧ B' 112 6 = 2 ∧ (uK_all TO f i A).2 102 1 = B' 112 7 ∧ (uK_all TO f i A).2 102 2 = B' 112 8) ∨
     ((uK_all TO f i A).1 = 2 ∧ ∃ B', uM_all O pm c f i B = uM_ends (0, B') pm ∧ uM_fr B B' ∧ B' 112 6 = 1 ∧ B' 112 7 = B 112 7 ∧ B' 112 8 = B 112 8 ∧ (uK_all TO f i A).2 102 = A 102)) := by
  intro f
  induction f with
  | zero =>
    intro i d M A B _ hT _ h6
    exact ⟨trivial, Or.inl ⟨rfl, M, B, rfl, hT, uM_fr.rf B, fun _ _ => rfl, rfl⟩⟩
  | succ f ih =>
    intro i d M A B hO hT hd h6
    have hT9 : uT d M A (q_p B 112 9 0) := hT.cg (fun _ _ _ => rfl) (by simp [q_p])
    have hfr9 : uM_fr B (q_p B 112 9 0) := (uM_fr.rf B).x 9 0 (by omega) (by omega)
    obtain ⟨o1, o2⟩ := hO i (Nat.le_refl _) (by omega)
    have eS : uM_step B O i = uM_do (q_p B 112 9 0) (TO 105 i) (O 119 (4 * i + 1)) (O 119 (4 * i + 2)) (O 119 (4 * i + 3)) := by unfold uM_step; rw [o1]
    have h6' : q_p B 112 9 0 112 6 = 0 := (uM_9 B (by decide) 0).trans h6
    rcases hT9.k_all (by omega) o2 with ⟨w1, p, hp, w2⟩ | ⟨w1, ⟨q, p, hp, w2, w3⟩ | ⟨w2, M', w3, w4⟩⟩
    · rw [w2] at eS
      have e6 : uM_step B O i 112 6 = p := by rw [eS]; exact q_p_on _ _ _ _
      have e9 : uM_step B O i 112 9 = 0 := by rw [eS, q_p_off _ _ _ _ _ _ (Or.inr (by decide))]; exact q_p_on _ _ _ _
      refine ⟨⟨hT9.mJ, fun h => absurd (by rw [e6]; exact hp) h⟩, Or.inr (Or.inr ?_)⟩
      have eK : uK_all TO (f + 1) i A = (2, A) := by rw [uK_all, if_pos w1]
      have eA : uM_all O pm c (f + 1) i B = uM_ends (0, q_p (uM_step B O i) 112 6 1) pm := by rw [uM_all, if_pos (by rw [e6]; exact hp), if_pos e9]
      rw [eK, eA, eS]
      refine ⟨rfl, _, rfl, (hfr9.x 6 p (by omega) (by omega)).x 6 1 (by omega) (by omega), q_p_on _ _ _ _, ?_, ?_, rfl⟩
      · rw [q_p_off _ _ _ _ _ _ (Or.inr (by decide)), q_p_off _ _ _ _ _ _ (Or.inr (by decide))]; exact uM_9 B (by decide) 0
      · rw [q_p_off _ _ _ _ _ _ (Or.inr (by decide)), q_p_off _ _ _ _ _ _ (Or.inr (by decide))]; exact uM_9 B (by decide) 0
    · rw [w3] at eS
      have e6 : uM_step B O i 112 6 = p := by rw [eS]; exact uM_refuse_6 _ _ _ _
      have e9 : uM_step B O i 112 9 ≠ 0 := by rw [eS, (uM_refuse_9 _ _ _ _).1]; decide
      refine ⟨⟨hT9.mJ, fun h => absurd (by rw [e6]; exact hp) h⟩, Or.inr (Or.inl ?_)⟩
      have eK : uK_all TO (f + 1) i A = (1, uR_set A q.1 q.2) := by (rw [uK_all, if_neg (by rw [w1]; exact Bool.noConfusion), w2]) <;> rfl
      have eA : uM_all O pm c (f + 1) i B = uM_ends (0, q_p (uM_step B O i) 112 6 2) pm := by rw [uM_all, if_pos (by rw [e6]; exact hp), if_neg e9]
      rw [eK, eA, eS]
      refine ⟨rfl, _, rfl, (hfr9.refuse p q.1 q.2).x 6 2 (by omega) (by omega), q_p_on _ _ _ _, ?_, ?_⟩
      · rw [q_p_off _ _ _ _ _ _ (Or.inr (by decide)), (uM_refuse_9 _ _ _ _).2.1]; unfold uR_set; simp [q_p, upd]
      · rw [q_p_off _ _ _ _ _ _ (Or.inr (by decide)), (uM_refuse_9 _ _ _ _).2.2]; unfold uR_set; simp [q_p, upd]
    · rw [← eS] at w3 w4
      have e6 : uM_step B O i 112 6 = 0 := by rw [w4]; exact h6'
      have hn : ¬ 0 < uM_step B O i 112 6 := by rw [e6]; decide
      have eK : uK_all TO (f + 1) i A = uK_all TO f (i + 1) (uK_do A (TO 105 i) (TO 106 i) (TO 107 i) (TO 108 i)) := by (rw [uK_all, if_neg (by rw [w1]; exact Bool.noConfusion), w2]) <;> rfl
      have eA : uM_all O pm c (f + 1) i B = uM_all O pm c f (i + 1) (uM_step B O i) := by rw [uM_all, if_neg hn]
      have hfrS : uM_fr B (uM_step B O i) := hfr9.tr (by rw [eS]; exact uM_do_fr _ _ _ _ _)
      have e102 : uK_do A (TO 105 i) (TO 106 i) (TO 107 i) (TO 108 i) 102 = A 102 := uK_do_ne _ _ _ _ _ 102 (by decide)
      have e112 : ∀ j, j ≠ 9 → uM_step B O i 112 j = B 112 j := fun j hj => by rw [w4]; exact uM_9 B hj 0
      obtain ⟨r1, r2⟩ := ih (i + 1) (d + 24) M' _ _ (fun j a b => hO j (by omega) (by omega)) w3 (by omega) e6
      refine ⟨⟨hT9.mJ, fun _ => r1⟩, ?_⟩
      rw [eK, eA]
      rcases r2 with ⟨a1, M2, B2, a2, a3, a4, a5, a6⟩ | ⟨a1, B2, a2, a3, a4, a5, a6⟩ | ⟨a1, B2, a2, a3, a4, a5, a6, a7⟩
      · refine Or.inl ⟨a1, M2, B2, a2, ?_, hfrS.tr a4, fun j hj => (a5 j hj).trans (e112 j hj), a6.trans e102⟩
        rw [show d + 24 * (f + 1) = d + 24 + 24 * f by omega]
        exact a3
      · exact Or.inr (Or.inl ⟨a1, B2, a2, hfrS.tr a3, a4, a5, a6⟩)
      · exact Or.inr (Or.inr ⟨a1, B2, a2, hfrS.tr a3, a4, a5.trans (e112 7 (by decide)), a6.trans (e112 8 (by decide)), a7.trans e102⟩)

theorem uK_do_0 (S : q_St) (k m g v : Int32) : uK_do S k m g v 0 = S 0 := by
  have n1 : (0 : Nat) ≠ 1 := by decide
  have n2 : (0 : Nat) ≠ 2 := by decide
  have n3 : (0 : Nat) ≠ 3 := by decide
  have n4 : (0 : Nat) ≠ 4 := by decide
  have n5 : (0 : Nat) ≠ 5 := by decide
  have n6 : (0 : Nat) ≠ 6 := by decide
  have n7 : (0 : Nat) ≠ 7 := by decide
  have n8 : (0 : Nat) ≠ 8 := by decide
  have n9 : (0 : Nat) ≠ 9 := by decide
  have hs : ∀ (T : q_St) (m g : Nat), uC_seal T m g 0 = T 0 := fun T m g => by simp [uC_seal, q_p, n6, n7]
  unfold uK_do
  by_cases e1 : k = 110
  · simp [e1, q_p, n1, n3]
  by_cases e2 : k = 97
  · simp [e2, q_p, n5]
  by_cases e3 : k = 113
  · simp [e3, uC_ask, q_p, n6]
  by_cases e4 : k = 100
  · simp [e4, uC_decide, uC_book, q_p, n1, n2, n4]
  by_cases e5 : k = 116
  · simp only [e5, uC_tell]
    simp only [show ¬ (116 : Int32) = 110 by decide, show ¬ (116 : Int32) = 97 by decide, show ¬ (116 : Int32) = 113 by decide, show ¬ (116 : Int32) = 100 by decide, if_false, if_true]
    split
    · exact hs _ _ _
    · simp [q_p, n6]
  by_cases e6 : k = 102
  · simp [e6, uC_faint, q_p, n1]
  by_cases e7 : k = 119
  · simp only [e7]
    simp only [show ¬ (119 : Int32) = 110 by decide, show ¬ (119 : Int32) = 97 by decide, show ¬ (119 : Int32) = 113 by decide, show ¬ (119 : Int32) = 100 by decide, show ¬ (119 : Int32) = 116 by decide, show ¬ (119 : Int32) = 102 by decide, if_false, if_true, uC_wake]
    rw [uC_wk_ne _ _ 0 n1 n2 n4]
    simp [q_p, n1]
  by_cases e8 : k = 115
  · simp [e8, q_p, n9]
  by_cases e9 : k = 114
  · simp [e9, q_p, n9]
  by_cases e10 : k = 105
  · simp only [e10]
    simp only [show ¬ (105 : Int32) = 110 by decide, show ¬ (105 : Int32) = 97 by decide, show ¬ (105 : Int32) = 113 by decide, show ¬ (105 : Int32) = 100 by decide, show ¬ (105 : Int32) = 116 by decide, show ¬ (105 : Int32) = 102 by decide, show ¬ (105 : Int32) = 119 by decide, show ¬ (105 : Int32) = 115 by decide, show ¬ (105 : Int32) = 114 by decide, if_false, if_true, uC_inq]
    split
    · rw [hs]; simp [q_p, n1]
    · split <;> simp [q_p, n1, n6]
  simp only [e1, e2, e3, e4, e5, e6, e7, e8, e9, e10, if_false, uC_pass]
  rw [uC_ps_ne _ _ _ 0 n8]
  simp [q_p, n1]
theorem uK_all_0 (T : q_St) : ∀ (f i : Nat) (S : q_St), (uK_all T f i S).2 0 = S 0
  | 0, _, _ => rfl
  | f + 1, i, S => by
    rw [uK_all]
    split
    · rfl
    · split
      · rename_i q _; exact uR_set_k S q.1 q.2 0 (by decide)
      · rw [uK_all_0 T f]
        exact uK_do_0 _ _ _ _ _
