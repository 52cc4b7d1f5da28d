
/-! one order: wrong in both, refused in both, or done in both -/
def uKs (d M : Nat) (A B : q_St) (k m g v a b c : Int32) : Prop :=
  (uK_wrong A k m g v = true ∧ ∃ p, 0 < p ∧ uM_do B k a b c = q_p B 112 6 p) ∨
  (uK_wrong A k m g v = false ∧ ((∃ q p, 0 < p ∧ uK_ref A k m g v = some q ∧ uM_do B k a b c = uM_refuse B p q.1 q.2) ∨
    (uK_ref A k m g v = none ∧ ∃ M', uT (d + 24) M' (uK_do A k m g v) (uM_do B k a b c) ∧ uM_do B k a b c 112 = B 112)))
section UK
variable {d M : Nat} {A B : q_St}
set_option maxHeartbeats 1000000 in
theorem uT.k_set (hT : uT d M A B) (x y a : Int32) : uKs d M A B 97 x y a x y a := by
  have hM8 := hT.M8
  have n0 : uN (B 113 0) = M := by rw [hT.hM, uN_nI (by omega)]
  have n1 : uN (A 1 0) = M := by rw [hT.hMA, uN_nI (by omega)]
  have hD8 : uD (B 113) M ≤ 8 := Nat.le_trans (uD_le _ _) hM8
  have n2 : uN (B 113 5) = uD (B 113) M := by rw [hT.hN, uN_nI (by omega)]
  have n3 : uN (A 1 1) = uD (B 113) M := by rw [hT.hNA, uN_nI (by omega)]
  have eD : uM_do B 97 x y a = (uMd_set B M x y a).2 := by unfold uM_do; rw [if_neg (by decide), if_pos rfl, n0]
  have eK : uK_do A 97 x y a = q_p A 5 (uN x * 6 + uN y) a := by unfold uK_do; rw [if_neg (by decide), if_pos rfl]
  have eR : uK_ref A 97 x y a = uR_setA A (uN x) (uN y) a := by unfold uK_ref; rw [if_neg (by decide), if_pos rfl]
  unfold uKs
  rw [eD, eK, eR]
  unfold uMd_set
  by_cases h1 : 0 ≤ x ∧ x < nI M
  rotate_left
  · refine Or.inl ⟨?_, _, ?_, by rw [if_neg h1]; rfl⟩
    · unfold uK_wrong; rw [if_pos rfl]; exact decide_eq_true (Or.inl (Or.inl (by rw [hT.hMA]; exact h1)))
    · decide
  by_cases h2 : 0 ≤ y ∧ y < 6
  rotate_left
  · refine Or.inl ⟨?_, _, ?_, by rw [if_pos h1, if_neg h2]; rfl⟩
    · unfold uK_wrong; rw [if_pos rfl]; exact decide_eq_true (Or.inl (Or.inr h2))
    · decide
  by_cases h3 : -50 ≤ a ∧ a ≤ 50
  rotate_left
  · refine Or.inl ⟨?_, _, ?_, by rw [if_pos h1, if_pos h2, if_neg h3]; rfl⟩
    · unfold uK_wrong; rw [if_pos rfl]; exact decide_eq_true (Or.inr (by by_cases c : a < -50; exact Or.inl c; exact Or.inr (Int32.not_le.mp (fun q => h3 ⟨Int32.not_lt.mp c, q⟩))))
    · decide
  have hW : uK_wrong A 97 x y a = false := by unfold uK_wrong; rw [if_pos rfl]; exact decide_eq_false (by rintro ((q | q) | (q | q)); exact q (by rw [hT.hMA]; exact h1); exact q h2; exact absurd q (Int32.not_lt.mpr h3.1); exact absurd q (Int32.not_lt.mpr h3.2))
  refine Or.inr ⟨hW, ?_⟩
  rw [if_pos h1, if_pos h2, if_pos h3]
  obtain ⟨m, hm9, rfl⟩ := uK_okX rfl (by omega) h1
  obtain ⟨g, hg9, rfl⟩ := uK_okG h2
  rw [uN_nI (show m < 2 ^ 31 by omega), uN_nI (show g < 2 ^ 31 by omega)]
  have hr := hT.rf_set (show m < 8 by omega) hg9 a
  cases ho : uR_setA A m g a with
  | some q => exact Or.inl ⟨q, 3, by decide, rfl, by rw [← hr, ho]; rfl⟩
  | none =>
    have ho' := hr.symm.trans ho
    have f1 : ¬ 0 < uM_cnt B m 1 4 := fun q => (by unfold uMr_set at ho'; rw [if_pos q] at ho'; (repeat' (split at ho')); all_goals cases ho')
    refine Or.inr ⟨rfl, M, ?_, ?_⟩
    · rw [ho']; exact (show uT d M _ _ from hT.t_set hm9 hg9 h3 f1).up (by omega)
    · rw [ho']; exact rfl
set_option maxHeartbeats 1000000 in
theorem uT.k_ask (hT : uT d M A B) (x y v c : Int32) : uKs d M A B 113 x y v x y c := by
  have hM8 := hT.M8
  have n0 : uN (B 113 0) = M := by rw [hT.hM, uN_nI (by omega)]
  have n1 : uN (A 1 0) = M := by rw [hT.hMA, uN_nI (by omega)]
  have hD8 : uD (B 113) M ≤ 8 := Nat.le_trans (uD_le _ _) hM8
  have n2 : uN (B 113 5) = uD (B 113) M := by rw [hT.hN, uN_nI (by omega)]
  have n3 : uN (A 1 1) = uD (B 113) M := by rw [hT.hNA, uN_nI (by omega)]
  have eD : uM_do B 113 x y c = (uMd_ask B M x y).2 := by unfold uM_do; rw [if_neg (by decide), if_neg (by decide), if_pos rfl, n0]
  have eK : uK_do A 113 x y v = uC_ask A M (uN x) (uN y) := by unfold uK_do; rw [if_neg (by decide), if_neg (by decide), if_pos rfl, n1]
  have eR : uK_ref A 113 x y v = uR_ask A M (uN x) (uN y) := by unfold uK_ref; rw [if_neg (by decide), if_neg (by decide), if_pos rfl, n1]
  unfold uKs
  rw [eD, eK, eR]
  unfold uMd_ask
  by_cases h1 : 0 ≤ x ∧ x < nI M
  rotate_left
  · refine Or.inl ⟨?_, _, ?_, by rw [if_neg h1]; rfl⟩
    · unfold uK_wrong; rw [if_neg (by decide), if_pos (Or.inl rfl)]; exact decide_eq_true (Or.inl (by rw [hT.hMA]; exact h1))
    · decide
  by_cases h2 : 0 ≤ y ∧ y < 6
  rotate_left
  · refine Or.inl ⟨?_, _, ?_, by rw [if_pos h1, if_neg h2]; rfl⟩
    · unfold uK_wrong; rw [if_neg (by decide), if_pos (Or.inl rfl)]; exact decide_eq_true (Or.inr h2)
    · decide
  have hW : uK_wrong A 113 x y v = false := by unfold uK_wrong; rw [if_neg (by decide), if_pos (Or.inl rfl)]; exact decide_eq_false (by rintro (q | q); exact q (by rw [hT.hMA]; exact h1); exact q h2)
  refine Or.inr ⟨hW, ?_⟩
  rw [if_pos h1, if_pos h2]
  obtain ⟨m, hm9, rfl⟩ := uK_okX rfl (by omega) h1
  obtain ⟨g, hg9, rfl⟩ := uK_okG h2
  rw [uN_nI (show m < 2 ^ 31 by omega), uN_nI (show g < 2 ^ 31 by omega)]
  have hr := hT.rf_ask (show m < 8 by omega) hg9
  cases ho : uR_ask A M m g with
  | some q => exact Or.inl ⟨q, 3, by decide, rfl, by rw [← hr, ho]; rfl⟩
  | none =>
    have ho' := hr.symm.trans ho
    have f1 : uM_am B m g ≠ 0 := fun q => (by unfold uMr_ask at ho'; rw [if_pos q] at ho'; (repeat' (split at ho')); all_goals cases ho')
    have f2 : uM_an B m g = 0 := Decidable.byContradiction fun q => (by unfold uMr_ask at ho'; rw [if_pos q] at ho'; (repeat' (split at ho')); all_goals cases ho')
    refine Or.inr ⟨rfl, M, ?_, ?_⟩
    · rw [ho']; exact (show uT d M _ _ from hT.t_ask hm9 hg9 f1 f2).up (by omega)
    · rw [ho']; exact rfl
set_option maxHeartbeats 1000000 in
theorem uT.k_tell (hT : uT d M A B) (x y v c : Int32) : uKs d M A B 116 x y v x y c := by
  have hM8 := hT.M8
  have n0 : uN (B 113 0) = M := by rw [hT.hM, uN_nI (by omega)]
  have n1 : uN (A 1 0) = M := by rw [hT.hMA, uN_nI (by omega)]
  have hD8 : uD (B 113) M ≤ 8 := Nat.le_trans (uD_le _ _) hM8
  have n2 : uN (B 113 5) = uD (B 113) M := by rw [hT.hN, uN_nI (by omega)]
  have n3 : uN (A 1 1) = uD (B 113) M := by rw [hT.hNA, uN_nI (by omega)]
  have eD : uM_do B 116 x y c = (uMd_tell B M x y).2 := by unfold uM_do; rw [if_neg (by decide), if_neg (by decide), if_neg (by decide), if_neg (by decide), if_pos rfl, n0]
  have eK : uK_do A 116 x y v = uC_tell A (uN x) (uN y) := by unfold uK_do; rw [if_neg (by decide), if_neg (by decide), if_neg (by decide), if_neg (by decide), if_pos rfl]
  have eR : uK_ref A 116 x y v = uR_tell A M (uN x) (uN y) := by unfold uK_ref; rw [if_neg (by decide), if_neg (by decide), if_neg (by decide), if_neg (by decide), if_pos rfl, n1]
  unfold uKs
  rw [eD, eK, eR]
  unfold uMd_tell
  by_cases h1 : 0 ≤ x ∧ x < nI M
  rotate_left
  · refine Or.inl ⟨?_, _, ?_, by rw [if_neg h1]; rfl⟩
    · unfold uK_wrong; rw [if_neg (by decide), if_pos (Or.inr rfl)]; exact decide_eq_true (Or.inl (by rw [hT.hMA]; exact h1))
    · decide
  by_cases h2 : 0 ≤ y ∧ y < 6
  rotate_left
  · refine Or.inl ⟨?_, _, ?_, by rw [if_pos h1, if_neg h2]; rfl⟩
    · unfold uK_wrong; rw [if_neg (by decide), if_pos (Or.inr rfl)]; exact decide_eq_true (Or.inr h2)
    · decide
  have hW : uK_wrong A 116 x y v = false := by unfold uK_wrong; rw [if_neg (by decide), if_pos (Or.inr rfl)]; exact decide_eq_false (by rintro (q | q); exact q (by rw [hT.hMA]; exact h1); exact q h2)
  refine Or.inr ⟨hW, ?_⟩
  rw [if_pos h1, if_pos h2]
  obtain ⟨m, hm9, rfl⟩ := uK_okX rfl (by omega) h1
  obtain ⟨g, hg9, rfl⟩ := uK_okG h2
  rw [uN_nI (show m < 2 ^ 31 by omega), uN_nI (show g < 2 ^ 31 by omega)]
  have hr := hT.rf_tell (show m < 8 by omega) hg9
  cases ho : uR_tell A M m g with
  | some q => exact Or.inl ⟨q, 3, by decide, rfl, by rw [← hr, ho]; rfl⟩
  | none =>
    have ho' := hr.symm.trans ho
    have f1 : uM_am B m g ≠ 0 := fun q => (by unfold uMr_tell at ho'; rw [if_pos q] at ho'; (repeat' (split at ho')); all_goals cases ho')
    have f2 : ¬ 3 ≤ uM_an B m g := fun q => (by unfold uMr_tell at ho'; rw [if_pos q] at ho'; (repeat' (split at ho')); all_goals cases ho')
    refine Or.inr ⟨rfl, M, ?_, ?_⟩
    · rw [ho']; exact (show uT d M _ _ from hT.t_tell hm9 hg9 f1 f2).up (by omega)
    · rw [ho']; exact (show (uM_tell B m g) 112 = B 112 from by unfold uM_tell uM_hear1 uM_hear0; split <;> simp [q_p])
set_option maxHeartbeats 1000000 in
theorem uT.k_inq (hT : uT d M A B) (x y w : Int32) : uKs d M A B 105 x y w x y w := by
  have hM8 := hT.M8
  have n0 : uN (B 113 0) = M := by rw [hT.hM, uN_nI (by omega)]
  have n1 : uN (A 1 0) = M := by rw [hT.hMA, uN_nI (by omega)]
  have hD8 : uD (B 113) M ≤ 8 := Nat.le_trans (uD_le _ _) hM8
  have n2 : uN (B 113 5) = uD (B 113) M := by rw [hT.hN, uN_nI (by omega)]
  have n3 : uN (A 1 1) = uD (B 113) M := by rw [hT.hNA, uN_nI (by omega)]
  have eD : uM_do B 105 x y w = (uMd_inq B M x y w).2 := by unfold uM_do; rw [if_neg (by decide), if_neg (by decide), if_neg (by decide), if_neg (by decide), if_neg (by decide), if_neg (by decide), if_neg (by decide), if_neg (by decide), if_neg (by decide), if_pos rfl, n0]
  have eK : uK_do A 105 x y w = uC_inq A (uN x) (uN y) (uN w) := by unfold uK_do; rw [if_neg (by decide), if_neg (by decide), if_neg (by decide), if_neg (by decide), if_neg (by decide), if_neg (by decide), if_neg (by decide), if_neg (by decide), if_neg (by decide), if_pos rfl]
  have eR : uK_ref A 105 x y w = uR_inq A (uN x) (uN y) (uN w) := by unfold uK_ref; rw [if_neg (by decide), if_neg (by decide), if_neg (by decide), if_neg (by decide), if_neg (by decide), if_neg (by decide), if_neg (by decide), if_neg (by decide), if_neg (by decide), if_pos rfl]
  unfold uKs
  rw [eD, eK, eR]
  unfold uMd_inq
  by_cases h1 : 0 ≤ x ∧ x < nI M
  rotate_left
  · refine Or.inl ⟨?_, _, ?_, by rw [if_neg h1]; rfl⟩
    · unfold uK_wrong; rw [if_neg (by decide), if_neg (by decide), if_pos rfl]; exact decide_eq_true (Or.inl (Or.inl (by rw [hT.hMA]; exact h1)))
    · decide
  by_cases h2 : 0 ≤ y ∧ y < 6
  rotate_left
  · refine Or.inl ⟨?_, _, ?_, by rw [if_pos h1, if_neg h2]; rfl⟩
    · unfold uK_wrong; rw [if_neg (by decide), if_neg (by decide), if_pos rfl]; exact decide_eq_true (Or.inl (Or.inr h2))
    · decide
  by_cases h3 : 0 ≤ w ∧ w < 6
  rotate_left
  · refine Or.inl ⟨?_, _, ?_, by rw [if_pos h1, if_pos h2, if_neg h3]; rfl⟩
    · unfold uK_wrong; rw [if_neg (by decide), if_neg (by decide), if_pos rfl]; exact decide_eq_true (Or.inr h3)
    · decide
  have hW : uK_wrong A 105 x y w = false := by unfold uK_wrong; rw [if_neg (by decide), if_neg (by decide), if_pos rfl]; exact decide_eq_false (by rintro ((q | q) | q); exact q (by rw [hT.hMA]; exact h1); exact q h2; exact q h3)
  refine Or.inr ⟨hW, ?_⟩
  rw [if_pos h1, if_pos h2, if_pos h3]
  obtain ⟨m, hm9, rfl⟩ := uK_okX rfl (by omega) h1
  obtain ⟨g, hg9, rfl⟩ := uK_okG h2
  obtain ⟨o, ho9, rfl⟩ := uK_okG h3
  rw [uN_nI (show m < 2 ^ 31 by omega), uN_nI (show g < 2 ^ 31 by omega), uN_nI (show o < 2 ^ 31 by omega)]
  have hr := hT.rf_inq (show m < 8 by omega) hg9 ho9
  cases ho : uR_inq A m g o with
  | some q => exact Or.inl ⟨q, 3, by decide, rfl, by rw [← hr, ho]; rfl⟩
  | none =>
    have ho' := hr.symm.trans ho
    have f1 : uM_am B m g ≠ 0 := fun q => (by unfold uMr_inq at ho'; rw [if_pos q] at ho'; (repeat' (split at ho')); all_goals cases ho')
    have f2 : uM_am B m o ≠ 0 := fun q => (by unfold uMr_inq at ho'; rw [if_pos q] at ho'; (repeat' (split at ho')); all_goals cases ho')
    have f3 : uM_an B m g = 1 := Decidable.byContradiction fun q => (by unfold uMr_inq at ho'; rw [if_pos q] at ho'; (repeat' (split at ho')); all_goals cases ho')
    have f4 : uM_an B m o ≠ 1 := fun q => (by unfold uMr_inq at ho'; rw [if_pos q] at ho'; (repeat' (split at ho')); all_goals cases ho')
    have f5 : o ≠ g := fun e => f4 (by rw [e]; exact f3)
    refine Or.inr ⟨rfl, M, ?_, ?_⟩
    · rw [ho']; exact (show uT d M _ _ from hT.t_inq hm9 hg9 ho9 f5 f1 f2 f3 f4).up (by omega)
    · rw [ho']; exact (show (uM_inq B m g o) 112 = B 112 from by unfold uM_inq uM_hear1 uM_hear0; split; (split <;> simp [q_p]); simp [q_p])
set_option maxHeartbeats 1000000 in
theorem uT.k_decide (hT : uT d M A B) (x g v b c : Int32) : uKs d M A B 100 x g v x b c := by
  have hM8 := hT.M8
  have n0 : uN (B 113 0) = M := by rw [hT.hM, uN_nI (by omega)]
  have n1 : uN (A 1 0) = M := by rw [hT.hMA, uN_nI (by omega)]
  have hD8 : uD (B 113) M ≤ 8 := Nat.le_trans (uD_le _ _) hM8
  have n2 : uN (B 113 5) = uD (B 113) M := by rw [hT.hN, uN_nI (by omega)]
  have n3 : uN (A 1 1) = uD (B 113) M := by rw [hT.hNA, uN_nI (by omega)]
  have eD : uM_do B 100 x b c = (uMd_decide B M (uD (B 113) M) x).2 := by unfold uM_do; rw [if_neg (by decide), if_neg (by decide), if_neg (by decide), if_pos rfl, n0, n2]
  have eK : uK_do A 100 x g v = uC_decide A (uD (B 113) M) (uN x) := by unfold uK_do; rw [if_neg (by decide), if_neg (by decide), if_neg (by decide), if_pos rfl, n3]
  have eR : uK_ref A 100 x g v = uR_decide A M (uN x) := by unfold uK_ref; rw [if_neg (by decide), if_neg (by decide), if_neg (by decide), if_pos rfl, n1]
  unfold uKs
  rw [eD, eK, eR]
  unfold uMd_decide
  by_cases h1 : 0 ≤ x ∧ x < nI M
  rotate_left
  · refine Or.inl ⟨?_, _, ?_, by rw [if_neg h1]; rfl⟩
    · unfold uK_wrong; rw [if_neg (by decide), if_neg (by decide), if_neg (by decide), if_pos rfl]; exact decide_eq_true (by rw [hT.hMA]; exact h1)
    · decide
  have hW : uK_wrong A 100 x g v = false := by unfold uK_wrong; rw [if_neg (by decide), if_neg (by decide), if_neg (by decide), if_pos rfl]; exact decide_eq_false (fun q => q (by rw [hT.hMA]; exact h1))
  refine Or.inr ⟨hW, ?_⟩
  rw [if_pos h1]
  obtain ⟨m, hm9, rfl⟩ := uK_okX rfl (by omega) h1
  rw [uN_nI (show m < 2 ^ 31 by omega)]
  have hr := hT.rf_decide (show m < 8 by omega)
  cases ho : uR_decide A M m with
  | some q => exact Or.inl ⟨q, 2, by decide, rfl, by rw [← hr, ho]; rfl⟩
  | none =>
    have ho' := hr.symm.trans ho
    have f1 : uM_how B m = 0 := Decidable.byContradiction fun q => (by unfold uMr_decide at ho'; rw [if_pos q] at ho'; (repeat' (split at ho')); all_goals cases ho')
    refine Or.inr ⟨rfl, M, ?_, ?_⟩
    · rw [ho']; exact (show uT d M _ _ from hT.t_dec hm9 f1 rfl).up (by omega)
    · rw [ho']; exact (show (uM_dec B (uD (B 113) M) m) 112 = B 112 from by unfold uM_dec uM_book; simp [q_p])
set_option maxHeartbeats 1000000 in
theorem uT.k_sleep (hT : uT d M A B) (m y v b c : Int32) : uKs d M A B 115 m y v y b c := by
  have hM8 := hT.M8
  have n0 : uN (B 113 0) = M := by rw [hT.hM, uN_nI (by omega)]
  have n1 : uN (A 1 0) = M := by rw [hT.hMA, uN_nI (by omega)]
  have hD8 : uD (B 113) M ≤ 8 := Nat.le_trans (uD_le _ _) hM8
  have n2 : uN (B 113 5) = uD (B 113) M := by rw [hT.hN, uN_nI (by omega)]
  have n3 : uN (A 1 1) = uD (B 113) M := by rw [hT.hNA, uN_nI (by omega)]
  have eD : uM_do B 115 y b c = (uMd_sleep B y 1).2 := by unfold uM_do; rw [if_neg (by decide), if_neg (by decide), if_neg (by decide), if_neg (by decide), if_neg (by decide), if_neg (by decide), if_neg (by decide), if_pos rfl]
  have eK : uK_do A 115 m y v = q_p A 9 (uN y) 0 := by unfold uK_do; rw [if_neg (by decide), if_neg (by decide), if_neg (by decide), if_neg (by decide), if_neg (by decide), if_neg (by decide), if_neg (by decide), if_pos rfl]
  have eR : uK_ref A 115 m y v = uR_sleep A (uN y) := by unfold uK_ref; rw [if_neg (by decide), if_neg (by decide), if_neg (by decide), if_neg (by decide), if_neg (by decide), if_neg (by decide), if_neg (by decide), if_pos rfl]
  unfold uKs
  rw [eD, eK, eR]
  unfold uMd_sleep
  by_cases h1 : 0 ≤ y ∧ y < 6
  rotate_left
  · refine Or.inl ⟨?_, _, ?_, by rw [if_neg h1]; rfl⟩
    · unfold uK_wrong; rw [if_neg (by decide), if_neg (by decide), if_neg (by decide), if_neg (by decide), if_pos (Or.inl rfl)]; exact decide_eq_true h1
    · decide
  have hW : uK_wrong A 115 m y v = false := by unfold uK_wrong; rw [if_neg (by decide), if_neg (by decide), if_neg (by decide), if_neg (by decide), if_pos (Or.inl rfl)]; exact decide_eq_false (fun q => q h1)
  refine Or.inr ⟨hW, ?_⟩
  rw [if_pos h1]
  obtain ⟨g, hg9, rfl⟩ := uK_okG h1
  rw [uN_nI (show g < 2 ^ 31 by omega)]
  have hr := hT.rf_sleep hg9
  cases ho : uR_sleep A g with
  | some q => exact Or.inl ⟨q, 2, by decide, rfl, by rw [← hr, ho]; rfl⟩
  | none =>
    have ho' := hr.symm.trans ho
    refine Or.inr ⟨rfl, M, ?_, ?_⟩
    · rw [ho']; exact (show uT d M _ _ from (by have q9 := hT.t_slp (g := g) hg9 (v := 1) (by decide); rw [show (1 : Int32) - 1 = 0 from by decide] at q9; exact q9)).up (by omega)
    · rw [ho']; exact rfl
set_option maxHeartbeats 1000000 in
theorem uT.k_rouse (hT : uT d M A B) (m y v b c : Int32) : uKs d M A B 114 m y v y b c := by
  have hM8 := hT.M8
  have n0 : uN (B 113 0) = M := by rw [hT.hM, uN_nI (by omega)]
  have n1 : uN (A 1 0) = M := by rw [hT.hMA, uN_nI (by omega)]
  have hD8 : uD (B 113) M ≤ 8 := Nat.le_trans (uD_le _ _) hM8
  have n2 : uN (B 113 5) = uD (B 113) M := by rw [hT.hN, uN_nI (by omega)]
  have n3 : uN (A 1 1) = uD (B 113) M := by rw [hT.hNA, uN_nI (by omega)]
  have eD : uM_do B 114 y b c = (uMd_sleep B y 0).2 := by unfold uM_do; rw [if_neg (by decide), if_neg (by decide), if_neg (by decide), if_neg (by decide), if_neg (by decide), if_neg (by decide), if_neg (by decide), if_neg (by decide), if_pos rfl]
  have eK : uK_do A 114 m y v = q_p A 9 (uN y) 1 := by unfold uK_do; rw [if_neg (by decide), if_neg (by decide), if_neg (by decide), if_neg (by decide), if_neg (by decide), if_neg (by decide), if_neg (by decide), if_neg (by decide), if_pos rfl]
  have eR : uK_ref A 114 m y v = uR_rouse A (uN y) := by unfold uK_ref; rw [if_neg (by decide), if_neg (by decide), if_neg (by decide), if_neg (by decide), if_neg (by decide), if_neg (by decide), if_neg (by decide), if_neg (by decide), if_pos rfl]
  unfold uKs
  rw [eD, eK, eR]
  unfold uMd_sleep
  by_cases h1 : 0 ≤ y ∧ y < 6
  rotate_left
  · refine Or.inl ⟨?_, _, ?_, by rw [if_neg h1]; rfl⟩
    · unfold uK_wrong; rw [if_neg (by decide), if_neg (by decide), if_neg (by decide), if_neg (by decide), if_pos (Or.inr rfl)]; exact decide_eq_true h1
    · decide
  have hW : uK_wrong A 114 m y v = false := by unfold uK_wrong; rw [if_neg (by decide), if_neg (by decide), if_neg (by decide), if_neg (by decide), if_pos (Or.inr rfl)]; exact decide_eq_false (fun q => q h1)
  refine Or.inr ⟨hW, ?_⟩
  rw [if_pos h1]
  obtain ⟨g, hg9, rfl⟩ := uK_okG h1
  rw [uN_nI (show g < 2 ^ 31 by omega)]
  have hr := hT.rf_rouse hg9
  cases ho : uR_rouse A g with
  | some q => exact Or.inl ⟨q, 2, by decide, rfl, by rw [← hr, ho]; rfl⟩
  | none =>
    have ho' := hr.symm.trans ho
    refine Or.inr ⟨rfl, M, ?_, ?_⟩
    · rw [ho']; exact (show uT d M _ _ from (by have q9 := hT.t_slp (g := g) hg9 (v := 0) (by decide); rw [show (1 : Int32) - 0 = 1 from by decide] at q9; exact q9)).up (by omega)
    · rw [ho']; exact rfl
set_option maxHeartbeats 1000000 in
theorem uT.k_pass (hT : uT d M A B) (hd : d < 2 ^ 30) (m g h b c : Int32) : uKs d M A B 104 m g h h b c := by
  have hM8 := hT.M8
  have n0 : uN (B 113 0) = M := by rw [hT.hM, uN_nI (by omega)]
  have n1 : uN (A 1 0) = M := by rw [hT.hMA, uN_nI (by omega)]
  have hD8 : uD (B 113) M ≤ 8 := Nat.le_trans (uD_le _ _) hM8
  have n2 : uN (B 113 5) = uD (B 113) M := by rw [hT.hN, uN_nI (by omega)]
  have n3 : uN (A 1 1) = uD (B 113) M := by rw [hT.hNA, uN_nI (by omega)]
  have eD : uM_do B 104 h b c = (uMd_pass B M h).2 := by unfold uM_do; rw [if_neg (by decide), if_neg (by decide), if_neg (by decide), if_neg (by decide), if_neg (by decide), if_neg (by decide), if_neg (by decide), if_neg (by decide), if_neg (by decide), if_neg (by decide), n0]
  have eK : uK_do A 104 m g h = uC_pass A M h := by unfold uK_do; rw [if_neg (by decide), if_neg (by decide), if_neg (by decide), if_neg (by decide), if_neg (by decide), if_neg (by decide), if_neg (by decide), if_neg (by decide), if_neg (by decide), if_neg (by decide), n1]
  have eR : uK_ref A 104 m g h = none := by unfold uK_ref; rw [if_neg (by decide), if_neg (by decide), if_neg (by decide), if_neg (by decide), if_neg (by decide), if_neg (by decide), if_neg (by decide), if_neg (by decide), if_neg (by decide), if_neg (by decide)]
  unfold uKs
  rw [eD, eK, eR]
  unfold uMd_pass
  by_cases h1 : 1 ≤ h ∧ h ≤ 24
  rotate_left
  · refine Or.inl ⟨?_, _, ?_, by rw [if_neg h1]; rfl⟩
    · unfold uK_wrong; rw [if_neg (by decide), if_neg (by decide), if_neg (by decide), if_neg (by decide), if_neg (by decide), if_pos rfl]; exact decide_eq_true (by by_cases c : h < 1; exact Or.inl c; exact Or.inr (Int32.not_le.mp (fun q => h1 ⟨Int32.not_lt.mp c, q⟩)))
    · decide
  have hW : uK_wrong A 104 m g h = false := by unfold uK_wrong; rw [if_neg (by decide), if_neg (by decide), if_neg (by decide), if_neg (by decide), if_neg (by decide), if_pos rfl]; exact decide_eq_false (by rintro (q | q); exact absurd q (Int32.not_lt.mpr h1.1); exact absurd q (Int32.not_lt.mpr h1.2))
  refine Or.inr ⟨hW, ?_⟩
  rw [if_pos h1]
  obtain ⟨n, hn9, rfl⟩ := uN_le (k := 24) ⟨Int32.le_trans (by decide) h1.1, h1.2⟩ (by omega)
  exact Or.inr ⟨rfl, M, hT.t_pass rfl hn9 hd, (show (uM_pass B M (nI n)) 112 = B 112 from by unfold uM_pass; rw [show ∀ (U : q_St) (a : Nat) (x : Int32), q_p U 113 a x 112 = U 112 from fun U a x => by simp [q_p]]; exact uM_ps_k _ _ _ 112 (by decide) 6)⟩
set_option maxHeartbeats 1000000 in
theorem uT.k_matter (hT : uT d M A B) (m g v a b c : Int32) : uKs d M A B 110 m g v a b c := by
  have hM8 := hT.M8
  have n0 : uN (B 113 0) = M := by rw [hT.hM, uN_nI (by omega)]
  have n1 : uN (A 1 0) = M := by rw [hT.hMA, uN_nI (by omega)]
  have hD8 : uD (B 113) M ≤ 8 := Nat.le_trans (uD_le _ _) hM8
  have n2 : uN (B 113 5) = uD (B 113) M := by rw [hT.hN, uN_nI (by omega)]
  have n3 : uN (A 1 1) = uD (B 113) M := by rw [hT.hNA, uN_nI (by omega)]
  have eD : uM_do B 110 a b c = (uMd_matter B M).2 := by unfold uM_do; rw [if_pos rfl, n0]
  have eK : uK_do A 110 m g v = q_p (q_p A 3 M (A 1 2)) 1 0 (nI (M + 1)) := by unfold uK_do; rw [if_pos rfl, n1]
  have eR : uK_ref A 110 m g v = uR_matter M := by unfold uK_ref; rw [if_pos rfl, n1]
  unfold uKs
  rw [eD, eK, eR]
  unfold uMd_matter
  have hW : uK_wrong A 110 m g v = false := by unfold uK_wrong; rw [if_neg (by decide), if_neg (by decide), if_neg (by decide), if_neg (by decide), if_neg (by decide), if_neg (by decide)]
  refine Or.inr ⟨hW, ?_⟩
  have hr := hT.rf_matter
  cases ho : uR_matter M with
  | some q => exact Or.inl ⟨q, 1, by decide, rfl, by rw [← hr, ho]; rfl⟩
  | none =>
    have ho' := hr.symm.trans ho
    have f1 : M < 8 := Nat.lt_of_not_le (fun q => by have q9 : M = 8 := by {omega}; unfold uMr_matter at ho'; rw [if_pos q9] at ho'; cases ho')
    refine Or.inr ⟨rfl, (M + 1), ?_, ?_⟩
    · rw [ho']; exact (show uT d (M + 1) _ _ from hT.t_matter f1).up (by omega)
    · rw [ho']; exact (show (uM_newm B M) 112 = B 112 from by unfold uM_newm; rw [show ∀ (U : q_St) (a b : Nat) (x y : Int32), q_p (q_p U 113 a x) 113 b y 112 = U 112 from fun U a b x y => by simp [q_p]]; exact uM_z_k _ _ 112 (by decide) 14)
set_option maxHeartbeats 1000000 in
theorem uT.k_faint (hT : uT d M A B) (m g v a b c : Int32) : uKs d M A B 102 m g v a b c := by
  have hM8 := hT.M8
  have n0 : uN (B 113 0) = M := by rw [hT.hM, uN_nI (by omega)]
  have n1 : uN (A 1 0) = M := by rw [hT.hMA, uN_nI (by omega)]
  have hD8 : uD (B 113) M ≤ 8 := Nat.le_trans (uD_le _ _) hM8
  have n2 : uN (B 113 5) = uD (B 113) M := by rw [hT.hN, uN_nI (by omega)]
  have n3 : uN (A 1 1) = uD (B 113) M := by rw [hT.hNA, uN_nI (by omega)]
  have eD : uM_do B 102 a b c = (uMd_faint B M).2 := by unfold uM_do; rw [if_neg (by decide), if_neg (by decide), if_neg (by decide), if_neg (by decide), if_neg (by decide), if_pos rfl, n0]
  have eK : uK_do A 102 m g v = uC_faint A := by unfold uK_do; rw [if_neg (by decide), if_neg (by decide), if_neg (by decide), if_neg (by decide), if_neg (by decide), if_pos rfl]
  have eR : uK_ref A 102 m g v = uR_fainted A M := by unfold uK_ref; rw [if_neg (by decide), if_neg (by decide), if_neg (by decide), if_neg (by decide), if_neg (by decide), if_pos rfl, n1]
  unfold uKs
  rw [eD, eK, eR]
  unfold uMd_faint
  have hW : uK_wrong A 102 m g v = false := by unfold uK_wrong; rw [if_neg (by decide), if_neg (by decide), if_neg (by decide), if_neg (by decide), if_neg (by decide), if_neg (by decide)]
  refine Or.inr ⟨hW, ?_⟩
  have hr := hT.rf_faint
  cases ho : uR_fainted A M with
  | some q => exact Or.inl ⟨q, 1, by decide, rfl, by rw [← hr, ho]; rfl⟩
  | none =>
    have ho' := hr.symm.trans ho
    refine Or.inr ⟨rfl, M, ?_, ?_⟩
    · rw [ho']; exact (show uT d M _ _ from hT.t_faint).up (by omega)
    · rw [ho']; exact rfl
set_option maxHeartbeats 1000000 in
theorem uT.k_wake (hT : uT d M A B) (m g v a b c : Int32) : uKs d M A B 119 m g v a b c := by
  have hM8 := hT.M8
  have n0 : uN (B 113 0) = M := by rw [hT.hM, uN_nI (by omega)]
  have n1 : uN (A 1 0) = M := by rw [hT.hMA, uN_nI (by omega)]
  have hD8 : uD (B 113) M ≤ 8 := Nat.le_trans (uD_le _ _) hM8
  have n2 : uN (B 113 5) = uD (B 113) M := by rw [hT.hN, uN_nI (by omega)]
  have n3 : uN (A 1 1) = uD (B 113) M := by rw [hT.hNA, uN_nI (by omega)]
  have eD : uM_do B 119 a b c = (uMd_wake B M (uD (B 113) M)).2 := by unfold uM_do; rw [if_neg (by decide), if_neg (by decide), if_neg (by decide), if_neg (by decide), if_neg (by decide), if_neg (by decide), if_pos rfl, n0, n2]
  have eK : uK_do A 119 m g v = uC_wake A M (uD (B 113) M) := by unfold uK_do; rw [if_neg (by decide), if_neg (by decide), if_neg (by decide), if_neg (by decide), if_neg (by decide), if_neg (by decide), if_pos rfl, n1, n3]
  have eR : uK_ref A 119 m g v = uR_wake A := by unfold uK_ref; rw [if_neg (by decide), if_neg (by decide), if_neg (by decide), if_neg (by decide), if_neg (by decide), if_neg (by decide), if_pos rfl]
  unfold uKs
  rw [eD, eK, eR]
  unfold uMd_wake
  have hW : uK_wrong A 119 m g v = false := by unfold uK_wrong; rw [if_neg (by decide), if_neg (by decide), if_neg (by decide), if_neg (by decide), if_neg (by decide), if_neg (by decide)]
  refine Or.inr ⟨hW, ?_⟩
  have hr := hT.rf_wake
  cases ho : uR_wake A with
  | some q => exact Or.inl ⟨q, 1, by decide, rfl, by rw [← hr, ho]; rfl⟩
  | none =>
    have ho' := hr.symm.trans ho
    refine Or.inr ⟨rfl, M, ?_, ?_⟩
    · rw [ho']; exact (show uT d M _ _ from hT.t_wake rfl).up (by omega)
    · rw [ho']; exact (show (uM_wake B M (uD (B 113) M)) 112 = B 112 from by unfold uM_wake; rw [uM_wk_ne _ _ 112 (by decide) M]; simp [q_p])
end UK
/-- what an order says: its letter, and the numbers that its letter has -/
def uOq (k m g v a b c : Int32) : Prop := uQ_let k ∧ ((k = 97 ∨ k = 105) → m = a ∧ g = b ∧ v = c) ∧ ((k = 113 ∨ k = 116) → m = a ∧ g = b) ∧ (k = 100 → m = a) ∧ ((k = 115 ∨ k = 114) → g = a) ∧ (k = 104 → v = a)
theorem uT.k_all {d M : Nat} {A B : q_St} (hT : uT d M A B) (hd : d < 2 ^ 30) {k m g v a b c : Int32} (h : uOq k m g v a b c) : uKs d M A B k m g v a b c := by
  obtain ⟨hk, h1, h2, h3, h4, h5⟩ := h
  rcases hk with rfl | rfl | rfl | rfl | rfl | rfl | rfl | rfl | rfl | rfl | rfl
  · exact hT.k_matter _ _ _ _ _ _
  · obtain ⟨rfl, rfl, rfl⟩ := h1 (Or.inl rfl); exact hT.k_set _ _ _
  · obtain ⟨rfl, rfl⟩ := h2 (Or.inl rfl); exact hT.k_ask _ _ _ _
  · obtain rfl := h3 rfl; exact hT.k_decide _ _ _ _ _
  · obtain ⟨rfl, rfl⟩ := h2 (Or.inr rfl); exact hT.k_tell _ _ _ _
  · exact hT.k_faint _ _ _ _ _ _
  · exact hT.k_wake _ _ _ _ _ _
  · obtain rfl := h4 (Or.inl rfl); exact hT.k_sleep _ _ _ _ _
  · obtain rfl := h4 (Or.inr rfl); exact hT.k_rouse _ _ _ _ _
  · obtain ⟨rfl, rfl, rfl⟩ := h1 (Or.inr rfl); exact hT.k_inq _ _ _
  · obtain rfl := h5 rfl; exact hT.k_pass hd _ _ _ _ _
theorem uT.mJ {d M : Nat} {A B : q_St} (hT : uT d M A B) : uMJ B :=
  ⟨M, uD (B 113) M, hT.hM, hT.M8, hT.hN, Nat.le_trans (uD_le _ _) hT.M8, fun n a b => by have := uD_lt b M a; have := hT.M8; omega, hT.wk8⟩
theorem uT.cJ {d M : Nat} {A B : q_St} (hT : uT d M A B) : uJ A := by
  have hM8 := hT.M8
  have e : ∀ n, n ≤ 8 → uJ_cnt A n = uD (B 113) n := by
    intro n
    induction n with
    | zero => exact fun _ => rfl
    | succ n ih =>
      intro hn
      rw [uJ_cnt, uD, ih (by omega), hT.how (show n < 8 by omega)]
  refine ⟨M, hM8, hT.hMA, by rw [e M hM8]; exact hT.hNA, fun m h1 h2 => ?_, hT.bool⟩
  rw [hT.how h2]
  have := hT.zero h1 h2 (j := 0) (by omega)
  exact this
