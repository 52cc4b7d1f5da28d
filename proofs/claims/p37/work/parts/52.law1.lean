
/-! the law's own methods -/
theorem l_doubt (l : Launch) (hst : l.stackTraces = false) (S : q_St) (d M N : Nat) (hI : pI d M N S) (g : Nat) (hg : g < 6) : q_Fy l yL_doubt kL_doubt 10 60 [.ref 0, .int (nI g)] S (uC_doubt S M g) S := by
  have hM8 := hI.M8
  refine q_Fy_of (maxL := 4) rfl (by decide +kernel) (fun ad => Nat.le_of_ble_eq_true rfl) rfl ?_
  intro K C hret
  have C : q_Cy K cL_doubt RL 10 4 60 [] q_Tr := C
  show q_Y l K 0 [] q_Tr 0 [(0, .ref (q_ad K 0)), (1, .int (nI g))] [] S
  have loop : ∀ (j u : Nat), j ≤ M → u + 6 * j ≤ 60 → q_Y l K u [] q_Tr 10 [(0, .ref (q_ad K 0)), (1, .int (nI g)), (2, .int (q_find (fun m => decide (S 6 (m * 6 + g) = 1)) (M - j) j)), (3, .int (nI j - 1))] [] S := by
    intro j
    induction j with
    | zero =>
      intro u hj hu
      refine y_iload_n C dL_doubt_10 rfl rfl ?_
      refine y_if_lt (tgt := 36) C dL_doubt_11 (by decide) (fun _ => ?_) (fun c => absurd c (by decide))
      refine y_iload_n C dL_doubt_36 rfl rfl ?_
      exact hret _ _ _ _ _ _ _ (by omega) dL_doubt_37 rfl rfl
    | succ j ih =>
      intro u hj hu
      have ej : nI (j + 1) - 1 = nI j := nI_pred j
      refine y_to (lv' := [(0, .ref (q_ad K 0)), (1, .int (nI g)), (2, .int (q_find (fun m => decide (S 6 (m * 6 + g) = 1)) (M - (j + 1)) (j + 1))), (3, .int (nI j))]) ?_ ⟨rfl, rfl, rfl, q_iv ej, trivial⟩ rfl
      refine y_iload_n C dL_doubt_10 rfl rfl ?_
      refine y_if_ltN (a := j) (tgt := 36) C dL_doubt_11 (by decide) rfl (by omega) (fun c => c.elim) (fun _ => ?_)
      refine y_aload_n C dL_doubt_14 rfl rfl ?_
      refine y_iload_n C dL_doubt_15 rfl rfl ?_
      refine y_iload_n C dL_doubt_16 rfl rfl ?_
      refine y_sw (rest := []) C (k_answer l hst S M hI.hM j g (by omega) hg) mwL_answer mlL_160 rfl rfl rfl ⟨by decide, by decide⟩ (by omega) (Nat.le_of_ble_eq_true rfl) dL_doubt_17 ?_
      refine y_iconst (v := 1) C dL_doubt_20 (by decide) ?_
      have e0 : q_find (fun m => decide (S 6 (m * 6 + g) = 1)) (M - j) j = if S 6 (j * 6 + g) = 1 then nI j else q_find (fun m => decide (S 6 (m * 6 + g) = 1)) (M - (j + 1)) (j + 1) := by
        rw [show M - j = (M - (j + 1)) + 1 by omega, q_find]
        by_cases c : S 6 (j * 6 + g) = 1
        · rw [if_pos (by simpa using c), if_pos c]
        · rw [if_neg (by simpa using c), if_neg c]
      have iff := hI.pAn_iff (m := j) (g := g) (a := 1) (by omega) hg (by decide) (by decide)
      refine y_icmp_ne (tgt := 28) C dL_doubt_21 (by decide) (fun c => ?_) (fun c => ?_)
      · refine y_iload_n C dL_doubt_28 rfl rfl ?_
        refine y_istore_n (lv' := [(2, .int (q_find (fun m => decide (S 6 (m * 6 + g) = 1)) (M - (j + 1)) (j + 1))), (0, .ref (q_ad K 0)), (1, .int (nI g)), (3, .int (nI j))]) C dL_doubt_29 rfl (by decide) rfl ?_
        refine y_iinc (v := nI j + (-1)) (lv' := [(3, .int (nI j + (-1))), (2, .int (q_find (fun m => decide (S 6 (m * 6 + g) = 1)) (M - (j + 1)) (j + 1))), (0, .ref (q_ad K 0)), (1, .int (nI g))]) C dL_doubt_30 rfl rfl (by decide) rfl ?_
        refine y_goto (tgt := 10) C dL_doubt_33 (by decide) ?_
        exact y_to (ih _ (by omega) (by omega)) ⟨rfl, rfl, q_iv (by rw [e0, if_neg (fun q => c (iff.mpr q))]), q_iv (by rw [← Int32.sub_eq_add_neg]), trivial⟩ rfl
      · refine y_iload_n C dL_doubt_24 rfl rfl ?_
        refine y_goto (tgt := 29) C dL_doubt_25 (by decide) ?_
        refine y_istore_n (lv' := [(2, .int (nI j)), (0, .ref (q_ad K 0)), (1, .int (nI g)), (3, .int (nI j))]) C dL_doubt_29 rfl (by decide) rfl ?_
        refine y_iinc (v := nI j + (-1)) (lv' := [(3, .int (nI j + (-1))), (2, .int (nI j)), (0, .ref (q_ad K 0)), (1, .int (nI g))]) C dL_doubt_30 rfl rfl (by decide) rfl ?_
        refine y_goto (tgt := 10) C dL_doubt_33 (by decide) ?_
        exact y_to (ih _ (by omega) (by omega)) ⟨rfl, rfl, q_iv (by rw [e0, if_pos (iff.mp c)]), q_iv (by rw [← Int32.sub_eq_add_neg]), trivial⟩ rfl
  refine y_iconst (v := (-1)) C dL_doubt_0 (by decide) ?_
  refine y_istore_n (lv' := [(2, .int (-1)), (0, .ref (q_ad K 0)), (1, .int (nI g))]) C dL_doubt_1 rfl (by decide) rfl ?_
  refine y_aload_n C dL_doubt_2 rfl rfl ?_
  refine y_iconst (v := 0) C dL_doubt_3 (by decide) ?_
  refine y_cx (rest := []) C (k_account l hst S M hI.hM 0 (by decide)) myX6_account mlL_157 rfl rfl rfl ⟨by decide, by decide⟩ (by omega) (Nat.le_of_ble_eq_true rfl) dL_doubt_4 ?_
  refine y_iconst (v := 1) C dL_doubt_7 (by decide) ?_
  refine y_isub C dL_doubt_8 ?_
  refine y_istore_n (lv' := [(3, .int (nI M - 1)), (2, .int (-1)), (0, .ref (q_ad K 0)), (1, .int (nI g))]) C dL_doubt_9 rfl (by decide) rfl ?_
  exact y_to (loop M _ (Nat.le_refl _) (by omega)) ⟨rfl, rfl, q_iv (by rw [Nat.sub_self]; rfl), rfl, trivial⟩ rfl
theorem l_count (l : Launch) (hst : l.stackTraces = false) (S : q_St) (d M N : Nat) (hI : pI d M N S) (m : Nat) (hm : m < M) (a : Int32) (ha : a ≠ -1) : q_Fy l yL_count kL_count 10 36 [.ref 0, .int (nI m), .int a] S (uC_ans S m a) S := by
  refine q_Fy_of (maxL := 5) rfl (by decide +kernel) (fun ad => Nat.le_of_ble_eq_true rfl) rfl ?_
  intro K C hret
  have C : q_Cy K cL_count RL 10 5 36 [] q_Tr := C
  show q_Y l K 0 [] q_Tr 0 [(0, .ref (q_ad K 0)), (1, .int (nI m)), (2, .int a)] [] S
  have hM8 := hI.M8
  refine y_iconst (v := 0) C dL_count_0 (by decide) ?_
  refine y_istore_n (lv' := [(3, .int 0), (0, .ref (q_ad K 0)), (1, .int (nI m)), (2, .int a)]) C dL_count_1 rfl (by decide) rfl ?_
  refine y_iconst (v := 0) C dL_count_2 (by decide) ?_
  refine y_istore (lv' := [(4, .int 0), (3, .int 0), (0, .ref (q_ad K 0)), (1, .int (nI m)), (2, .int a)]) C dL_count_3 (by decide) rfl ?_
  have loop_5 : ∀ (n_5 i_5 u_5 : Nat), i_5 + n_5 = 6 → u_5 + n_5 * 6 ≤ 0 + 6 * 6 → q_Y l K u_5 [] q_Tr 5 [(0, .ref (q_ad K 0)), (1, .int (nI m)), (2, .int a), (3, .int (q_sum (uC_fA S m a) i_5)), (4, .int (nI i_5))] [] S := by
    intro n_5
    induction n_5 with
    | zero =>
      intro i_5 u_5 hi_5 hu_5
      have e_5 : i_5 = 6 := by omega
      refine y_iload C dL_count_5 rfl ?_
      refine y_bipush (v := 6) C dL_count_7 (by decide) ?_
      refine y_icmp_geN (a := i_5) (b := 6) (tgt := 37) C dL_count_9 (by decide) rfl rfl (by omega) (by omega) (fun c_9 => ?_) (fun c_9 => absurd c_9 (by omega))
      refine y_iload_n C dL_count_37 rfl rfl ?_
      exact hret _ _ _ _ _ _ _ (by omega) dL_count_38 (by rw [e_5]; rfl) rfl
    | succ n_5 ih_5 =>
      intro i_5 u_5 hi_5 hu_5
      refine y_iload C dL_count_5 rfl ?_
      refine y_bipush (v := 6) C dL_count_7 (by decide) ?_
      refine y_icmp_geN (a := i_5) (b := 6) (tgt := 37) C dL_count_9 (by decide) rfl rfl (by omega) (by omega) (fun c_9 => absurd c_9 (by omega)) (fun c_9 => ?_)
      refine y_iload_n C dL_count_12 rfl rfl ?_
      refine y_aload_n C dL_count_13 rfl rfl ?_
      refine y_iload_n C dL_count_14 rfl rfl ?_
      refine y_iload C dL_count_15 rfl ?_
      refine y_sw (rest := [.int (q_sum (uC_fA S m a) i_5)]) C (k_answer l hst S M hI.hM m i_5 (by omega) (by omega)) mwL_answer mlL_160 rfl rfl rfl ⟨by decide, by decide⟩ (by omega) (Nat.le_of_ble_eq_true rfl) dL_count_17 ?_
      refine y_iload_n C dL_count_20 rfl rfl ?_
      have j_21 : q_Y l K (u_5 + 6) [] q_Tr 29 [(0, .ref (q_ad K 0)), (1, .int (nI m)), (2, .int a), (3, .int (q_sum (uC_fA S m a) i_5)), (4, .int (nI i_5))] [.int (uC_fA S m a i_5), .int (q_sum (uC_fA S m a) i_5)] S := by
        refine y_iadd C dL_count_29 ?_
        refine y_istore_n (lv' := [(3, .int ((q_sum (uC_fA S m a) i_5) + (uC_fA S m a i_5))), (0, .ref (q_ad K 0)), (1, .int (nI m)), (2, .int a), (4, .int (nI i_5))]) C dL_count_30 rfl (by decide) rfl ?_
        refine y_iinc (v := nI (i_5 + 1)) (lv' := [(4, .int (nI (i_5 + 1))), (3, .int ((q_sum (uC_fA S m a) i_5) + (uC_fA S m a i_5))), (0, .ref (q_ad K 0)), (1, .int (nI m)), (2, .int a)]) C dL_count_31 rfl (nI_add _ _) (by decide) rfl ?_
        refine y_goto (tgt := 5) C dL_count_34 (by decide) ?_
        exact y_to (ih_5 (i_5 + 1) _ (by omega) (by omega)) ⟨rfl, rfl, rfl, rfl, rfl, trivial⟩ rfl
      refine y_icmp_ne (tgt := 28) C dL_count_21 (by decide)  (fun c_21 => ?_) (fun c_21 => ?_)
      · refine y_iconst (v := 0) C dL_count_28 (by decide) ?_
        exact y_top (pAn0 c_21) j_21
      · refine y_iconst (v := 1) C dL_count_24 (by decide) ?_
        refine y_goto (tgt := 29) C dL_count_25 (by decide) ?_
        exact y_top (pAn1 ha c_21) j_21
  exact y_to (loop_5 (6 - 0) 0 _ (by omega) (by omega)) ⟨rfl, rfl, rfl, rfl, rfl, trivial⟩ rfl
