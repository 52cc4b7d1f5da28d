theorem c_X7_thrown (l : Launch) (S : q_St) : q_Fi l yX7_thrown kX7_thrown 1 [.ref 112] S (S 112 6) S := by
  refine q_Fi_of (maxL := 1) rfl (by decide +kernel) (fun ad => Nat.le_of_ble_eq_true rfl) rfl ?_
  intro K C hret
  have C : q_Cx K cX7_thrown RX7 1 1 := C
  show q_V l K 0 [(0, .ref 112)] [] S
  refine q_aload_n C dX7_thrown_0 rfl rfl ?_
  refine q_getI (x := S 112 6) C flX7_36 q_s112 rfl dX7_thrown_1 rfl ?_
  exact hret _ _ _ _ dX7_thrown_4 rfl rfl
theorem c_X7_in (l : Launch) (S : q_St) (x : Int32) (a : Int32) (b : Int32) : q_Fi l yX7_in kX7_in 1 [.int x, .int a, .int b] S (if a ≤ x ∧ x ≤ b then 1 else 0) S := by
  refine q_Fi_of (maxL := 3) rfl (by decide +kernel) (fun ad => Nat.le_of_ble_eq_true rfl) (by split <;> rfl) ?_
  intro K C hret
  have C : q_Cx K cX7_in RX7 1 3 := C
  show q_V l K 0 [(0, .int x), (1, .int a), (2, .int b)] [] S
  refine q_iload_n C dX7_in_0 rfl rfl ?_
  refine q_iload_n C dX7_in_1 rfl rfl ?_
  refine q_icmp_lt (tgt := 14) C dX7_in_2 (by decide)  (fun c_2 => ?_) (fun c_2 => ?_)
  · refine q_iconst (v := 0) C dX7_in_14 (by decide) ?_
    exact hret _ _ _ _ dX7_in_15 (by simp [c_2, Int32.not_le.mpr c_2, if_pos c_2]) rfl
  · refine q_iload_n C dX7_in_5 rfl rfl ?_
    refine q_iload_n C dX7_in_6 rfl rfl ?_
    refine q_icmp_gt (tgt := 14) C dX7_in_7 (by decide)  (fun c_7 => ?_) (fun c_7 => ?_)
    · refine q_iconst (v := 0) C dX7_in_14 (by decide) ?_
      exact hret _ _ _ _ dX7_in_15 (by simp [c_2, Int32.not_lt.mpr c_2, if_neg (Int32.not_lt.mpr c_2), c_7, Int32.not_le.mpr c_7, if_pos c_7]) rfl
    · refine q_iconst (v := 1) C dX7_in_10 (by decide) ?_
      refine q_goto (tgt := 15) C dX7_in_11 (by decide) ?_
      exact hret _ _ _ _ dX7_in_15 (by simp [c_2, Int32.not_lt.mpr c_2, if_neg (Int32.not_lt.mpr c_2), c_7, Int32.not_lt.mpr c_7, if_neg (Int32.not_lt.mpr c_7)]) rfl
theorem c_X7_keep (l : Launch) (S : q_St) : q_Fv l yX7_keep kX7_keep 1 [.ref 112] S (uM_keep S) := by
  refine q_Fv_of (maxL := 1) rfl (by decide +kernel) (fun ad => Nat.le_of_ble_eq_true rfl) ?_
  intro K C hret
  have C : q_Cx K cX7_keep RX7 1 1 := C
  show q_V l K 0 [(0, .ref 112)] [] S
  refine q_aload_n C dX7_keep_0 rfl rfl ?_
  refine q_iconst (v := 0) C dX7_keep_1 (by decide) ?_
  refine q_put (ty9 := .int) C flX7_36 q_s112 rfl (fun _ _ _ h => by cases h; exact ⟨rfl, by decide +kernel⟩) rfl rfl dX7_keep_2 ?_
  refine q_aload_n C dX7_keep_5 rfl rfl ?_
  refine q_getR C flX7_9 q_s112 rfl dX7_keep_6 ?_
  refine q_iconst (v := 0) C dX7_keep_9 (by decide) ?_
  refine q_aload_n C dX7_keep_10 rfl rfl ?_
  refine q_getR C flX7_13 q_s112 rfl dX7_keep_11 ?_
  refine q_iconst (v := 0) C dX7_keep_14 (by decide) ?_
  refine q_sipush (v := 144) C dX7_keep_15 (by decide) ?_
  refine q_copyV (n := 144) (dp := 0) (sp := 0) (f := (va_cpy (S 113) (S 114) 0 0 144)) C q_s113 q_s114  rfl rfl rfl mlX7_39 w_copyN w_copyS w_copyI (by omega) (by omega) (by decide) (by decide) (by decide) (Nat.le_of_ble_eq_true rfl) dX7_keep_18 rfl ?_
  exact hret _ _ _ dX7_keep_21 rfl
theorem c_X7_fails (l : Launch) (S : q_St) (x : Int32) : q_Fi l yX7_fails kX7_fails 1 [.ref 112, .int x] S 0 (q_p S 112 6 x) := by
  refine q_Fi_of (maxL := 2) rfl (by decide +kernel) (fun ad => Nat.le_of_ble_eq_true rfl) rfl ?_
  intro K C hret
  have C : q_Cx K cX7_fails RX7 1 2 := C
  show q_V l K 0 [(0, .ref 112), (1, .int x)] [] S
  refine q_aload_n C dX7_fails_0 rfl rfl ?_
  refine q_iload_n C dX7_fails_1 rfl rfl ?_
  refine q_put (ty9 := .int) C flX7_36 q_s112 rfl (fun _ _ _ h => by cases h; exact ⟨rfl, by decide +kernel⟩) rfl rfl dX7_fails_2 ?_
  refine q_iconst (v := 0) C dX7_fails_5 (by decide) ?_
  exact hret _ _ _ _ dX7_fails_6 rfl rfl
theorem c_X7_refuse (l : Launch) (S : q_St) (p : Int32) (w : Int32) (d : Int32) : q_Fi l yX7_refuse kX7_refuse 1 [.ref 112, .int p, .int w, .int d] S 0 (uM_refuse S p w d) := by
  refine q_Fi_of (maxL := 4) rfl (by decide +kernel) (fun ad => Nat.le_of_ble_eq_true rfl) rfl ?_
  intro K C hret
  have C : q_Cx K cX7_refuse RX7 1 4 := C
  show q_V l K 0 [(0, .ref 112), (1, .int p), (2, .int w), (3, .int d)] [] S
  refine q_aload_n C dX7_refuse_0 rfl rfl ?_
  refine q_iload_n C dX7_refuse_1 rfl rfl ?_
  refine q_put (ty9 := .int) C flX7_36 q_s112 rfl (fun _ _ _ h => by cases h; exact ⟨rfl, by decide +kernel⟩) rfl rfl dX7_refuse_2 ?_
  refine q_aload_n C dX7_refuse_5 rfl rfl ?_
  refine q_iconst (v := 1) C dX7_refuse_6 (by decide) ?_
  refine q_put (ty9 := .boolean) C flX7_48 q_s112 rfl (fun _ _ _ h => by cases h; exact ⟨rfl, by decide +kernel⟩) rfl rfl dX7_refuse_7 ?_
  refine q_aload_n C dX7_refuse_10 rfl rfl ?_
  refine q_iload_n C dX7_refuse_11 rfl rfl ?_
  refine q_put (ty9 := .int) C flX7_52 q_s112 rfl (fun _ _ _ h => by cases h; exact ⟨rfl, by decide +kernel⟩) rfl rfl dX7_refuse_12 ?_
  refine q_aload_n C dX7_refuse_15 rfl rfl ?_
  refine q_iload_n C dX7_refuse_16 rfl rfl ?_
  refine q_put (ty9 := .int) C flX7_55 q_s112 rfl (fun _ _ _ h => by cases h; exact ⟨rfl, by decide +kernel⟩) rfl rfl dX7_refuse_17 ?_
  refine q_iconst (v := 0) C dX7_refuse_20 (by decide) ?_
  exact hret _ _ _ _ dX7_refuse_21 rfl rfl
theorem c_X7_isMatter (l : Launch) (S : q_St) (M : Nat) (hM : S 113 0 = nI M) (hM8 : M ≤ 8) (x : Int32) : q_Fi l yX7_isMatter kX7_isMatter 2 [.ref 112, .int x] S (if 0 ≤ x ∧ x < nI M then 1 else 0) S := by
  refine q_Fi_of (maxL := 2) rfl (by decide +kernel) (fun ad => Nat.le_of_ble_eq_true rfl) (by split <;> rfl) ?_
  intro K C hret
  have C : q_Cx K cX7_isMatter RX7 2 2 := C
  show q_V l K 0 [(0, .ref 112), (1, .int x)] [] S
  refine q_iload_n C dX7_isMatter_0 rfl rfl ?_
  refine q_iconst (v := 0) C dX7_isMatter_1 (by decide) ?_
  refine q_aload_n C dX7_isMatter_2 rfl rfl ?_
  refine q_getR C flX7_9 q_s112 rfl dX7_isMatter_3 ?_
  refine q_iconst (v := 0) C dX7_isMatter_6 (by decide) ?_
  refine q_ialdN (i := 0) (x := nI M) C rfl q_s113 (by omega) (by decide) dX7_isMatter_7 hM ?_
  refine q_iconst (v := 1) C dX7_isMatter_8 (by decide) ?_
  refine q_isub C dX7_isMatter_9 ?_
  refine q_si3 C (q_Fi.cv (q_if_iff (uM_isM hM8)) (c_X7_in l S x 0 ((nI M) - 1))) msX7_in rfl mlX7_58 ⟨by decide, by decide⟩ (Nat.le_of_ble_eq_true rfl) dX7_isMatter_10 ?_
  exact hret _ _ _ _ dX7_isMatter_13 rfl rfl
theorem c_X7_isGuild (l : Launch) (S : q_St) (x : Int32) : q_Fi l yX7_isGuild kX7_isGuild 2 [.int x] S (if 0 ≤ x ∧ x < 6 then 1 else 0) S := by
  refine q_Fi_of (maxL := 1) rfl (by decide +kernel) (fun ad => Nat.le_of_ble_eq_true rfl) (by split <;> rfl) ?_
  intro K C hret
  have C : q_Cx K cX7_isGuild RX7 2 1 := C
  show q_V l K 0 [(0, .int x)] [] S
  refine q_iload_n C dX7_isGuild_0 rfl rfl ?_
  refine q_iconst (v := 0) C dX7_isGuild_1 (by decide) ?_
  refine q_iconst (v := 5) C dX7_isGuild_2 (by decide) ?_
  refine q_si3 C (q_Fi.cv (q_if_iff (uM_isG)) (c_X7_in l S x 0 5)) msX7_in rfl mlX7_58 ⟨by decide, by decide⟩ (Nat.le_of_ble_eq_true rfl) dX7_isGuild_3 ?_
  exact hret _ _ _ _ dX7_isGuild_6 rfl rfl
theorem c_X7_how (l : Launch) (S : q_St) (m : Nat) (hm : m < 8) : q_Fi l yX7_how kX7_how 1 [.ref 112, .int (nI m)] S (S 113 (32 + 14 * m)) S := by
  refine q_Fi_of (maxL := 2) rfl (by decide +kernel) (fun ad => Nat.le_of_ble_eq_true rfl) rfl ?_
  intro K C hret
  have C : q_Cx K cX7_how RX7 1 2 := C
  show q_V l K 0 [(0, .ref 112), (1, .int (nI m))] [] S
  refine q_aload_n C dX7_how_0 rfl rfl ?_
  refine q_getR C flX7_9 q_s112 rfl dX7_how_1 ?_
  refine q_bipush (v := 32) C dX7_how_4 (by decide) ?_
  refine q_bipush (v := 14) C dX7_how_6 (by decide) ?_
  refine q_iload_n C dX7_how_8 rfl rfl ?_
  refine q_imulN (a := 14) (b := m) C dX7_how_9 rfl rfl ?_
  refine q_iaddN (a := 32) (b := 14 * m) C dX7_how_10 rfl rfl ?_
  refine q_iconst (v := 0) C dX7_how_11 (by decide) ?_
  refine q_iaddN (a := 32 + (14 * m)) (b := 0) C dX7_how_12 rfl rfl ?_
  refine q_ialdN (i := 32 + (14 * m)) (x := S 113 (32 + (14 * m))) C rfl q_s113 (by omega) (by decide) dX7_how_13 rfl ?_
  exact hret _ _ _ _ dX7_how_14 rfl rfl
theorem c_X7_amountOf (l : Launch) (S : q_St) (m : Nat) (hm : m < 8) (g : Nat) (hg : g < 6) : q_Fi l yX7_amountOf kX7_amountOf 1 [.ref 112, .int (nI m), .int (nI g)] S (S 113 (32 + 14 * m + 2 + g)) S := by
  refine q_Fi_of (maxL := 3) rfl (by decide +kernel) (fun ad => Nat.le_of_ble_eq_true rfl) rfl ?_
  intro K C hret
  have C : q_Cx K cX7_amountOf RX7 1 3 := C
  show q_V l K 0 [(0, .ref 112), (1, .int (nI m)), (2, .int (nI g))] [] S
  refine q_aload_n C dX7_amountOf_0 rfl rfl ?_
  refine q_getR C flX7_9 q_s112 rfl dX7_amountOf_1 ?_
  refine q_bipush (v := 32) C dX7_amountOf_4 (by decide) ?_
  refine q_bipush (v := 14) C dX7_amountOf_6 (by decide) ?_
  refine q_iload_n C dX7_amountOf_8 rfl rfl ?_
  refine q_imulN (a := 14) (b := m) C dX7_amountOf_9 rfl rfl ?_
  refine q_iaddN (a := 32) (b := 14 * m) C dX7_amountOf_10 rfl rfl ?_
  refine q_iconst (v := 2) C dX7_amountOf_11 (by decide) ?_
  refine q_iaddN (a := 32 + (14 * m)) (b := 2) C dX7_amountOf_12 rfl rfl ?_
  refine q_iload_n C dX7_amountOf_13 rfl rfl ?_
  refine q_iaddN (a := 32 + (14 * m) + 2) (b := g) C dX7_amountOf_14 rfl rfl ?_
  refine q_ialdN (i := 32 + (14 * m) + 2 + g) (x := S 113 (32 + (14 * m) + 2 + g)) C rfl q_s113 (by omega) (by decide) dX7_amountOf_15 rfl ?_
  exact hret _ _ _ _ dX7_amountOf_16 rfl rfl
theorem c_X7_isOf (l : Launch) (S : q_St) (m : Nat) (hm : m < 8) (g : Nat) (hg : g < 6) : q_Fi l yX7_isOf kX7_isOf 2 [.ref 112, .int (nI m), .int (nI g)] S (if S 113 (32 + 14 * m + 2 + g) ≠ 0 then 1 else 0) S := by
  refine q_Fi_of (maxL := 3) rfl (by decide +kernel) (fun ad => Nat.le_of_ble_eq_true rfl) (by split <;> rfl) ?_
  intro K C hret
  have C : q_Cx K cX7_isOf RX7 2 3 := C
  show q_V l K 0 [(0, .ref 112), (1, .int (nI m)), (2, .int (nI g))] [] S
  refine q_aload_n C dX7_isOf_0 rfl rfl ?_
  refine q_iload_n C dX7_isOf_1 rfl rfl ?_
  refine q_iload_n C dX7_isOf_2 rfl rfl ?_
  refine q_ci2 C (c_X7_amountOf l S m (by omega) g (by omega)) myX7_amountOf mlX7_62 q_s112 ⟨by decide, by decide⟩ (Nat.le_of_ble_eq_true rfl) dX7_isOf_3 ?_
  refine q_if_eq (tgt := 13) C dX7_isOf_6 (by decide)  (fun c_6 => ?_) (fun c_6 => ?_)
  · refine q_iconst (v := 0) C dX7_isOf_13 (by decide) ?_
    exact hret _ _ _ _ dX7_isOf_14 (by simp [c_6]) rfl
  · refine q_iconst (v := 1) C dX7_isOf_9 (by decide) ?_
    refine q_goto (tgt := 14) C dX7_isOf_10 (by decide) ?_
    exact hret _ _ _ _ dX7_isOf_14 (by simp [c_6]) rfl
theorem c_X7_answerOf (l : Launch) (S : q_St) (m : Nat) (hm : m < 8) (g : Nat) (hg : g < 6) : q_Fi l yX7_answerOf kX7_answerOf 1 [.ref 112, .int (nI m), .int (nI g)] S (S 113 (32 + 14 * m + 8 + g)) S := by
  refine q_Fi_of (maxL := 3) rfl (by decide +kernel) (fun ad => Nat.le_of_ble_eq_true rfl) rfl ?_
  intro K C hret
  have C : q_Cx K cX7_answerOf RX7 1 3 := C
  show q_V l K 0 [(0, .ref 112), (1, .int (nI m)), (2, .int (nI g))] [] S
  refine q_aload_n C dX7_answerOf_0 rfl rfl ?_
  refine q_getR C flX7_9 q_s112 rfl dX7_answerOf_1 ?_
  refine q_bipush (v := 32) C dX7_answerOf_4 (by decide) ?_
  refine q_bipush (v := 14) C dX7_answerOf_6 (by decide) ?_
  refine q_iload_n C dX7_answerOf_8 rfl rfl ?_
  refine q_imulN (a := 14) (b := m) C dX7_answerOf_9 rfl rfl ?_
  refine q_iaddN (a := 32) (b := 14 * m) C dX7_answerOf_10 rfl rfl ?_
  refine q_bipush (v := 8) C dX7_answerOf_11 (by decide) ?_
  refine q_iaddN (a := 32 + (14 * m)) (b := 8) C dX7_answerOf_13 rfl rfl ?_
  refine q_iload_n C dX7_answerOf_14 rfl rfl ?_
  refine q_iaddN (a := 32 + (14 * m) + 8) (b := g) C dX7_answerOf_15 rfl rfl ?_
  refine q_ialdN (i := 32 + (14 * m) + 8 + g) (x := S 113 (32 + (14 * m) + 8 + g)) C rfl q_s113 (by omega) (by decide) dX7_answerOf_16 rfl ?_
  exact hret _ _ _ _ dX7_answerOf_17 rfl rfl
theorem c_X7_answers (l : Launch) (S : q_St) (m : Nat) (hm : m < 8) (g : Nat) (hg : g < 6) (a : Int32) : q_Fv l yX7_answers kX7_answers 1 [.ref 112, .int (nI m), .int (nI g), .int a] S (q_p S 113 (32 + 14 * m + 8 + g) a) := by
  refine q_Fv_of (maxL := 4) rfl (by decide +kernel) (fun ad => Nat.le_of_ble_eq_true rfl) ?_
  intro K C hret
  have C : q_Cx K cX7_answers RX7 1 4 := C
  show q_V l K 0 [(0, .ref 112), (1, .int (nI m)), (2, .int (nI g)), (3, .int a)] [] S
  refine q_aload_n C dX7_answers_0 rfl rfl ?_
  refine q_getR C flX7_9 q_s112 rfl dX7_answers_1 ?_
  refine q_bipush (v := 32) C dX7_answers_4 (by decide) ?_
  refine q_bipush (v := 14) C dX7_answers_6 (by decide) ?_
  refine q_iload_n C dX7_answers_8 rfl rfl ?_
  refine q_imulN (a := 14) (b := m) C dX7_answers_9 rfl rfl ?_
  refine q_iaddN (a := 32) (b := 14 * m) C dX7_answers_10 rfl rfl ?_
  refine q_bipush (v := 8) C dX7_answers_11 (by decide) ?_
  refine q_iaddN (a := 32 + (14 * m)) (b := 8) C dX7_answers_13 rfl rfl ?_
  refine q_iload_n C dX7_answers_14 rfl rfl ?_
  refine q_iaddN (a := 32 + (14 * m) + 8) (b := g) C dX7_answers_15 rfl rfl ?_
  refine q_iload_n C dX7_answers_16 rfl rfl ?_
  refine q_iastN (i := 32 + (14 * m) + 8 + g) C rfl q_s113 (by omega) (by decide) dX7_answers_17 ?_
  exact hret _ _ _ dX7_answers_18 rfl
theorem c_X7_isAsleep (l : Launch) (S : q_St) (g : Nat) (hg : g < 6) : q_Fi l yX7_isAsleep kX7_isAsleep 1 [.ref 112, .int (nI g)] S (if S 113 (12 + g) = 1 then 1 else 0) S := by
  refine q_Fi_of (maxL := 2) rfl (by decide +kernel) (fun ad => Nat.le_of_ble_eq_true rfl) (by split <;> rfl) ?_
  intro K C hret
  have C : q_Cx K cX7_isAsleep RX7 1 2 := C
  show q_V l K 0 [(0, .ref 112), (1, .int (nI g))] [] S
  refine q_aload_n C dX7_isAsleep_0 rfl rfl ?_
  refine q_getR C flX7_9 q_s112 rfl dX7_isAsleep_1 ?_
  refine q_bipush (v := 12) C dX7_isAsleep_4 (by decide) ?_
  refine q_iload_n C dX7_isAsleep_6 rfl rfl ?_
  refine q_iaddN (a := 12) (b := g) C dX7_isAsleep_7 rfl rfl ?_
  refine q_ialdN (i := 12 + g) (x := S 113 (12 + g)) C rfl q_s113 (by omega) (by decide) dX7_isAsleep_8 rfl ?_
  refine q_iconst (v := 1) C dX7_isAsleep_9 (by decide) ?_
  refine q_icmp_ne (tgt := 17) C dX7_isAsleep_10 (by decide)  (fun c_10 => ?_) (fun c_10 => ?_)
  · refine q_iconst (v := 0) C dX7_isAsleep_17 (by decide) ?_
    exact hret _ _ _ _ dX7_isAsleep_18 (by simp [c_10]) rfl
  · refine q_iconst (v := 1) C dX7_isAsleep_13 (by decide) ?_
    refine q_goto (tgt := 18) C dX7_isAsleep_14 (by decide) ?_
    exact hret _ _ _ _ dX7_isAsleep_18 (by simp [c_10]) rfl
theorem c_X7_count (l : Launch) (S : q_St) (m : Nat) (hm : m < 8) (lo : Int32) (hi : Int32) : q_Fi l yX7_count kX7_count 3 [.ref 112, .int (nI m), .int lo, .int hi] S (uM_cnt S m lo hi) S := by
  refine q_Fi_of (maxL := 6) rfl (by decide +kernel) (fun ad => Nat.le_of_ble_eq_true rfl) rfl ?_
  intro K C hret
  have C : q_Cx K cX7_count RX7 3 6 := C
  show q_V l K 0 [(0, .ref 112), (1, .int (nI m)), (2, .int lo), (3, .int hi)] [] S
  refine q_iconst (v := 0) C dX7_count_0 (by decide) ?_
  refine q_istore (lv' := [(4, .int 0), (0, .ref 112), (1, .int (nI m)), (2, .int lo), (3, .int hi)]) C dX7_count_1 (by decide) rfl ?_
  refine q_iconst (v := 0) C dX7_count_3 (by decide) ?_
  refine q_istore (lv' := [(5, .int 0), (4, .int 0), (0, .ref 112), (1, .int (nI m)), (2, .int lo), (3, .int hi)]) C dX7_count_4 (by decide) rfl ?_
  have loop_6 : ∀ (n_6 i_6 : Nat), i_6 + n_6 = 6 → q_V l K 6 [(0, .ref 112), (1, .int (nI m)), (2, .int lo), (3, .int hi), (4, .int (q_sum (uM_f S m lo hi) i_6)), (5, .int (nI i_6))] [] S := by
    intro n_6
    induction n_6 with
    | zero =>
      intro i_6 hi_6
      have e_6 : i_6 = 6 := by omega
      refine q_iload C dX7_count_6 rfl ?_
      refine q_bipush (v := 6) C dX7_count_8 (by decide) ?_
      refine q_icmp_geN (a := i_6) (b := 6) (tgt := 54) C dX7_count_10 (by decide) rfl rfl (by omega) (by omega) (fun c_10 => ?_) (fun c_10 => absurd c_10 (by omega))
      refine q_iload C dX7_count_54 rfl ?_
      exact hret _ _ _ _ dX7_count_56 (by rw [e_6]; rfl) rfl
    | succ n_6 ih_6 =>
      intro i_6 hi_6
      refine q_iload C dX7_count_6 rfl ?_
      refine q_bipush (v := 6) C dX7_count_8 (by decide) ?_
      refine q_icmp_geN (a := i_6) (b := 6) (tgt := 54) C dX7_count_10 (by decide) rfl rfl (by omega) (by omega) (fun c_10 => absurd c_10 (by omega)) (fun c_10 => ?_)
      refine q_iload C dX7_count_13 rfl ?_
      refine q_aload_n C dX7_count_15 rfl rfl ?_
      refine q_iload_n C dX7_count_16 rfl rfl ?_
      refine q_iload C dX7_count_17 rfl ?_
      by_cases h_19 : S 113 (32 + 14 * m + 2 + i_6) ≠ 0
      · refine q_ci2 C (q_Fi.cv (if_pos h_19) (c_X7_isOf l S m (by omega) i_6 (by omega))) myX7_isOf mlX7_66 q_s112 ⟨by decide, by decide⟩ (Nat.le_of_ble_eq_true rfl) dX7_count_19 ?_
        refine q_if_eq (tgt := 44) C dX7_count_22 (by decide) (fun h9 => absurd h9 (by decide)) (fun _ => ?_)
        refine q_aload_n C dX7_count_25 rfl rfl ?_
        refine q_iload_n C dX7_count_26 rfl rfl ?_
        refine q_iload C dX7_count_27 rfl ?_
        refine q_ci2 C (c_X7_answerOf l S m (by omega) i_6 (by omega)) myX7_answerOf mlX7_70 q_s112 ⟨by decide, by decide⟩ (Nat.le_of_ble_eq_true rfl) dX7_count_29 ?_
        refine q_iload_n C dX7_count_32 rfl rfl ?_
        refine q_iload_n C dX7_count_33 rfl rfl ?_
        by_cases h_34 : lo ≤ (S 113 (32 + 14 * m + 8 + i_6)) ∧ (S 113 (32 + 14 * m + 8 + i_6)) ≤ hi
        · refine q_si3 C (q_Fi.cv (if_pos h_34) (c_X7_in l S (S 113 (32 + 14 * m + 8 + i_6)) lo hi)) msX7_in rfl mlX7_58 ⟨by decide, by decide⟩ (Nat.le_of_ble_eq_true rfl) dX7_count_34 ?_
          refine q_if_eq (tgt := 44) C dX7_count_37 (by decide) (fun h9 => absurd h9 (by decide)) (fun _ => ?_)
          refine q_iconst (v := 1) C dX7_count_40 (by decide) ?_
          refine q_goto (tgt := 45) C dX7_count_41 (by decide) ?_
          refine q_iadd C dX7_count_45 ?_
          refine q_istore (lv' := [(4, .int ((q_sum (uM_f S m lo hi) i_6) + 1)), (0, .ref 112), (1, .int (nI m)), (2, .int lo), (3, .int hi), (5, .int (nI i_6))]) C dX7_count_46 (by decide) rfl ?_
          refine q_iinc (v := nI (i_6 + 1)) (lv' := [(5, .int (nI (i_6 + 1))), (4, .int ((q_sum (uM_f S m lo hi) i_6) + 1)), (0, .ref 112), (1, .int (nI m)), (2, .int lo), (3, .int hi)]) C dX7_count_48 rfl (nI_add _ _) (by decide) rfl ?_
          refine q_goto (tgt := 6) C dX7_count_51 (by decide) ?_
          exact q_V_to (ih_6 (i_6 + 1) (by omega)) ⟨rfl, rfl, rfl, rfl, q_iv (by simp [q_sum, uM_f, c_10, Nat.not_le.mpr c_10, if_pos h_19, h_19, if_pos h_34, h_34]), rfl, trivial⟩ rfl
        · refine q_si3 C (q_Fi.cv (if_neg h_34) (c_X7_in l S (S 113 (32 + 14 * m + 8 + i_6)) lo hi)) msX7_in rfl mlX7_58 ⟨by decide, by decide⟩ (Nat.le_of_ble_eq_true rfl) dX7_count_34 ?_
          refine q_if_eq (tgt := 44) C dX7_count_37 (by decide) (fun _ => ?_) (fun h9 => absurd h9 (by decide))
          refine q_iconst (v := 0) C dX7_count_44 (by decide) ?_
          refine q_iadd C dX7_count_45 ?_
          refine q_istore (lv' := [(4, .int ((q_sum (uM_f S m lo hi) i_6) + 0)), (0, .ref 112), (1, .int (nI m)), (2, .int lo), (3, .int hi), (5, .int (nI i_6))]) C dX7_count_46 (by decide) rfl ?_
          refine q_iinc (v := nI (i_6 + 1)) (lv' := [(5, .int (nI (i_6 + 1))), (4, .int ((q_sum (uM_f S m lo hi) i_6) + 0)), (0, .ref 112), (1, .int (nI m)), (2, .int lo), (3, .int hi)]) C dX7_count_48 rfl (nI_add _ _) (by decide) rfl ?_
          refine q_goto (tgt := 6) C dX7_count_51 (by decide) ?_
          exact q_V_to (ih_6 (i_6 + 1) (by omega)) ⟨rfl, rfl, rfl, rfl, q_iv (by simp [q_sum, uM_f, c_10, Nat.not_le.mpr c_10, if_pos h_19, h_19, if_neg h_34, h_34]), rfl, trivial⟩ rfl
      · refine q_ci2 C (q_Fi.cv (if_neg h_19) (c_X7_isOf l S m (by omega) i_6 (by omega))) myX7_isOf mlX7_66 q_s112 ⟨by decide, by decide⟩ (Nat.le_of_ble_eq_true rfl) dX7_count_19 ?_
        refine q_if_eq (tgt := 44) C dX7_count_22 (by decide) (fun _ => ?_) (fun h9 => absurd h9 (by decide))
        refine q_iconst (v := 0) C dX7_count_44 (by decide) ?_
        refine q_iadd C dX7_count_45 ?_
        refine q_istore (lv' := [(4, .int ((q_sum (uM_f S m lo hi) i_6) + 0)), (0, .ref 112), (1, .int (nI m)), (2, .int lo), (3, .int hi), (5, .int (nI i_6))]) C dX7_count_46 (by decide) rfl ?_
        refine q_iinc (v := nI (i_6 + 1)) (lv' := [(5, .int (nI (i_6 + 1))), (4, .int ((q_sum (uM_f S m lo hi) i_6) + 0)), (0, .ref 112), (1, .int (nI m)), (2, .int lo), (3, .int hi)]) C dX7_count_48 rfl (nI_add _ _) (by decide) rfl ?_
        refine q_goto (tgt := 6) C dX7_count_51 (by decide) ?_
        exact q_V_to (ih_6 (i_6 + 1) (by omega)) ⟨rfl, rfl, rfl, rfl, q_iv (by simp [q_sum, uM_f, c_10, Nat.not_le.mpr c_10, if_neg h_19, h_19, Decidable.not_not.mp h_19]), rfl, trivial⟩ rfl
  exact q_V_to (loop_6 (6 - 0) 0 (by omega)) ⟨rfl, rfl, rfl, rfl, rfl, rfl, trivial⟩ rfl
theorem c_X7_matters (l : Launch) (S : q_St) (M : Nat) (hM : S 113 0 = nI M) (hM8 : M ≤ 8) (w : Int32) : q_Fi l yX7_matters kX7_matters 2 [.ref 112, .int w] S (uM_matters S M w) S := by
  refine q_Fi_of (maxL := 4) rfl (by decide +kernel) (fun ad => Nat.le_of_ble_eq_true rfl) rfl ?_
  intro K C hret
  have C : q_Cx K cX7_matters RX7 2 4 := C
  show q_V l K 0 [(0, .ref 112), (1, .int w)] [] S
  refine q_iconst (v := 0) C dX7_matters_0 (by decide) ?_
  refine q_istore_n (lv' := [(2, .int 0), (0, .ref 112), (1, .int w)]) C dX7_matters_1 rfl (by decide) rfl ?_
  refine q_iconst (v := 0) C dX7_matters_2 (by decide) ?_
  refine q_istore_n (lv' := [(3, .int 0), (2, .int 0), (0, .ref 112), (1, .int w)]) C dX7_matters_3 rfl (by decide) rfl ?_
  have loop_4 : ∀ (n_4 i_4 : Nat), i_4 + n_4 = M → q_V l K 4 [(0, .ref 112), (1, .int w), (2, .int (q_sum (uM_fM S w) i_4)), (3, .int (nI i_4))] [] S := by
    intro n_4
    induction n_4 with
    | zero =>
      intro i_4 hi_4
      have e_4 : i_4 = M := by omega
      refine q_iload_n C dX7_matters_4 rfl rfl ?_
      refine q_aload_n C dX7_matters_5 rfl rfl ?_
      refine q_getR C flX7_9 q_s112 rfl dX7_matters_6 ?_
      refine q_iconst (v := 0) C dX7_matters_9 (by decide) ?_
      refine q_ialdN (i := 0) (x := nI M) C rfl q_s113 (by omega) (by decide) dX7_matters_10 hM ?_
      refine q_icmp_geN (a := i_4) (b := M) (tgt := 37) C dX7_matters_11 (by decide) rfl rfl (by omega) (by omega) (fun c_11 => ?_) (fun c_11 => absurd c_11 (by omega))
      refine q_iload_n C dX7_matters_37 rfl rfl ?_
      exact hret _ _ _ _ dX7_matters_38 (by rw [e_4]; rfl) rfl
    | succ n_4 ih_4 =>
      intro i_4 hi_4
      refine q_iload_n C dX7_matters_4 rfl rfl ?_
      refine q_aload_n C dX7_matters_5 rfl rfl ?_
      refine q_getR C flX7_9 q_s112 rfl dX7_matters_6 ?_
      refine q_iconst (v := 0) C dX7_matters_9 (by decide) ?_
      refine q_ialdN (i := 0) (x := nI M) C rfl q_s113 (by omega) (by decide) dX7_matters_10 hM ?_
      refine q_icmp_geN (a := i_4) (b := M) (tgt := 37) C dX7_matters_11 (by decide) rfl rfl (by omega) (by omega) (fun c_11 => absurd c_11 (by omega)) (fun c_11 => ?_)
      refine q_iload_n C dX7_matters_14 rfl rfl ?_
      refine q_aload_n C dX7_matters_15 rfl rfl ?_
      refine q_iload_n C dX7_matters_16 rfl rfl ?_
      refine q_ci1 C (c_X7_how l S i_4 (by omega)) myX7_how mlX7_73 q_s112 ⟨by decide, by decide⟩ (Nat.le_of_ble_eq_true rfl) dX7_matters_17 ?_
      refine q_iload_n C dX7_matters_20 rfl rfl ?_
      refine q_icmp_ne (tgt := 28) C dX7_matters_21 (by decide)  (fun c_21 => ?_) (fun c_21 => ?_)
      · refine q_iconst (v := 0) C dX7_matters_28 (by decide) ?_
        refine q_iadd C dX7_matters_29 ?_
        refine q_istore_n (lv' := [(2, .int ((q_sum (uM_fM S w) i_4) + 0)), (0, .ref 112), (1, .int w), (3, .int (nI i_4))]) C dX7_matters_30 rfl (by decide) rfl ?_
        refine q_iinc (v := nI (i_4 + 1)) (lv' := [(3, .int (nI (i_4 + 1))), (2, .int ((q_sum (uM_fM S w) i_4) + 0)), (0, .ref 112), (1, .int w)]) C dX7_matters_31 rfl (nI_add _ _) (by decide) rfl ?_
        refine q_goto (tgt := 4) C dX7_matters_34 (by decide) ?_
        exact q_V_to (ih_4 (i_4 + 1) (by omega)) ⟨rfl, rfl, q_iv (by simp [q_sum, uM_fM, c_11, Nat.not_le.mpr c_11, c_21]), rfl, trivial⟩ rfl
      · refine q_iconst (v := 1) C dX7_matters_24 (by decide) ?_
        refine q_goto (tgt := 29) C dX7_matters_25 (by decide) ?_
        refine q_iadd C dX7_matters_29 ?_
        refine q_istore_n (lv' := [(2, .int ((q_sum (uM_fM S w) i_4) + 1)), (0, .ref 112), (1, .int w), (3, .int (nI i_4))]) C dX7_matters_30 rfl (by decide) rfl ?_
        refine q_iinc (v := nI (i_4 + 1)) (lv' := [(3, .int (nI (i_4 + 1))), (2, .int ((q_sum (uM_fM S w) i_4) + 1)), (0, .ref 112), (1, .int w)]) C dX7_matters_31 rfl (nI_add _ _) (by decide) rfl ?_
        refine q_goto (tgt := 4) C dX7_matters_34 (by decide) ?_
        exact q_V_to (ih_4 (i_4 + 1) (by omega)) ⟨rfl, rfl, q_iv (by simp [q_sum, uM_fM, c_11, Nat.not_le.mpr c_11, c_21]), rfl, trivial⟩ rfl
  exact q_V_to (loop_4 (M - 0) 0 (by omega)) ⟨rfl, rfl, rfl, rfl, trivial⟩ rfl
theorem c_X7_doubtOf (l : Launch) (S : q_St) (M : Nat) (hM : S 113 0 = nI M) (hM8 : M ≤ 8) (g : Nat) (hg : g < 6) : q_Fi l yX7_doubtOf kX7_doubtOf 3 [.ref 112, .int (nI g)] S (uM_doubt S M g) S := by
  refine q_Fi_of (maxL := 3) rfl (by decide +kernel) (fun ad => Nat.le_of_ble_eq_true rfl) rfl ?_
  intro K C hret
  have C : q_Cx K cX7_doubtOf RX7 3 3 := C
  show q_V l K 0 [(0, .ref 112), (1, .int (nI g))] [] S
  refine q_iconst (v := 0) C dX7_doubtOf_0 (by decide) ?_
  refine q_istore_n (lv' := [(2, .int 0), (0, .ref 112), (1, .int (nI g))]) C dX7_doubtOf_1 rfl (by decide) rfl ?_
  have loop_2 : ∀ (n_2 i_2 : Nat), i_2 + n_2 = M → q_find (uM_pD S g) n_2 i_2 = uM_doubt S M g → q_V l K 2 [(0, .ref 112), (1, .int (nI g)), (2, .int (nI i_2))] [] S := by
    intro n_2
    induction n_2 with
    | zero =>
      intro i_2 hi_2 hr_2
      have e_2 : i_2 = M := by omega
      refine q_iload_n C dX7_doubtOf_2 rfl rfl ?_
      refine q_aload_n C dX7_doubtOf_3 rfl rfl ?_
      refine q_getR C flX7_9 q_s112 rfl dX7_doubtOf_4 ?_
      refine q_iconst (v := 0) C dX7_doubtOf_7 (by decide) ?_
      refine q_ialdN (i := 0) (x := nI M) C rfl q_s113 (by omega) (by decide) dX7_doubtOf_8 hM ?_
      refine q_icmp_geN (a := i_2) (b := M) (tgt := 39) C dX7_doubtOf_9 (by decide) rfl rfl (by omega) (by omega) (fun c_9 => ?_) (fun c_9 => absurd c_9 (by omega))
      refine q_iconst (v := (-1)) C dX7_doubtOf_39 (by decide) ?_
      exact hret _ _ _ _ dX7_doubtOf_40 (by rw [← hr_2]; rfl) rfl
    | succ n_2 ih_2 =>
      intro i_2 hi_2 hr_2
      refine q_iload_n C dX7_doubtOf_2 rfl rfl ?_
      refine q_aload_n C dX7_doubtOf_3 rfl rfl ?_
      refine q_getR C flX7_9 q_s112 rfl dX7_doubtOf_4 ?_
      refine q_iconst (v := 0) C dX7_doubtOf_7 (by decide) ?_
      refine q_ialdN (i := 0) (x := nI M) C rfl q_s113 (by omega) (by decide) dX7_doubtOf_8 hM ?_
      refine q_icmp_geN (a := i_2) (b := M) (tgt := 39) C dX7_doubtOf_9 (by decide) rfl rfl (by omega) (by omega) (fun c_9 => absurd c_9 (by omega)) (fun c_9 => ?_)
      refine q_aload_n C dX7_doubtOf_12 rfl rfl ?_
      refine q_iload_n C dX7_doubtOf_13 rfl rfl ?_
      refine q_iload_n C dX7_doubtOf_14 rfl rfl ?_
      by_cases h_15 : S 113 (32 + 14 * i_2 + 2 + g) ≠ 0
      · refine q_ci2 C (q_Fi.cv (if_pos h_15) (c_X7_isOf l S i_2 (by omega) g (by omega))) myX7_isOf mlX7_66 q_s112 ⟨by decide, by decide⟩ (Nat.le_of_ble_eq_true rfl) dX7_doubtOf_15 ?_
        refine q_if_eq (tgt := 33) C dX7_doubtOf_18 (by decide) (fun h9 => absurd h9 (by decide)) (fun _ => ?_)
        refine q_aload_n C dX7_doubtOf_21 rfl rfl ?_
        refine q_iload_n C dX7_doubtOf_22 rfl rfl ?_
        refine q_iload_n C dX7_doubtOf_23 rfl rfl ?_
        refine q_ci2 C (c_X7_answerOf l S i_2 (by omega) g (by omega)) myX7_answerOf mlX7_70 q_s112 ⟨by decide, by decide⟩ (Nat.le_of_ble_eq_true rfl) dX7_doubtOf_24 ?_
        refine q_iconst (v := 1) C dX7_doubtOf_27 (by decide) ?_
        refine q_icmp_ne (tgt := 33) C dX7_doubtOf_28 (by decide)  (fun c_28 => ?_) (fun c_28 => ?_)
        · refine q_iinc (v := nI (i_2 + 1)) (lv' := [(2, .int (nI (i_2 + 1))), (0, .ref 112), (1, .int (nI g))]) C dX7_doubtOf_33 rfl (nI_add _ _) (by decide) rfl ?_
          refine q_goto (tgt := 2) C dX7_doubtOf_36 (by decide) ?_
          exact q_V_to (ih_2 (i_2 + 1) (by omega) (by rw [← hr_2]; simp [q_find, uM_pD, c_9, Nat.not_le.mpr c_9, if_pos h_15, h_15, c_28])) ⟨rfl, rfl, rfl, trivial⟩ rfl
        · refine q_iload_n C dX7_doubtOf_31 rfl rfl ?_
          exact hret _ _ _ _ dX7_doubtOf_32 (by rw [← hr_2]; simp [q_find, uM_pD, c_9, Nat.not_le.mpr c_9, if_pos h_15, h_15, c_28]) rfl
      · refine q_ci2 C (q_Fi.cv (if_neg h_15) (c_X7_isOf l S i_2 (by omega) g (by omega))) myX7_isOf mlX7_66 q_s112 ⟨by decide, by decide⟩ (Nat.le_of_ble_eq_true rfl) dX7_doubtOf_15 ?_
        refine q_if_eq (tgt := 33) C dX7_doubtOf_18 (by decide) (fun _ => ?_) (fun h9 => absurd h9 (by decide))
        refine q_iinc (v := nI (i_2 + 1)) (lv' := [(2, .int (nI (i_2 + 1))), (0, .ref 112), (1, .int (nI g))]) C dX7_doubtOf_33 rfl (nI_add _ _) (by decide) rfl ?_
        refine q_goto (tgt := 2) C dX7_doubtOf_36 (by decide) ?_
        exact q_V_to (ih_2 (i_2 + 1) (by omega) (by rw [← hr_2]; simp [q_find, uM_pD, c_9, Nat.not_le.mpr c_9, if_neg h_15, h_15, Decidable.not_not.mp h_15])) ⟨rfl, rfl, rfl, trivial⟩ rfl
  exact q_V_to (loop_2 (M - 0) 0 (by omega) rfl) ⟨rfl, rfl, rfl, trivial⟩ rfl
theorem c_X7_wouldBeReady (l : Launch) (S : q_St) (M : Nat) (hM : S 113 0 = nI M) (hM8 : M ≤ 8) (m : Nat) (hm : m < 8) (g : Nat) (hg : g < 6) : q_Fi l yX7_wouldBeReady kX7_wouldBeReady 4 [.ref 112, .int (nI m), .int (nI g)] S (if uM_would S M m g then 1 else 0) S := by
  refine q_Fi_of (maxL := 3) rfl (by decide +kernel) (fun ad => Nat.le_of_ble_eq_true rfl) (by split <;> rfl) ?_
  intro K C hret
  have C : q_Cx K cX7_wouldBeReady RX7 4 3 := C
  show q_V l K 0 [(0, .ref 112), (1, .int (nI m)), (2, .int (nI g))] [] S
  refine q_aload_n C dX7_wouldBeReady_0 rfl rfl ?_
  refine q_iload_n C dX7_wouldBeReady_1 rfl rfl ?_
  refine q_ci1 C (c_X7_doubtOf l S M hM hM8 g (by omega)) myX7_doubtOf mlX7_107 q_s112 ⟨by decide, by decide⟩ (Nat.le_of_ble_eq_true rfl) dX7_wouldBeReady_2 ?_
  refine q_if_ge (tgt := 31) C dX7_wouldBeReady_5 (by decide)  (fun c_5 => ?_) (fun c_5 => ?_)
  · refine q_iconst (v := 0) C dX7_wouldBeReady_31 (by decide) ?_
    exact hret _ _ _ _ dX7_wouldBeReady_32 (by simp [uM_would, c_5, Int32.not_lt.mpr c_5, if_neg (Int32.not_lt.mpr c_5)]) rfl
  · refine q_aload_n C dX7_wouldBeReady_8 rfl rfl ?_
    refine q_getR C flX7_9 q_s112 rfl dX7_wouldBeReady_9 ?_
    refine q_bipush (v := 6) C dX7_wouldBeReady_12 (by decide) ?_
    refine q_iload_n C dX7_wouldBeReady_14 rfl rfl ?_
    refine q_iaddN (a := 6) (b := g) C dX7_wouldBeReady_15 rfl rfl ?_
    refine q_ialdN (i := 6 + g) (x := S 113 (6 + g)) C rfl q_s113 (by omega) (by decide) dX7_wouldBeReady_16 rfl ?_
    refine q_aload_n C dX7_wouldBeReady_17 rfl rfl ?_
    refine q_iload_n C dX7_wouldBeReady_18 rfl rfl ?_
    refine q_iload_n C dX7_wouldBeReady_19 rfl rfl ?_
    refine q_ci2 C (c_X7_amountOf l S m (by omega) g (by omega)) myX7_amountOf mlX7_62 q_s112 ⟨by decide, by decide⟩ (Nat.le_of_ble_eq_true rfl) dX7_wouldBeReady_20 ?_
    refine q_iadd C dX7_wouldBeReady_23 ?_
    refine q_if_lt (tgt := 31) C dX7_wouldBeReady_24 (by decide)  (fun c_24 => ?_) (fun c_24 => ?_)
    · refine q_iconst (v := 0) C dX7_wouldBeReady_31 (by decide) ?_
      exact hret _ _ _ _ dX7_wouldBeReady_32 (by simp [uM_would, c_5, Int32.not_le.mpr c_5, if_pos c_5, c_24, Int32.not_le.mpr c_24, if_pos c_24]) rfl
    · refine q_iconst (v := 1) C dX7_wouldBeReady_27 (by decide) ?_
      refine q_goto (tgt := 32) C dX7_wouldBeReady_28 (by decide) ?_
      exact hret _ _ _ _ dX7_wouldBeReady_32 (by simp [uM_would, c_5, Int32.not_le.mpr c_5, if_pos c_5, c_24, Int32.not_lt.mpr c_24, if_neg (Int32.not_lt.mpr c_24)]) rfl
theorem c_X7_awake (l : Launch) (S : q_St) : q_Fi l yX7_awake kX7_awake 2 [.ref 112] S (uM_awake S) S := by
  refine q_Fi_of (maxL := 3) rfl (by decide +kernel) (fun ad => Nat.le_of_ble_eq_true rfl) rfl ?_
  intro K C hret
  have C : q_Cx K cX7_awake RX7 2 3 := C
  show q_V l K 0 [(0, .ref 112)] [] S
  refine q_iconst (v := 0) C dX7_awake_0 (by decide) ?_
  refine q_istore_n (lv' := [(1, .int 0), (0, .ref 112)]) C dX7_awake_1 rfl (by decide) rfl ?_
  refine q_iconst (v := 0) C dX7_awake_2 (by decide) ?_
  refine q_istore_n (lv' := [(2, .int 0), (1, .int 0), (0, .ref 112)]) C dX7_awake_3 rfl (by decide) rfl ?_
  have loop_4 : ∀ (n_4 i_4 : Nat), i_4 + n_4 = 6 → q_V l K 4 [(0, .ref 112), (1, .int (q_sum (uM_fW S) i_4)), (2, .int (nI i_4))] [] S := by
    intro n_4
    induction n_4 with
    | zero =>
      intro i_4 hi_4
      have e_4 : i_4 = 6 := by omega
      refine q_iload_n C dX7_awake_4 rfl rfl ?_
      refine q_bipush (v := 6) C dX7_awake_5 (by decide) ?_
      refine q_icmp_geN (a := i_4) (b := 6) (tgt := 32) C dX7_awake_7 (by decide) rfl rfl (by omega) (by omega) (fun c_7 => ?_) (fun c_7 => absurd c_7 (by omega))
      refine q_iload_n C dX7_awake_32 rfl rfl ?_
      exact hret _ _ _ _ dX7_awake_33 (by rw [e_4]; rfl) rfl
    | succ n_4 ih_4 =>
      intro i_4 hi_4
      refine q_iload_n C dX7_awake_4 rfl rfl ?_
      refine q_bipush (v := 6) C dX7_awake_5 (by decide) ?_
      refine q_icmp_geN (a := i_4) (b := 6) (tgt := 32) C dX7_awake_7 (by decide) rfl rfl (by omega) (by omega) (fun c_7 => absurd c_7 (by omega)) (fun c_7 => ?_)
      refine q_iload_n C dX7_awake_10 rfl rfl ?_
      refine q_aload_n C dX7_awake_11 rfl rfl ?_
      refine q_iload_n C dX7_awake_12 rfl rfl ?_
      by_cases h_13 : S 113 (12 + i_4) = 1
      · refine q_ci1 C (q_Fi.cv (if_pos h_13) (c_X7_isAsleep l S i_4 (by omega))) myX7_isAsleep mlX7_113 q_s112 ⟨by decide, by decide⟩ (Nat.le_of_ble_eq_true rfl) dX7_awake_13 ?_
        refine q_if_eq (tgt := 23) C dX7_awake_16 (by decide) (fun h9 => absurd h9 (by decide)) (fun _ => ?_)
        refine q_iconst (v := 0) C dX7_awake_19 (by decide) ?_
        refine q_goto (tgt := 24) C dX7_awake_20 (by decide) ?_
        refine q_iadd C dX7_awake_24 ?_
        refine q_istore_n (lv' := [(1, .int ((q_sum (uM_fW S) i_4) + 0)), (0, .ref 112), (2, .int (nI i_4))]) C dX7_awake_25 rfl (by decide) rfl ?_
        refine q_iinc (v := nI (i_4 + 1)) (lv' := [(2, .int (nI (i_4 + 1))), (1, .int ((q_sum (uM_fW S) i_4) + 0)), (0, .ref 112)]) C dX7_awake_26 rfl (nI_add _ _) (by decide) rfl ?_
        refine q_goto (tgt := 4) C dX7_awake_29 (by decide) ?_
        exact q_V_to (ih_4 (i_4 + 1) (by omega)) ⟨rfl, q_iv (by simp [q_sum, uM_fW, c_7, Nat.not_le.mpr c_7, if_pos h_13, h_13]), rfl, trivial⟩ rfl
      · refine q_ci1 C (q_Fi.cv (if_neg h_13) (c_X7_isAsleep l S i_4 (by omega))) myX7_isAsleep mlX7_113 q_s112 ⟨by decide, by decide⟩ (Nat.le_of_ble_eq_true rfl) dX7_awake_13 ?_
        refine q_if_eq (tgt := 23) C dX7_awake_16 (by decide) (fun _ => ?_) (fun h9 => absurd h9 (by decide))
        refine q_iconst (v := 1) C dX7_awake_23 (by decide) ?_
        refine q_iadd C dX7_awake_24 ?_
        refine q_istore_n (lv' := [(1, .int ((q_sum (uM_fW S) i_4) + 1)), (0, .ref 112), (2, .int (nI i_4))]) C dX7_awake_25 rfl (by decide) rfl ?_
        refine q_iinc (v := nI (i_4 + 1)) (lv' := [(2, .int (nI (i_4 + 1))), (1, .int ((q_sum (uM_fW S) i_4) + 1)), (0, .ref 112)]) C dX7_awake_26 rfl (nI_add _ _) (by decide) rfl ?_
        refine q_goto (tgt := 4) C dX7_awake_29 (by decide) ?_
        exact q_V_to (ih_4 (i_4 + 1) (by omega)) ⟨rfl, q_iv (by simp [q_sum, uM_fW, c_7, Nat.not_le.mpr c_7, if_neg h_13, h_13]), rfl, trivial⟩ rfl
  exact q_V_to (loop_4 (6 - 0) 0 (by omega)) ⟨rfl, rfl, rfl, trivial⟩ rfl
theorem c_X7_inDoubt (l : Launch) (S : q_St) (M : Nat) (hM : S 113 0 = nI M) (hM8 : M ≤ 8) : q_Fi l yX7_inDoubt kX7_inDoubt 4 [.ref 112] S (uM_inDoubt S M) S := by
  refine q_Fi_of (maxL := 3) rfl (by decide +kernel) (fun ad => Nat.le_of_ble_eq_true rfl) rfl ?_
  intro K C hret
  have C : q_Cx K cX7_inDoubt RX7 4 3 := C
  show q_V l K 0 [(0, .ref 112)] [] S
  refine q_iconst (v := 0) C dX7_inDoubt_0 (by decide) ?_
  refine q_istore_n (lv' := [(1, .int 0), (0, .ref 112)]) C dX7_inDoubt_1 rfl (by decide) rfl ?_
  refine q_iconst (v := 0) C dX7_inDoubt_2 (by decide) ?_
  refine q_istore_n (lv' := [(2, .int 0), (1, .int 0), (0, .ref 112)]) C dX7_inDoubt_3 rfl (by decide) rfl ?_
  have loop_4 : ∀ (n_4 i_4 : Nat), i_4 + n_4 = 6 → q_V l K 4 [(0, .ref 112), (1, .int (q_sum (uM_fD S M) i_4)), (2, .int (nI i_4))] [] S := by
    intro n_4
    induction n_4 with
    | zero =>
      intro i_4 hi_4
      have e_4 : i_4 = 6 := by omega
      refine q_iload_n C dX7_inDoubt_4 rfl rfl ?_
      refine q_bipush (v := 6) C dX7_inDoubt_5 (by decide) ?_
      refine q_icmp_geN (a := i_4) (b := 6) (tgt := 32) C dX7_inDoubt_7 (by decide) rfl rfl (by omega) (by omega) (fun c_7 => ?_) (fun c_7 => absurd c_7 (by omega))
      refine q_iload_n C dX7_inDoubt_32 rfl rfl ?_
      exact hret _ _ _ _ dX7_inDoubt_33 (by rw [e_4]; rfl) rfl
    | succ n_4 ih_4 =>
      intro i_4 hi_4
      refine q_iload_n C dX7_inDoubt_4 rfl rfl ?_
      refine q_bipush (v := 6) C dX7_inDoubt_5 (by decide) ?_
      refine q_icmp_geN (a := i_4) (b := 6) (tgt := 32) C dX7_inDoubt_7 (by decide) rfl rfl (by omega) (by omega) (fun c_7 => absurd c_7 (by omega)) (fun c_7 => ?_)
      refine q_iload_n C dX7_inDoubt_10 rfl rfl ?_
      refine q_aload_n C dX7_inDoubt_11 rfl rfl ?_
      refine q_iload_n C dX7_inDoubt_12 rfl rfl ?_
      refine q_ci1 C (c_X7_doubtOf l S M hM hM8 i_4 (by omega)) myX7_doubtOf mlX7_107 q_s112 ⟨by decide, by decide⟩ (Nat.le_of_ble_eq_true rfl) dX7_inDoubt_13 ?_
      refine q_if_ge (tgt := 23) C dX7_inDoubt_16 (by decide)  (fun c_16 => ?_) (fun c_16 => ?_)
      · refine q_iconst (v := 1) C dX7_inDoubt_23 (by decide) ?_
        refine q_iadd C dX7_inDoubt_24 ?_
        refine q_istore_n (lv' := [(1, .int ((q_sum (uM_fD S M) i_4) + 1)), (0, .ref 112), (2, .int (nI i_4))]) C dX7_inDoubt_25 rfl (by decide) rfl ?_
        refine q_iinc (v := nI (i_4 + 1)) (lv' := [(2, .int (nI (i_4 + 1))), (1, .int ((q_sum (uM_fD S M) i_4) + 1)), (0, .ref 112)]) C dX7_inDoubt_26 rfl (nI_add _ _) (by decide) rfl ?_
        refine q_goto (tgt := 4) C dX7_inDoubt_29 (by decide) ?_
        exact q_V_to (ih_4 (i_4 + 1) (by omega)) ⟨rfl, q_iv (by simp [q_sum, uM_fD, c_7, Nat.not_le.mpr c_7, c_16, Int32.not_lt.mpr c_16, if_neg (Int32.not_lt.mpr c_16)]), rfl, trivial⟩ rfl
      · refine q_iconst (v := 0) C dX7_inDoubt_19 (by decide) ?_
        refine q_goto (tgt := 24) C dX7_inDoubt_20 (by decide) ?_
        refine q_iadd C dX7_inDoubt_24 ?_
        refine q_istore_n (lv' := [(1, .int ((q_sum (uM_fD S M) i_4) + 0)), (0, .ref 112), (2, .int (nI i_4))]) C dX7_inDoubt_25 rfl (by decide) rfl ?_
        refine q_iinc (v := nI (i_4 + 1)) (lv' := [(2, .int (nI (i_4 + 1))), (1, .int ((q_sum (uM_fD S M) i_4) + 0)), (0, .ref 112)]) C dX7_inDoubt_26 rfl (nI_add _ _) (by decide) rfl ?_
        refine q_goto (tgt := 4) C dX7_inDoubt_29 (by decide) ?_
        exact q_V_to (ih_4 (i_4 + 1) (by omega)) ⟨rfl, q_iv (by simp [q_sum, uM_fD, c_7, Nat.not_le.mpr c_7, c_16, Int32.not_le.mpr c_16, if_pos c_16]), rfl, trivial⟩ rfl
  exact q_V_to (loop_4 (6 - 0) 0 (by omega)) ⟨rfl, rfl, rfl, trivial⟩ rfl
theorem c_X7_hoursOfDoubt (l : Launch) (S : q_St) : q_Fi l yX7_hoursOfDoubt kX7_hoursOfDoubt 1 [.ref 112] S (uM_hours S) S := by
  refine q_Fi_of (maxL := 3) rfl (by decide +kernel) (fun ad => Nat.le_of_ble_eq_true rfl) rfl ?_
  intro K C hret
  have C : q_Cx K cX7_hoursOfDoubt RX7 1 3 := C
  show q_V l K 0 [(0, .ref 112)] [] S
  refine q_iconst (v := 0) C dX7_hoursOfDoubt_0 (by decide) ?_
  refine q_istore_n (lv' := [(1, .int 0), (0, .ref 112)]) C dX7_hoursOfDoubt_1 rfl (by decide) rfl ?_
  refine q_iconst (v := 0) C dX7_hoursOfDoubt_2 (by decide) ?_
  refine q_istore_n (lv' := [(2, .int 0), (1, .int 0), (0, .ref 112)]) C dX7_hoursOfDoubt_3 rfl (by decide) rfl ?_
  have loop_4 : ∀ (n_4 i_4 : Nat), i_4 + n_4 = 6 → q_V l K 4 [(0, .ref 112), (1, .int (q_sum (fun g => S 113 (18 + g)) i_4)), (2, .int (nI i_4))] [] S := by
    intro n_4
    induction n_4 with
    | zero =>
      intro i_4 hi_4
      have e_4 : i_4 = 6 := by omega
      refine q_iload_n C dX7_hoursOfDoubt_4 rfl rfl ?_
      refine q_bipush (v := 6) C dX7_hoursOfDoubt_5 (by decide) ?_
      refine q_icmp_geN (a := i_4) (b := 6) (tgt := 28) C dX7_hoursOfDoubt_7 (by decide) rfl rfl (by omega) (by omega) (fun c_7 => ?_) (fun c_7 => absurd c_7 (by omega))
      refine q_iload_n C dX7_hoursOfDoubt_28 rfl rfl ?_
      exact hret _ _ _ _ dX7_hoursOfDoubt_29 (by rw [e_4]; rfl) rfl
    | succ n_4 ih_4 =>
      intro i_4 hi_4
      refine q_iload_n C dX7_hoursOfDoubt_4 rfl rfl ?_
      refine q_bipush (v := 6) C dX7_hoursOfDoubt_5 (by decide) ?_
      refine q_icmp_geN (a := i_4) (b := 6) (tgt := 28) C dX7_hoursOfDoubt_7 (by decide) rfl rfl (by omega) (by omega) (fun c_7 => absurd c_7 (by omega)) (fun c_7 => ?_)
      refine q_iload_n C dX7_hoursOfDoubt_10 rfl rfl ?_
      refine q_aload_n C dX7_hoursOfDoubt_11 rfl rfl ?_
      refine q_getR C flX7_9 q_s112 rfl dX7_hoursOfDoubt_12 ?_
      refine q_bipush (v := 18) C dX7_hoursOfDoubt_15 (by decide) ?_
      refine q_iload_n C dX7_hoursOfDoubt_17 rfl rfl ?_
      refine q_iaddN (a := 18) (b := i_4) C dX7_hoursOfDoubt_18 rfl rfl ?_
      refine q_ialdN (i := 18 + i_4) (x := S 113 (18 + i_4)) C rfl q_s113 (by omega) (by decide) dX7_hoursOfDoubt_19 rfl ?_
      refine q_iadd C dX7_hoursOfDoubt_20 ?_
      refine q_istore_n (lv' := [(1, .int ((q_sum (fun g => S 113 (18 + g)) i_4) + (S 113 (18 + i_4)))), (0, .ref 112), (2, .int (nI i_4))]) C dX7_hoursOfDoubt_21 rfl (by decide) rfl ?_
      refine q_iinc (v := nI (i_4 + 1)) (lv' := [(2, .int (nI (i_4 + 1))), (1, .int ((q_sum (fun g => S 113 (18 + g)) i_4) + (S 113 (18 + i_4)))), (0, .ref 112)]) C dX7_hoursOfDoubt_22 rfl (nI_add _ _) (by decide) rfl ?_
      refine q_goto (tgt := 4) C dX7_hoursOfDoubt_25 (by decide) ?_
      exact q_V_to (ih_4 (i_4 + 1) (by omega)) ⟨rfl, q_iv (by simp [q_sum, q_sum, c_7, Nat.not_le.mpr c_7]), rfl, trivial⟩ rfl
  exact q_V_to (loop_4 (6 - 0) 0 (by omega)) ⟨rfl, rfl, rfl, trivial⟩ rfl
theorem c_X7_allCoins (l : Launch) (S : q_St) : q_Fi l yX7_allCoins kX7_allCoins 1 [.ref 112] S (uM_coins S) S := by
  refine q_Fi_of (maxL := 3) rfl (by decide +kernel) (fun ad => Nat.le_of_ble_eq_true rfl) rfl ?_
  intro K C hret
  have C : q_Cx K cX7_allCoins RX7 1 3 := C
  show q_V l K 0 [(0, .ref 112)] [] S
  refine q_iconst (v := 0) C dX7_allCoins_0 (by decide) ?_
  refine q_istore_n (lv' := [(1, .int 0), (0, .ref 112)]) C dX7_allCoins_1 rfl (by decide) rfl ?_
  refine q_iconst (v := 0) C dX7_allCoins_2 (by decide) ?_
  refine q_istore_n (lv' := [(2, .int 0), (1, .int 0), (0, .ref 112)]) C dX7_allCoins_3 rfl (by decide) rfl ?_
  have loop_4 : ∀ (n_4 i_4 : Nat), i_4 + n_4 = 6 → q_V l K 4 [(0, .ref 112), (1, .int (q_sum (fun g => S 113 (6 + g)) i_4)), (2, .int (nI i_4))] [] S := by
    intro n_4
    induction n_4 with
    | zero =>
      intro i_4 hi_4
      have e_4 : i_4 = 6 := by omega
      refine q_iload_n C dX7_allCoins_4 rfl rfl ?_
      refine q_bipush (v := 6) C dX7_allCoins_5 (by decide) ?_
      refine q_icmp_geN (a := i_4) (b := 6) (tgt := 28) C dX7_allCoins_7 (by decide) rfl rfl (by omega) (by omega) (fun c_7 => ?_) (fun c_7 => absurd c_7 (by omega))
      refine q_iload_n C dX7_allCoins_28 rfl rfl ?_
      exact hret _ _ _ _ dX7_allCoins_29 (by rw [e_4]; rfl) rfl
    | succ n_4 ih_4 =>
      intro i_4 hi_4
      refine q_iload_n C dX7_allCoins_4 rfl rfl ?_
      refine q_bipush (v := 6) C dX7_allCoins_5 (by decide) ?_
      refine q_icmp_geN (a := i_4) (b := 6) (tgt := 28) C dX7_allCoins_7 (by decide) rfl rfl (by omega) (by omega) (fun c_7 => absurd c_7 (by omega)) (fun c_7 => ?_)
      refine q_iload_n C dX7_allCoins_10 rfl rfl ?_
      refine q_aload_n C dX7_allCoins_11 rfl rfl ?_
      refine q_getR C flX7_9 q_s112 rfl dX7_allCoins_12 ?_
      refine q_bipush (v := 6) C dX7_allCoins_15 (by decide) ?_
      refine q_iload_n C dX7_allCoins_17 rfl rfl ?_
      refine q_iaddN (a := 6) (b := i_4) C dX7_allCoins_18 rfl rfl ?_
      refine q_ialdN (i := 6 + i_4) (x := S 113 (6 + i_4)) C rfl q_s113 (by omega) (by decide) dX7_allCoins_19 rfl ?_
      refine q_iadd C dX7_allCoins_20 ?_
      refine q_istore_n (lv' := [(1, .int ((q_sum (fun g => S 113 (6 + g)) i_4) + (S 113 (6 + i_4)))), (0, .ref 112), (2, .int (nI i_4))]) C dX7_allCoins_21 rfl (by decide) rfl ?_
      refine q_iinc (v := nI (i_4 + 1)) (lv' := [(2, .int (nI (i_4 + 1))), (1, .int ((q_sum (fun g => S 113 (6 + g)) i_4) + (S 113 (6 + i_4)))), (0, .ref 112)]) C dX7_allCoins_22 rfl (nI_add _ _) (by decide) rfl ?_
      refine q_goto (tgt := 4) C dX7_allCoins_25 (by decide) ?_
      exact q_V_to (ih_4 (i_4 + 1) (by omega)) ⟨rfl, q_iv (by simp [q_sum, q_sum, c_7, Nat.not_le.mpr c_7]), rfl, trivial⟩ rfl
  exact q_V_to (loop_4 (6 - 0) 0 (by omega)) ⟨rfl, rfl, rfl, trivial⟩ rfl
theorem c_X7_heard (l : Launch) (S : q_St) (M : Nat) (hM : S 113 0 = nI M) (hM8 : M ≤ 8) : q_Fi l yX7_heard kX7_heard 4 [.ref 112] S (uM_heard S M) S := by
  refine q_Fi_of (maxL := 4) rfl (by decide +kernel) (fun ad => Nat.le_of_ble_eq_true rfl) rfl ?_
  intro K C hret
  have C : q_Cx K cX7_heard RX7 4 4 := C
  show q_V l K 0 [(0, .ref 112)] [] S
  refine q_iconst (v := 0) C dX7_heard_0 (by decide) ?_
  refine q_istore_n (lv' := [(1, .int 0), (0, .ref 112)]) C dX7_heard_1 rfl (by decide) rfl ?_
  refine q_iconst (v := 0) C dX7_heard_2 (by decide) ?_
  refine q_istore_n (lv' := [(2, .int 0), (1, .int 0), (0, .ref 112)]) C dX7_heard_3 rfl (by decide) rfl ?_
  have loop_4 : ∀ (n_4 i_4 : Nat), i_4 + n_4 = M → q_V l K 4 [(0, .ref 112), (1, .int (q_sum (uM_fH S) i_4)), (2, .int (nI i_4))] [] S := by
    intro n_4
    induction n_4 with
    | zero =>
      intro i_4 hi_4
      have e_4 : i_4 = M := by omega
      refine q_iload_n C dX7_heard_4 rfl rfl ?_
      refine q_aload_n C dX7_heard_5 rfl rfl ?_
      refine q_getR C flX7_9 q_s112 rfl dX7_heard_6 ?_
      refine q_iconst (v := 0) C dX7_heard_9 (by decide) ?_
      refine q_ialdN (i := 0) (x := nI M) C rfl q_s113 (by omega) (by decide) dX7_heard_10 hM ?_
      refine q_icmp_geN (a := i_4) (b := M) (tgt := 51) C dX7_heard_11 (by decide) rfl rfl (by omega) (by omega) (fun c_11 => ?_) (fun c_11 => absurd c_11 (by omega))
      refine q_iload_n C dX7_heard_51 rfl rfl ?_
      exact hret _ _ _ _ dX7_heard_52 (by rw [e_4]; rfl) rfl
    | succ n_4 ih_4 =>
      intro i_4 hi_4
      refine q_iload_n C dX7_heard_4 rfl rfl ?_
      refine q_aload_n C dX7_heard_5 rfl rfl ?_
      refine q_getR C flX7_9 q_s112 rfl dX7_heard_6 ?_
      refine q_iconst (v := 0) C dX7_heard_9 (by decide) ?_
      refine q_ialdN (i := 0) (x := nI M) C rfl q_s113 (by omega) (by decide) dX7_heard_10 hM ?_
      refine q_icmp_geN (a := i_4) (b := M) (tgt := 51) C dX7_heard_11 (by decide) rfl rfl (by omega) (by omega) (fun c_11 => absurd c_11 (by omega)) (fun c_11 => ?_)
      refine q_aload_n C dX7_heard_14 rfl rfl ?_
      refine q_iload_n C dX7_heard_15 rfl rfl ?_
      refine q_iconst (v := 0) C dX7_heard_16 (by decide) ?_
      refine q_iconst (v := 4) C dX7_heard_17 (by decide) ?_
      refine q_ci3 C (c_X7_count l S i_4 (by omega) 0 4) myX7_count mlX7_101 q_s112 ⟨by decide, by decide⟩ (Nat.le_of_ble_eq_true rfl) dX7_heard_18 ?_
      refine q_istore_n (lv' := [(3, .int (uM_cnt S i_4 0 4)), (0, .ref 112), (1, .int (q_sum (uM_fH S) i_4)), (2, .int (nI i_4))]) C dX7_heard_21 rfl (by decide) rfl ?_
      refine q_iload_n C dX7_heard_22 rfl rfl ?_
      refine q_iload_n C dX7_heard_23 rfl rfl ?_
      refine q_if_le (tgt := 42) C dX7_heard_24 (by decide)  (fun c_24 => ?_) (fun c_24 => ?_)
      · refine q_iconst (v := 0) C dX7_heard_42 (by decide) ?_
        refine q_iadd C dX7_heard_43 ?_
        refine q_istore_n (lv' := [(1, .int ((q_sum (uM_fH S) i_4) + 0)), (3, .int (uM_cnt S i_4 0 4)), (0, .ref 112), (2, .int (nI i_4))]) C dX7_heard_44 rfl (by decide) rfl ?_
        refine q_iinc (v := nI (i_4 + 1)) (lv' := [(2, .int (nI (i_4 + 1))), (1, .int ((q_sum (uM_fH S) i_4) + 0)), (3, .int (uM_cnt S i_4 0 4)), (0, .ref 112)]) C dX7_heard_45 rfl (nI_add _ _) (by decide) rfl ?_
        refine q_goto (tgt := 4) C dX7_heard_48 (by decide) ?_
        exact q_V_to (ih_4 (i_4 + 1) (by omega)) ⟨rfl, q_iv (by simp [q_sum, uM_fH, c_11, Nat.not_le.mpr c_11, c_24, Int32.not_lt.mpr c_24, if_neg (Int32.not_lt.mpr c_24)]), rfl, trivial⟩ rfl
      · refine q_aload_n C dX7_heard_27 rfl rfl ?_
        refine q_iload_n C dX7_heard_28 rfl rfl ?_
        refine q_iconst (v := 3) C dX7_heard_29 (by decide) ?_
        refine q_iconst (v := 4) C dX7_heard_30 (by decide) ?_
        refine q_ci3 C (c_X7_count l S i_4 (by omega) 3 4) myX7_count mlX7_101 q_s112 ⟨by decide, by decide⟩ (Nat.le_of_ble_eq_true rfl) dX7_heard_31 ?_
        refine q_iload_n C dX7_heard_34 rfl rfl ?_
        refine q_icmp_ne (tgt := 42) C dX7_heard_35 (by decide)  (fun c_35 => ?_) (fun c_35 => ?_)
        · refine q_iconst (v := 0) C dX7_heard_42 (by decide) ?_
          refine q_iadd C dX7_heard_43 ?_
          refine q_istore_n (lv' := [(1, .int ((q_sum (uM_fH S) i_4) + 0)), (3, .int (uM_cnt S i_4 0 4)), (0, .ref 112), (2, .int (nI i_4))]) C dX7_heard_44 rfl (by decide) rfl ?_
          refine q_iinc (v := nI (i_4 + 1)) (lv' := [(2, .int (nI (i_4 + 1))), (1, .int ((q_sum (uM_fH S) i_4) + 0)), (3, .int (uM_cnt S i_4 0 4)), (0, .ref 112)]) C dX7_heard_45 rfl (nI_add _ _) (by decide) rfl ?_
          refine q_goto (tgt := 4) C dX7_heard_48 (by decide) ?_
          exact q_V_to (ih_4 (i_4 + 1) (by omega)) ⟨rfl, q_iv (by simp [q_sum, uM_fH, c_11, Nat.not_le.mpr c_11, c_24, Int32.not_le.mpr c_24, if_pos c_24, c_35]), rfl, trivial⟩ rfl
        · refine q_iconst (v := 1) C dX7_heard_38 (by decide) ?_
          refine q_goto (tgt := 43) C dX7_heard_39 (by decide) ?_
          refine q_iadd C dX7_heard_43 ?_
          refine q_istore_n (lv' := [(1, .int ((q_sum (uM_fH S) i_4) + 1)), (3, .int (uM_cnt S i_4 0 4)), (0, .ref 112), (2, .int (nI i_4))]) C dX7_heard_44 rfl (by decide) rfl ?_
          refine q_iinc (v := nI (i_4 + 1)) (lv' := [(2, .int (nI (i_4 + 1))), (1, .int ((q_sum (uM_fH S) i_4) + 1)), (3, .int (uM_cnt S i_4 0 4)), (0, .ref 112)]) C dX7_heard_45 rfl (nI_add _ _) (by decide) rfl ?_
          refine q_goto (tgt := 4) C dX7_heard_48 (by decide) ?_
          exact q_V_to (ih_4 (i_4 + 1) (by omega)) ⟨rfl, q_iv (by simp [q_sum, uM_fH, c_11, Nat.not_le.mpr c_11, c_24, Int32.not_le.mpr c_24, if_pos c_24, c_35]), rfl, trivial⟩ rfl
  exact q_V_to (loop_4 (M - 0) 0 (by omega)) ⟨rfl, rfl, rfl, trivial⟩ rfl
