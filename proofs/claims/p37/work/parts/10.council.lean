theorem c_X1_hasMatter (l : Launch) (S : q_St) (x : Int32) : q_Fi l yX1_hasMatter kX1_hasMatter 1 [.ref 1, .int x] S (if 0 ≤ x ∧ x < S 1 0 then 1 else 0) S := by
  refine q_Fi_of (maxL := 2) rfl (by decide +kernel) (fun ad => Nat.le_of_ble_eq_true rfl) (by split <;> rfl) ?_
  intro K C hret
  have C : q_Cx K cX1_hasMatter RX1 1 2 := C
  show q_V l K 0 [(0, .ref 1), (1, .int x)] [] S
  refine q_iload_n C dX1_hasMatter_0 rfl rfl ?_
  refine q_if_lt (tgt := 16) C dX1_hasMatter_1 (by decide)  (fun c_1 => ?_) (fun c_1 => ?_)
  · refine q_iconst (v := 0) C dX1_hasMatter_16 (by decide) ?_
    exact hret _ _ _ _ dX1_hasMatter_17 (by simp [c_1, Int32.not_le.mpr c_1, if_pos c_1]) rfl
  · refine q_iload_n C dX1_hasMatter_4 rfl rfl ?_
    refine q_aload_n C dX1_hasMatter_5 rfl rfl ?_
    refine q_getI (x := S 1 0) C flX1_41 q_s1 rfl dX1_hasMatter_6 rfl ?_
    refine q_icmp_ge (tgt := 16) C dX1_hasMatter_9 (by decide)  (fun c_9 => ?_) (fun c_9 => ?_)
    · refine q_iconst (v := 0) C dX1_hasMatter_16 (by decide) ?_
      exact hret _ _ _ _ dX1_hasMatter_17 (by simp [c_1, Int32.not_lt.mpr c_1, if_neg (Int32.not_lt.mpr c_1), c_9, Int32.not_lt.mpr c_9, if_neg (Int32.not_lt.mpr c_9)]) rfl
    · refine q_iconst (v := 1) C dX1_hasMatter_12 (by decide) ?_
      refine q_goto (tgt := 17) C dX1_hasMatter_13 (by decide) ?_
      exact hret _ _ _ _ dX1_hasMatter_17 (by simp [c_1, Int32.not_lt.mpr c_1, if_neg (Int32.not_lt.mpr c_1), c_9, Int32.not_le.mpr c_9, if_pos c_9]) rfl
theorem c_X1_hasGuild (l : Launch) (S : q_St) (x : Int32) : q_Fi l yX1_hasGuild kX1_hasGuild 1 [.ref 1, .int x] S (if 0 ≤ x ∧ x < 6 then 1 else 0) S := by
  refine q_Fi_of (maxL := 2) rfl (by decide +kernel) (fun ad => Nat.le_of_ble_eq_true rfl) (by split <;> rfl) ?_
  intro K C hret
  have C : q_Cx K cX1_hasGuild RX1 1 2 := C
  show q_V l K 0 [(0, .ref 1), (1, .int x)] [] S
  refine q_iload_n C dX1_hasGuild_0 rfl rfl ?_
  refine q_if_lt (tgt := 14) C dX1_hasGuild_1 (by decide)  (fun c_1 => ?_) (fun c_1 => ?_)
  · refine q_iconst (v := 0) C dX1_hasGuild_14 (by decide) ?_
    exact hret _ _ _ _ dX1_hasGuild_15 (by simp [c_1, Int32.not_le.mpr c_1, if_pos c_1]) rfl
  · refine q_iload_n C dX1_hasGuild_4 rfl rfl ?_
    refine q_bipush (v := 6) C dX1_hasGuild_5 (by decide) ?_
    refine q_icmp_ge (tgt := 14) C dX1_hasGuild_7 (by decide)  (fun c_7 => ?_) (fun c_7 => ?_)
    · refine q_iconst (v := 0) C dX1_hasGuild_14 (by decide) ?_
      exact hret _ _ _ _ dX1_hasGuild_15 (by simp [c_1, Int32.not_lt.mpr c_1, if_neg (Int32.not_lt.mpr c_1), c_7, Int32.not_lt.mpr c_7, if_neg (Int32.not_lt.mpr c_7)]) rfl
    · refine q_iconst (v := 1) C dX1_hasGuild_10 (by decide) ?_
      refine q_goto (tgt := 15) C dX1_hasGuild_11 (by decide) ?_
      exact hret _ _ _ _ dX1_hasGuild_15 (by simp [c_1, Int32.not_lt.mpr c_1, if_neg (Int32.not_lt.mpr c_1), c_7, Int32.not_le.mpr c_7, if_pos c_7]) rfl
theorem c_X1_isGuildOf (l : Launch) (S : q_St) (m : Nat) (hm : m < 8) (g : Nat) (hg : g < 6) : q_Fi l yX1_isGuildOf kX1_isGuildOf 1 [.ref 1, .int (nI m), .int (nI g)] S (if S 5 (m * 6 + g) ≠ 0 then 1 else 0) S := by
  refine q_Fi_of (maxL := 3) rfl (by decide +kernel) (fun ad => Nat.le_of_ble_eq_true rfl) (by split <;> rfl) ?_
  intro K C hret
  have C : q_Cx K cX1_isGuildOf RX1 1 3 := C
  show q_V l K 0 [(0, .ref 1), (1, .int (nI m)), (2, .int (nI g))] [] S
  refine q_aload_n C dX1_isGuildOf_0 rfl rfl ?_
  refine q_getR C flX1_25 q_s1 rfl dX1_isGuildOf_1 ?_
  refine q_iload_n C dX1_isGuildOf_4 rfl rfl ?_
  refine q_bipush (v := 6) C dX1_isGuildOf_5 (by decide) ?_
  refine q_imulN (a := m) (b := 6) C dX1_isGuildOf_7 rfl rfl ?_
  refine q_iload_n C dX1_isGuildOf_8 rfl rfl ?_
  refine q_iaddN (a := m * 6) (b := g) C dX1_isGuildOf_9 rfl rfl ?_
  refine q_ialdN (i := m * 6 + g) (x := S 5 (m * 6 + g)) C rfl q_s5 (by omega) (by decide) dX1_isGuildOf_10 rfl ?_
  refine q_if_eq (tgt := 18) C dX1_isGuildOf_11 (by decide)  (fun c_11 => ?_) (fun c_11 => ?_)
  · refine q_iconst (v := 0) C dX1_isGuildOf_18 (by decide) ?_
    exact hret _ _ _ _ dX1_isGuildOf_19 (by simp [c_11]) rfl
  · refine q_iconst (v := 1) C dX1_isGuildOf_14 (by decide) ?_
    refine q_goto (tgt := 19) C dX1_isGuildOf_15 (by decide) ?_
    exact hret _ _ _ _ dX1_isGuildOf_19 (by simp [c_11]) rfl
theorem c_X1_amountOf (l : Launch) (S : q_St) (m : Nat) (hm : m < 8) (g : Nat) (hg : g < 6) : q_Fi l yX1_amountOf kX1_amountOf 1 [.ref 1, .int (nI m), .int (nI g)] S (S 5 (m * 6 + g)) S := by
  refine q_Fi_of (maxL := 3) rfl (by decide +kernel) (fun ad => Nat.le_of_ble_eq_true rfl) rfl ?_
  intro K C hret
  have C : q_Cx K cX1_amountOf RX1 1 3 := C
  show q_V l K 0 [(0, .ref 1), (1, .int (nI m)), (2, .int (nI g))] [] S
  refine q_aload_n C dX1_amountOf_0 rfl rfl ?_
  refine q_getR C flX1_25 q_s1 rfl dX1_amountOf_1 ?_
  refine q_iload_n C dX1_amountOf_4 rfl rfl ?_
  refine q_bipush (v := 6) C dX1_amountOf_5 (by decide) ?_
  refine q_imulN (a := m) (b := 6) C dX1_amountOf_7 rfl rfl ?_
  refine q_iload_n C dX1_amountOf_8 rfl rfl ?_
  refine q_iaddN (a := m * 6) (b := g) C dX1_amountOf_9 rfl rfl ?_
  refine q_ialdN (i := m * 6 + g) (x := S 5 (m * 6 + g)) C rfl q_s5 (by omega) (by decide) dX1_amountOf_10 rfl ?_
  exact hret _ _ _ _ dX1_amountOf_11 rfl rfl
theorem c_X1_answerOf (l : Launch) (S : q_St) (m : Nat) (hm : m < 8) (g : Nat) (hg : g < 6) : q_Fi l yX1_answerOf kX1_answerOf 1 [.ref 1, .int (nI m), .int (nI g)] S (S 6 (m * 6 + g)) S := by
  refine q_Fi_of (maxL := 3) rfl (by decide +kernel) (fun ad => Nat.le_of_ble_eq_true rfl) rfl ?_
  intro K C hret
  have C : q_Cx K cX1_answerOf RX1 1 3 := C
  show q_V l K 0 [(0, .ref 1), (1, .int (nI m)), (2, .int (nI g))] [] S
  refine q_aload_n C dX1_answerOf_0 rfl rfl ?_
  refine q_getR C flX1_28 q_s1 rfl dX1_answerOf_1 ?_
  refine q_iload_n C dX1_answerOf_4 rfl rfl ?_
  refine q_bipush (v := 6) C dX1_answerOf_5 (by decide) ?_
  refine q_imulN (a := m) (b := 6) C dX1_answerOf_7 rfl rfl ?_
  refine q_iload_n C dX1_answerOf_8 rfl rfl ?_
  refine q_iaddN (a := m * 6) (b := g) C dX1_answerOf_9 rfl rfl ?_
  refine q_ialdN (i := m * 6 + g) (x := S 6 (m * 6 + g)) C rfl q_s6 (by omega) (by decide) dX1_answerOf_10 rfl ?_
  exact hret _ _ _ _ dX1_answerOf_11 rfl rfl
theorem c_X1_giveAnswer (l : Launch) (S : q_St) (m : Nat) (hm : m < 8) (g : Nat) (hg : g < 6) (a : Int32) : q_Fv l yX1_giveAnswer kX1_giveAnswer 1 [.ref 1, .int (nI m), .int (nI g), .int a] S (q_p S 6 (m * 6 + g) a) := by
  refine q_Fv_of (maxL := 4) rfl (by decide +kernel) (fun ad => Nat.le_of_ble_eq_true rfl) ?_
  intro K C hret
  have C : q_Cx K cX1_giveAnswer RX1 1 4 := C
  show q_V l K 0 [(0, .ref 1), (1, .int (nI m)), (2, .int (nI g)), (3, .int a)] [] S
  refine q_aload_n C dX1_giveAnswer_0 rfl rfl ?_
  refine q_getR C flX1_28 q_s1 rfl dX1_giveAnswer_1 ?_
  refine q_iload_n C dX1_giveAnswer_4 rfl rfl ?_
  refine q_bipush (v := 6) C dX1_giveAnswer_5 (by decide) ?_
  refine q_imulN (a := m) (b := 6) C dX1_giveAnswer_7 rfl rfl ?_
  refine q_iload_n C dX1_giveAnswer_8 rfl rfl ?_
  refine q_iaddN (a := m * 6) (b := g) C dX1_giveAnswer_9 rfl rfl ?_
  refine q_iload_n C dX1_giveAnswer_10 rfl rfl ?_
  refine q_iastN (i := m * 6 + g) C rfl q_s6 (by omega) (by decide) dX1_giveAnswer_11 ?_
  exact hret _ _ _ dX1_giveAnswer_12 rfl
theorem c_X1_makeMatter (l : Launch) (S : q_St) (M : Nat) (hM : S 1 0 = nI M) (hM8 : M ≤ 8) (hM7 : M < 8) : q_Fi l yX1_makeMatter kX1_makeMatter 1 [.ref 1] S (S 1 0) (q_p (q_p S 3 M (S 1 2)) 1 0 (nI (M + 1))) := by
  refine q_Fi_of (maxL := 2) rfl (by decide +kernel) (fun ad => Nat.le_of_ble_eq_true rfl) rfl ?_
  intro K C hret
  have C : q_Cx K cX1_makeMatter RX1 1 2 := C
  show q_V l K 0 [(0, .ref 1)] [] S
  refine q_aload_n C dX1_makeMatter_0 rfl rfl ?_
  refine q_getI (x := nI M) C flX1_41 q_s1 rfl dX1_makeMatter_1 hM ?_
  refine q_istore_n (lv' := [(1, .int (nI M)), (0, .ref 1)]) C dX1_makeMatter_4 rfl (by decide) rfl ?_
  refine q_aload_n C dX1_makeMatter_5 rfl rfl ?_
  refine q_getR C flX1_19 q_s1 rfl dX1_makeMatter_6 ?_
  refine q_iload_n C dX1_makeMatter_9 rfl rfl ?_
  refine q_aload_n C dX1_makeMatter_10 rfl rfl ?_
  refine q_getI (x := S 1 2) C flX1_48 q_s1 rfl dX1_makeMatter_11 rfl ?_
  refine q_iastN (i := M) C rfl q_s3 (by omega) (by decide) dX1_makeMatter_14 ?_
  refine q_aload_n C dX1_makeMatter_15 rfl rfl ?_
  refine q_dup C rfl dX1_makeMatter_16 ?_
  refine q_getI (x := nI M) C flX1_41 q_s1 rfl dX1_makeMatter_17 hM ?_
  refine q_iconst (v := 1) C dX1_makeMatter_20 (by decide) ?_
  refine q_iaddN (a := M) (b := 1) C dX1_makeMatter_21 rfl rfl ?_
  refine q_put (ty9 := .int) C flX1_41 q_s1 rfl (fun _ _ _ h => by cases h; exact ⟨rfl, by decide +kernel⟩) rfl rfl dX1_makeMatter_22 ?_
  refine q_iload_n C dX1_makeMatter_25 rfl rfl ?_
  exact hret _ _ _ _ dX1_makeMatter_26 hM.symm rfl
theorem c_X1_countGuilds (l : Launch) (S : q_St) (m : Nat) (hm : m < 8) : q_Fi l yX1_countGuilds kX1_countGuilds 2 [.ref 1, .int (nI m)] S (uC_guilds S m) S := by
  refine q_Fi_of (maxL := 4) rfl (by decide +kernel) (fun ad => Nat.le_of_ble_eq_true rfl) rfl ?_
  intro K C hret
  have C : q_Cx K cX1_countGuilds RX1 2 4 := C
  show q_V l K 0 [(0, .ref 1), (1, .int (nI m))] [] S
  refine q_iconst (v := 0) C dX1_countGuilds_0 (by decide) ?_
  refine q_istore_n (lv' := [(2, .int 0), (0, .ref 1), (1, .int (nI m))]) C dX1_countGuilds_1 rfl (by decide) rfl ?_
  refine q_iconst (v := 0) C dX1_countGuilds_2 (by decide) ?_
  refine q_istore_n (lv' := [(3, .int 0), (2, .int 0), (0, .ref 1), (1, .int (nI m))]) C dX1_countGuilds_3 rfl (by decide) rfl ?_
  have loop_4 : ∀ (n_4 i_4 : Nat), i_4 + n_4 = 6 → q_V l K 4 [(0, .ref 1), (1, .int (nI m)), (2, .int (q_sum (uC_fG S m) i_4)), (3, .int (nI i_4))] [] S := by
    intro n_4
    induction n_4 with
    | zero =>
      intro i_4 hi_4
      have e_4 : i_4 = 6 := by omega
      refine q_iload_n C dX1_countGuilds_4 rfl rfl ?_
      refine q_bipush (v := 6) C dX1_countGuilds_5 (by decide) ?_
      refine q_icmp_geN (a := i_4) (b := 6) (tgt := 33) C dX1_countGuilds_7 (by decide) rfl rfl (by omega) (by omega) (fun c_7 => ?_) (fun c_7 => absurd c_7 (by omega))
      refine q_iload_n C dX1_countGuilds_33 rfl rfl ?_
      exact hret _ _ _ _ dX1_countGuilds_34 (by rw [e_4]; rfl) rfl
    | succ n_4 ih_4 =>
      intro i_4 hi_4
      refine q_iload_n C dX1_countGuilds_4 rfl rfl ?_
      refine q_bipush (v := 6) C dX1_countGuilds_5 (by decide) ?_
      refine q_icmp_geN (a := i_4) (b := 6) (tgt := 33) C dX1_countGuilds_7 (by decide) rfl rfl (by omega) (by omega) (fun c_7 => absurd c_7 (by omega)) (fun c_7 => ?_)
      refine q_iload_n C dX1_countGuilds_10 rfl rfl ?_
      refine q_aload_n C dX1_countGuilds_11 rfl rfl ?_
      refine q_iload_n C dX1_countGuilds_12 rfl rfl ?_
      refine q_iload_n C dX1_countGuilds_13 rfl rfl ?_
      by_cases h_14 : S 5 (m * 6 + i_4) ≠ 0
      · refine q_ci2 C (q_Fi.cv (if_pos h_14) (c_X1_isGuildOf l S m (by omega) i_4 (by omega))) myX1_isGuildOf mlX1_85 q_s1 ⟨by decide, by decide⟩ (Nat.le_of_ble_eq_true rfl) dX1_countGuilds_14 ?_
        refine q_if_eq (tgt := 24) C dX1_countGuilds_17 (by decide) (fun h9 => absurd h9 (by decide)) (fun _ => ?_)
        refine q_iconst (v := 1) C dX1_countGuilds_20 (by decide) ?_
        refine q_goto (tgt := 25) C dX1_countGuilds_21 (by decide) ?_
        refine q_iadd C dX1_countGuilds_25 ?_
        refine q_istore_n (lv' := [(2, .int ((q_sum (uC_fG S m) i_4) + 1)), (0, .ref 1), (1, .int (nI m)), (3, .int (nI i_4))]) C dX1_countGuilds_26 rfl (by decide) rfl ?_
        refine q_iinc (v := nI (i_4 + 1)) (lv' := [(3, .int (nI (i_4 + 1))), (2, .int ((q_sum (uC_fG S m) i_4) + 1)), (0, .ref 1), (1, .int (nI m))]) C dX1_countGuilds_27 rfl (nI_add _ _) (by decide) rfl ?_
        refine q_goto (tgt := 4) C dX1_countGuilds_30 (by decide) ?_
        exact q_V_to (ih_4 (i_4 + 1) (by omega)) ⟨rfl, rfl, q_iv (by simp [q_sum, uC_fG, c_7, Nat.not_le.mpr c_7, if_pos h_14, h_14]), rfl, trivial⟩ rfl
      · refine q_ci2 C (q_Fi.cv (if_neg h_14) (c_X1_isGuildOf l S m (by omega) i_4 (by omega))) myX1_isGuildOf mlX1_85 q_s1 ⟨by decide, by decide⟩ (Nat.le_of_ble_eq_true rfl) dX1_countGuilds_14 ?_
        refine q_if_eq (tgt := 24) C dX1_countGuilds_17 (by decide) (fun _ => ?_) (fun h9 => absurd h9 (by decide))
        refine q_iconst (v := 0) C dX1_countGuilds_24 (by decide) ?_
        refine q_iadd C dX1_countGuilds_25 ?_
        refine q_istore_n (lv' := [(2, .int ((q_sum (uC_fG S m) i_4) + 0)), (0, .ref 1), (1, .int (nI m)), (3, .int (nI i_4))]) C dX1_countGuilds_26 rfl (by decide) rfl ?_
        refine q_iinc (v := nI (i_4 + 1)) (lv' := [(3, .int (nI (i_4 + 1))), (2, .int ((q_sum (uC_fG S m) i_4) + 0)), (0, .ref 1), (1, .int (nI m))]) C dX1_countGuilds_27 rfl (nI_add _ _) (by decide) rfl ?_
        refine q_goto (tgt := 4) C dX1_countGuilds_30 (by decide) ?_
        exact q_V_to (ih_4 (i_4 + 1) (by omega)) ⟨rfl, rfl, q_iv (by simp [q_sum, uC_fG, c_7, Nat.not_le.mpr c_7, if_neg h_14, h_14, Decidable.not_not.mp h_14]), rfl, trivial⟩ rfl
  exact q_V_to (loop_4 (6 - 0) 0 (by omega)) ⟨rfl, rfl, rfl, rfl, trivial⟩ rfl
theorem c_X1_countAnswers (l : Launch) (S : q_St) (m : Nat) (hm : m < 8) (a : Int32) : q_Fi l yX1_countAnswers kX1_countAnswers 1 [.ref 1, .int (nI m), .int a] S (uC_ans S m a) S := by
  refine q_Fi_of (maxL := 6) rfl (by decide +kernel) (fun ad => Nat.le_of_ble_eq_true rfl) rfl ?_
  intro K C hret
  have C : q_Cx K cX1_countAnswers RX1 1 6 := C
  show q_V l K 0 [(0, .ref 1), (1, .int (nI m)), (2, .int a)] [] S
  refine q_iconst (v := 0) C dX1_countAnswers_0 (by decide) ?_
  refine q_istore_n (lv' := [(3, .int 0), (0, .ref 1), (1, .int (nI m)), (2, .int a)]) C dX1_countAnswers_1 rfl (by decide) rfl ?_
  refine q_iload_n C dX1_countAnswers_2 rfl rfl ?_
  refine q_bipush (v := 6) C dX1_countAnswers_3 (by decide) ?_
  refine q_imulN (a := m) (b := 6) C dX1_countAnswers_5 rfl rfl ?_
  refine q_istore (lv' := [(4, .int (nI (m * 6))), (3, .int 0), (0, .ref 1), (1, .int (nI m)), (2, .int a)]) C dX1_countAnswers_6 (by decide) rfl ?_
  refine q_iload C dX1_countAnswers_8 rfl ?_
  refine q_istore (lv' := [(5, .int (nI (m * 6))), (4, .int (nI (m * 6))), (3, .int 0), (0, .ref 1), (1, .int (nI m)), (2, .int a)]) C dX1_countAnswers_10 (by decide) rfl ?_
  have loop_12 : ∀ (n_12 i_12 : Nat), i_12 + n_12 = 6 → q_V l K 12 [(0, .ref 1), (1, .int (nI m)), (2, .int a), (3, .int (q_sum (uC_fA S m a) i_12)), (4, .int (nI (m * 6))), (5, .int (nI (m * 6 + i_12)))] [] S := by
    intro n_12
    induction n_12 with
    | zero =>
      intro i_12 hi_12
      have e_12 : i_12 = 6 := by omega
      refine q_iload C dX1_countAnswers_12 rfl ?_
      refine q_iload C dX1_countAnswers_14 rfl ?_
      refine q_bipush (v := 6) C dX1_countAnswers_16 (by decide) ?_
      refine q_iaddN (a := m * 6) (b := 6) C dX1_countAnswers_18 rfl rfl ?_
      refine q_icmp_geN (a := m * 6 + i_12) (b := m * 6 + 6) (tgt := 57) C dX1_countAnswers_19 (by decide) rfl rfl (by omega) (by omega) (fun c_19 => ?_) (fun c_19 => absurd c_19 (by omega))
      refine q_iload_n C dX1_countAnswers_57 rfl rfl ?_
      exact hret _ _ _ _ dX1_countAnswers_58 (by rw [e_12]; rfl) rfl
    | succ n_12 ih_12 =>
      intro i_12 hi_12
      refine q_iload C dX1_countAnswers_12 rfl ?_
      refine q_iload C dX1_countAnswers_14 rfl ?_
      refine q_bipush (v := 6) C dX1_countAnswers_16 (by decide) ?_
      refine q_iaddN (a := m * 6) (b := 6) C dX1_countAnswers_18 rfl rfl ?_
      refine q_icmp_geN (a := m * 6 + i_12) (b := m * 6 + 6) (tgt := 57) C dX1_countAnswers_19 (by decide) rfl rfl (by omega) (by omega) (fun c_19 => absurd c_19 (by omega)) (fun c_19 => ?_)
      refine q_iload_n C dX1_countAnswers_22 rfl rfl ?_
      refine q_aload_n C dX1_countAnswers_23 rfl rfl ?_
      refine q_getR C flX1_25 q_s1 rfl dX1_countAnswers_24 ?_
      refine q_iload C dX1_countAnswers_27 rfl ?_
      refine q_ialdN (i := m * 6 + i_12) (x := S 5 (m * 6 + i_12)) C rfl q_s5 (by omega) (by decide) dX1_countAnswers_29 rfl ?_
      refine q_if_eq (tgt := 48) C dX1_countAnswers_30 (by decide)  (fun c_30 => ?_) (fun c_30 => ?_)
      · refine q_iconst (v := 0) C dX1_countAnswers_48 (by decide) ?_
        refine q_iadd C dX1_countAnswers_49 ?_
        refine q_istore_n (lv' := [(3, .int ((q_sum (uC_fA S m a) i_12) + 0)), (0, .ref 1), (1, .int (nI m)), (2, .int a), (4, .int (nI (m * 6))), (5, .int (nI (m * 6 + i_12)))]) C dX1_countAnswers_50 rfl (by decide) rfl ?_
        refine q_iinc (v := nI (m * 6 + i_12 + 1)) (lv' := [(5, .int (nI (m * 6 + i_12 + 1))), (3, .int ((q_sum (uC_fA S m a) i_12) + 0)), (0, .ref 1), (1, .int (nI m)), (2, .int a), (4, .int (nI (m * 6)))]) C dX1_countAnswers_51 rfl (nI_add _ _) (by decide) rfl ?_
        refine q_goto (tgt := 12) C dX1_countAnswers_54 (by decide) ?_
        exact q_V_to (ih_12 (i_12 + 1) (by omega)) ⟨rfl, rfl, rfl, q_iv (by simp [q_sum, uC_fA, c_19, Nat.not_le.mpr c_19, c_30]), rfl, rfl, trivial⟩ rfl
      · refine q_aload_n C dX1_countAnswers_33 rfl rfl ?_
        refine q_getR C flX1_28 q_s1 rfl dX1_countAnswers_34 ?_
        refine q_iload C dX1_countAnswers_37 rfl ?_
        refine q_ialdN (i := m * 6 + i_12) (x := S 6 (m * 6 + i_12)) C rfl q_s6 (by omega) (by decide) dX1_countAnswers_39 rfl ?_
        refine q_iload_n C dX1_countAnswers_40 rfl rfl ?_
        refine q_icmp_ne (tgt := 48) C dX1_countAnswers_41 (by decide)  (fun c_41 => ?_) (fun c_41 => ?_)
        · refine q_iconst (v := 0) C dX1_countAnswers_48 (by decide) ?_
          refine q_iadd C dX1_countAnswers_49 ?_
          refine q_istore_n (lv' := [(3, .int ((q_sum (uC_fA S m a) i_12) + 0)), (0, .ref 1), (1, .int (nI m)), (2, .int a), (4, .int (nI (m * 6))), (5, .int (nI (m * 6 + i_12)))]) C dX1_countAnswers_50 rfl (by decide) rfl ?_
          refine q_iinc (v := nI (m * 6 + i_12 + 1)) (lv' := [(5, .int (nI (m * 6 + i_12 + 1))), (3, .int ((q_sum (uC_fA S m a) i_12) + 0)), (0, .ref 1), (1, .int (nI m)), (2, .int a), (4, .int (nI (m * 6)))]) C dX1_countAnswers_51 rfl (nI_add _ _) (by decide) rfl ?_
          refine q_goto (tgt := 12) C dX1_countAnswers_54 (by decide) ?_
          exact q_V_to (ih_12 (i_12 + 1) (by omega)) ⟨rfl, rfl, rfl, q_iv (by simp [q_sum, uC_fA, c_19, Nat.not_le.mpr c_19, c_30, c_41]), rfl, rfl, trivial⟩ rfl
        · refine q_iconst (v := 1) C dX1_countAnswers_44 (by decide) ?_
          refine q_goto (tgt := 49) C dX1_countAnswers_45 (by decide) ?_
          refine q_iadd C dX1_countAnswers_49 ?_
          refine q_istore_n (lv' := [(3, .int ((q_sum (uC_fA S m a) i_12) + 1)), (0, .ref 1), (1, .int (nI m)), (2, .int a), (4, .int (nI (m * 6))), (5, .int (nI (m * 6 + i_12)))]) C dX1_countAnswers_50 rfl (by decide) rfl ?_
          refine q_iinc (v := nI (m * 6 + i_12 + 1)) (lv' := [(5, .int (nI (m * 6 + i_12 + 1))), (3, .int ((q_sum (uC_fA S m a) i_12) + 1)), (0, .ref 1), (1, .int (nI m)), (2, .int a), (4, .int (nI (m * 6)))]) C dX1_countAnswers_51 rfl (nI_add _ _) (by decide) rfl ?_
          refine q_goto (tgt := 12) C dX1_countAnswers_54 (by decide) ?_
          exact q_V_to (ih_12 (i_12 + 1) (by omega)) ⟨rfl, rfl, rfl, q_iv (by simp [q_sum, uC_fA, c_19, Nat.not_le.mpr c_19, c_30, c_41]), rfl, rfl, trivial⟩ rfl
  exact q_V_to (loop_12 (6 - 0) 0 (by omega)) ⟨rfl, rfl, rfl, rfl, rfl, rfl, trivial⟩ rfl
theorem c_X1_countAnswered (l : Launch) (S : q_St) (m : Nat) (hm : m < 8) : q_Fi l yX1_countAnswered kX1_countAnswered 3 [.ref 1, .int (nI m)] S (uC_answered S m) S := by
  refine q_Fi_of (maxL := 2) rfl (by decide +kernel) (fun ad => Nat.le_of_ble_eq_true rfl) rfl ?_
  intro K C hret
  have C : q_Cx K cX1_countAnswered RX1 3 2 := C
  show q_V l K 0 [(0, .ref 1), (1, .int (nI m))] [] S
  refine q_aload_n C dX1_countAnswered_0 rfl rfl ?_
  refine q_iload_n C dX1_countAnswered_1 rfl rfl ?_
  refine q_ci1 C (c_X1_countGuilds l S m (by omega)) myX1_countGuilds mlX1_63 q_s1 ⟨by decide, by decide⟩ (Nat.le_of_ble_eq_true rfl) dX1_countAnswered_2 ?_
  refine q_aload_n C dX1_countAnswered_5 rfl rfl ?_
  refine q_iload_n C dX1_countAnswered_6 rfl rfl ?_
  refine q_iconst (v := 0) C dX1_countAnswered_7 (by decide) ?_
  refine q_ci2 C (c_X1_countAnswers l S m (by omega) 0) myX1_countAnswers mlX1_99 q_s1 ⟨by decide, by decide⟩ (Nat.le_of_ble_eq_true rfl) dX1_countAnswered_8 ?_
  refine q_isub C dX1_countAnswered_11 ?_
  exact hret _ _ _ _ dX1_countAnswered_12 rfl rfl
theorem c_X1_countHeard (l : Launch) (S : q_St) (m : Nat) (hm : m < 8) : q_Fi l yX1_countHeard kX1_countHeard 3 [.ref 1, .int (nI m)] S (uC_heard S m) S := by
  refine q_Fi_of (maxL := 2) rfl (by decide +kernel) (fun ad => Nat.le_of_ble_eq_true rfl) rfl ?_
  intro K C hret
  have C : q_Cx K cX1_countHeard RX1 3 2 := C
  show q_V l K 0 [(0, .ref 1), (1, .int (nI m))] [] S
  refine q_aload_n C dX1_countHeard_0 rfl rfl ?_
  refine q_iload_n C dX1_countHeard_1 rfl rfl ?_
  refine q_iconst (v := 3) C dX1_countHeard_2 (by decide) ?_
  refine q_ci2 C (c_X1_countAnswers l S m (by omega) 3) myX1_countAnswers mlX1_99 q_s1 ⟨by decide, by decide⟩ (Nat.le_of_ble_eq_true rfl) dX1_countHeard_3 ?_
  refine q_aload_n C dX1_countHeard_6 rfl rfl ?_
  refine q_iload_n C dX1_countHeard_7 rfl rfl ?_
  refine q_iconst (v := 4) C dX1_countHeard_8 (by decide) ?_
  refine q_ci2 C (c_X1_countAnswers l S m (by omega) 4) myX1_countAnswers mlX1_99 q_s1 ⟨by decide, by decide⟩ (Nat.le_of_ble_eq_true rfl) dX1_countHeard_9 ?_
  refine q_iadd C dX1_countHeard_12 ?_
  exact hret _ _ _ _ dX1_countHeard_13 rfl rfl
theorem c_X1_sumOfAmounts (l : Launch) (S : q_St) (m : Nat) (hm : m < 8) : q_Fi l yX1_sumOfAmounts kX1_sumOfAmounts 2 [.ref 1, .int (nI m)] S (uC_sumA S m) S := by
  refine q_Fi_of (maxL := 4) rfl (by decide +kernel) (fun ad => Nat.le_of_ble_eq_true rfl) rfl ?_
  intro K C hret
  have C : q_Cx K cX1_sumOfAmounts RX1 2 4 := C
  show q_V l K 0 [(0, .ref 1), (1, .int (nI m))] [] S
  refine q_iconst (v := 0) C dX1_sumOfAmounts_0 (by decide) ?_
  refine q_istore_n (lv' := [(2, .int 0), (0, .ref 1), (1, .int (nI m))]) C dX1_sumOfAmounts_1 rfl (by decide) rfl ?_
  refine q_iconst (v := 0) C dX1_sumOfAmounts_2 (by decide) ?_
  refine q_istore_n (lv' := [(3, .int 0), (2, .int 0), (0, .ref 1), (1, .int (nI m))]) C dX1_sumOfAmounts_3 rfl (by decide) rfl ?_
  have loop_4 : ∀ (n_4 i_4 : Nat), i_4 + n_4 = 6 → q_V l K 4 [(0, .ref 1), (1, .int (nI m)), (2, .int (q_sum (fun g => S 5 (m * 6 + g)) i_4)), (3, .int (nI i_4))] [] S := by
    intro n_4
    induction n_4 with
    | zero =>
      intro i_4 hi_4
      have e_4 : i_4 = 6 := by omega
      refine q_iload_n C dX1_sumOfAmounts_4 rfl rfl ?_
      refine q_bipush (v := 6) C dX1_sumOfAmounts_5 (by decide) ?_
      refine q_icmp_geN (a := i_4) (b := 6) (tgt := 25) C dX1_sumOfAmounts_7 (by decide) rfl rfl (by omega) (by omega) (fun c_7 => ?_) (fun c_7 => absurd c_7 (by omega))
      refine q_iload_n C dX1_sumOfAmounts_25 rfl rfl ?_
      exact hret _ _ _ _ dX1_sumOfAmounts_26 (by rw [e_4]; rfl) rfl
    | succ n_4 ih_4 =>
      intro i_4 hi_4
      refine q_iload_n C dX1_sumOfAmounts_4 rfl rfl ?_
      refine q_bipush (v := 6) C dX1_sumOfAmounts_5 (by decide) ?_
      refine q_icmp_geN (a := i_4) (b := 6) (tgt := 25) C dX1_sumOfAmounts_7 (by decide) rfl rfl (by omega) (by omega) (fun c_7 => absurd c_7 (by omega)) (fun c_7 => ?_)
      refine q_iload_n C dX1_sumOfAmounts_10 rfl rfl ?_
      refine q_aload_n C dX1_sumOfAmounts_11 rfl rfl ?_
      refine q_iload_n C dX1_sumOfAmounts_12 rfl rfl ?_
      refine q_iload_n C dX1_sumOfAmounts_13 rfl rfl ?_
      refine q_ci2 C (c_X1_amountOf l S m (by omega) i_4 (by omega)) myX1_amountOf mlX1_82 q_s1 ⟨by decide, by decide⟩ (Nat.le_of_ble_eq_true rfl) dX1_sumOfAmounts_14 ?_
      refine q_iadd C dX1_sumOfAmounts_17 ?_
      refine q_istore_n (lv' := [(2, .int ((q_sum (fun g => S 5 (m * 6 + g)) i_4) + (S 5 (m * 6 + i_4)))), (0, .ref 1), (1, .int (nI m)), (3, .int (nI i_4))]) C dX1_sumOfAmounts_18 rfl (by decide) rfl ?_
      refine q_iinc (v := nI (i_4 + 1)) (lv' := [(3, .int (nI (i_4 + 1))), (2, .int ((q_sum (fun g => S 5 (m * 6 + g)) i_4) + (S 5 (m * 6 + i_4)))), (0, .ref 1), (1, .int (nI m))]) C dX1_sumOfAmounts_19 rfl (nI_add _ _) (by decide) rfl ?_
      refine q_goto (tgt := 4) C dX1_sumOfAmounts_22 (by decide) ?_
      exact q_V_to (ih_4 (i_4 + 1) (by omega)) ⟨rfl, rfl, q_iv (by simp [q_sum, q_sum, c_7, Nat.not_le.mpr c_7]), rfl, trivial⟩ rfl
  exact q_V_to (loop_4 (6 - 0) 0 (by omega)) ⟨rfl, rfl, rfl, rfl, trivial⟩ rfl
theorem c_X1_doubtOf (l : Launch) (S : q_St) (M : Nat) (hM : S 1 0 = nI M) (hM8 : M ≤ 8) (g : Nat) (hg : g < 6) : q_Fi l yX1_doubtOf kX1_doubtOf 2 [.ref 1, .int (nI g)] S (uC_doubt S M g) S := by
  refine q_Fi_of (maxL := 3) rfl (by decide +kernel) (fun ad => Nat.le_of_ble_eq_true rfl) rfl ?_
  intro K C hret
  have C : q_Cx K cX1_doubtOf RX1 2 3 := C
  show q_V l K 0 [(0, .ref 1), (1, .int (nI g))] [] S
  refine q_iconst (v := 0) C dX1_doubtOf_0 (by decide) ?_
  refine q_istore_n (lv' := [(2, .int 0), (0, .ref 1), (1, .int (nI g))]) C dX1_doubtOf_1 rfl (by decide) rfl ?_
  have loop_2 : ∀ (n_2 i_2 : Nat), i_2 + n_2 = M → q_find (fun m => decide (S 6 (m * 6 + g) = 1)) n_2 i_2 = uC_doubt S M g → q_V l K 2 [(0, .ref 1), (1, .int (nI g)), (2, .int (nI i_2))] [] S := by
    intro n_2
    induction n_2 with
    | zero =>
      intro i_2 hi_2 hr_2
      have e_2 : i_2 = M := by omega
      refine q_iload_n C dX1_doubtOf_2 rfl rfl ?_
      refine q_aload_n C dX1_doubtOf_3 rfl rfl ?_
      refine q_getI (x := nI M) C flX1_41 q_s1 rfl dX1_doubtOf_4 hM ?_
      refine q_icmp_geN (a := i_2) (b := M) (tgt := 28) C dX1_doubtOf_7 (by decide) rfl rfl (by omega) (by omega) (fun c_7 => ?_) (fun c_7 => absurd c_7 (by omega))
      refine q_iconst (v := (-1)) C dX1_doubtOf_28 (by decide) ?_
      exact hret _ _ _ _ dX1_doubtOf_29 hr_2 rfl
    | succ n_2 ih_2 =>
      intro i_2 hi_2 hr_2
      refine q_iload_n C dX1_doubtOf_2 rfl rfl ?_
      refine q_aload_n C dX1_doubtOf_3 rfl rfl ?_
      refine q_getI (x := nI M) C flX1_41 q_s1 rfl dX1_doubtOf_4 hM ?_
      refine q_icmp_geN (a := i_2) (b := M) (tgt := 28) C dX1_doubtOf_7 (by decide) rfl rfl (by omega) (by omega) (fun c_7 => absurd c_7 (by omega)) (fun c_7 => ?_)
      refine q_aload_n C dX1_doubtOf_10 rfl rfl ?_
      refine q_iload_n C dX1_doubtOf_11 rfl rfl ?_
      refine q_iload_n C dX1_doubtOf_12 rfl rfl ?_
      refine q_ci2 C (c_X1_answerOf l S i_2 (by omega) g (by omega)) myX1_answerOf mlX1_75 q_s1 ⟨by decide, by decide⟩ (Nat.le_of_ble_eq_true rfl) dX1_doubtOf_13 ?_
      refine q_iconst (v := 1) C dX1_doubtOf_16 (by decide) ?_
      refine q_icmp_ne (tgt := 22) C dX1_doubtOf_17 (by decide)  (fun c_17 => ?_) (fun c_17 => ?_)
      · refine q_iinc (v := nI (i_2 + 1)) (lv' := [(2, .int (nI (i_2 + 1))), (0, .ref 1), (1, .int (nI g))]) C dX1_doubtOf_22 rfl (nI_add _ _) (by decide) rfl ?_
        refine q_goto (tgt := 2) C dX1_doubtOf_25 (by decide) ?_
        exact q_V_to (ih_2 (i_2 + 1) (by omega) (by rw [← hr_2]; simp [q_find, c_7, Nat.not_le.mpr c_7, c_17])) ⟨rfl, rfl, rfl, trivial⟩ rfl
      · refine q_iload_n C dX1_doubtOf_20 rfl rfl ?_
        exact hret _ _ _ _ dX1_doubtOf_21 (by rw [← hr_2]; simp [q_find, c_7, Nat.not_le.mpr c_7, c_17]) rfl
  exact q_V_to (loop_2 (M - 0) 0 (by omega) rfl) ⟨rfl, rfl, rfl, trivial⟩ rfl
theorem c_X1_countMatters (l : Launch) (S : q_St) (M : Nat) (hM : S 1 0 = nI M) (hM8 : M ≤ 8) (a : Int32) : q_Fi l yX1_countMatters kX1_countMatters 1 [.ref 1, .int a] S (uC_matters S M a) S := by
  refine q_Fi_of (maxL := 4) rfl (by decide +kernel) (fun ad => Nat.le_of_ble_eq_true rfl) rfl ?_
  intro K C hret
  have C : q_Cx K cX1_countMatters RX1 1 4 := C
  show q_V l K 0 [(0, .ref 1), (1, .int a)] [] S
  refine q_iconst (v := 0) C dX1_countMatters_0 (by decide) ?_
  refine q_istore_n (lv' := [(2, .int 0), (0, .ref 1), (1, .int a)]) C dX1_countMatters_1 rfl (by decide) rfl ?_
  refine q_iconst (v := 0) C dX1_countMatters_2 (by decide) ?_
  refine q_istore_n (lv' := [(3, .int 0), (2, .int 0), (0, .ref 1), (1, .int a)]) C dX1_countMatters_3 rfl (by decide) rfl ?_
  have loop_4 : ∀ (n_4 i_4 : Nat), i_4 + n_4 = M → q_V l K 4 [(0, .ref 1), (1, .int a), (2, .int (q_sum (uC_fM S a) i_4)), (3, .int (nI i_4))] [] S := by
    intro n_4
    induction n_4 with
    | zero =>
      intro i_4 hi_4
      have e_4 : i_4 = M := by omega
      refine q_iload_n C dX1_countMatters_4 rfl rfl ?_
      refine q_aload_n C dX1_countMatters_5 rfl rfl ?_
      refine q_getI (x := nI M) C flX1_41 q_s1 rfl dX1_countMatters_6 hM ?_
      refine q_icmp_geN (a := i_4) (b := M) (tgt := 36) C dX1_countMatters_9 (by decide) rfl rfl (by omega) (by omega) (fun c_9 => ?_) (fun c_9 => absurd c_9 (by omega))
      refine q_iload_n C dX1_countMatters_36 rfl rfl ?_
      exact hret _ _ _ _ dX1_countMatters_37 (by rw [e_4]; rfl) rfl
    | succ n_4 ih_4 =>
      intro i_4 hi_4
      refine q_iload_n C dX1_countMatters_4 rfl rfl ?_
      refine q_aload_n C dX1_countMatters_5 rfl rfl ?_
      refine q_getI (x := nI M) C flX1_41 q_s1 rfl dX1_countMatters_6 hM ?_
      refine q_icmp_geN (a := i_4) (b := M) (tgt := 36) C dX1_countMatters_9 (by decide) rfl rfl (by omega) (by omega) (fun c_9 => absurd c_9 (by omega)) (fun c_9 => ?_)
      refine q_iload_n C dX1_countMatters_12 rfl rfl ?_
      refine q_aload_n C dX1_countMatters_13 rfl rfl ?_
      refine q_getR C flX1_15 q_s1 rfl dX1_countMatters_14 ?_
      refine q_iload_n C dX1_countMatters_17 rfl rfl ?_
      refine q_ialdN (i := i_4) (x := S 2 i_4) C rfl q_s2 (by omega) (by decide) dX1_countMatters_18 rfl ?_
      refine q_iload_n C dX1_countMatters_19 rfl rfl ?_
      refine q_icmp_ne (tgt := 27) C dX1_countMatters_20 (by decide)  (fun c_20 => ?_) (fun c_20 => ?_)
      · refine q_iconst (v := 0) C dX1_countMatters_27 (by decide) ?_
        refine q_iadd C dX1_countMatters_28 ?_
        refine q_istore_n (lv' := [(2, .int ((q_sum (uC_fM S a) i_4) + 0)), (0, .ref 1), (1, .int a), (3, .int (nI i_4))]) C dX1_countMatters_29 rfl (by decide) rfl ?_
        refine q_iinc (v := nI (i_4 + 1)) (lv' := [(3, .int (nI (i_4 + 1))), (2, .int ((q_sum (uC_fM S a) i_4) + 0)), (0, .ref 1), (1, .int a)]) C dX1_countMatters_30 rfl (nI_add _ _) (by decide) rfl ?_
        refine q_goto (tgt := 4) C dX1_countMatters_33 (by decide) ?_
        exact q_V_to (ih_4 (i_4 + 1) (by omega)) ⟨rfl, rfl, q_iv (by simp [q_sum, uC_fM, c_9, Nat.not_le.mpr c_9, c_20]), rfl, trivial⟩ rfl
      · refine q_iconst (v := 1) C dX1_countMatters_23 (by decide) ?_
        refine q_goto (tgt := 28) C dX1_countMatters_24 (by decide) ?_
        refine q_iadd C dX1_countMatters_28 ?_
        refine q_istore_n (lv' := [(2, .int ((q_sum (uC_fM S a) i_4) + 1)), (0, .ref 1), (1, .int a), (3, .int (nI i_4))]) C dX1_countMatters_29 rfl (by decide) rfl ?_
        refine q_iinc (v := nI (i_4 + 1)) (lv' := [(3, .int (nI (i_4 + 1))), (2, .int ((q_sum (uC_fM S a) i_4) + 1)), (0, .ref 1), (1, .int a)]) C dX1_countMatters_30 rfl (nI_add _ _) (by decide) rfl ?_
        refine q_goto (tgt := 4) C dX1_countMatters_33 (by decide) ?_
        exact q_V_to (ih_4 (i_4 + 1) (by omega)) ⟨rfl, rfl, q_iv (by simp [q_sum, uC_fM, c_9, Nat.not_le.mpr c_9, c_20]), rfl, trivial⟩ rfl
  exact q_V_to (loop_4 (M - 0) 0 (by omega)) ⟨rfl, rfl, rfl, rfl, trivial⟩ rfl
theorem c_X1_countMattersOf (l : Launch) (S : q_St) (M : Nat) (hM : S 1 0 = nI M) (hM8 : M ≤ 8) (g : Nat) (hg : g < 6) (a : Int32) : q_Fi l yX1_countMattersOf kX1_countMattersOf 2 [.ref 1, .int (nI g), .int a] S (uC_mattersOf S M g a) S := by
  refine q_Fi_of (maxL := 5) rfl (by decide +kernel) (fun ad => Nat.le_of_ble_eq_true rfl) rfl ?_
  intro K C hret
  have C : q_Cx K cX1_countMattersOf RX1 2 5 := C
  show q_V l K 0 [(0, .ref 1), (1, .int (nI g)), (2, .int a)] [] S
  refine q_iconst (v := 0) C dX1_countMattersOf_0 (by decide) ?_
  refine q_istore_n (lv' := [(3, .int 0), (0, .ref 1), (1, .int (nI g)), (2, .int a)]) C dX1_countMattersOf_1 rfl (by decide) rfl ?_
  refine q_iconst (v := 0) C dX1_countMattersOf_2 (by decide) ?_
  refine q_istore (lv' := [(4, .int 0), (3, .int 0), (0, .ref 1), (1, .int (nI g)), (2, .int a)]) C dX1_countMattersOf_3 (by decide) rfl ?_
  have loop_5 : ∀ (n_5 i_5 : Nat), i_5 + n_5 = M → q_V l K 5 [(0, .ref 1), (1, .int (nI g)), (2, .int a), (3, .int (q_sum (uC_fMo S g a) i_5)), (4, .int (nI i_5))] [] S := by
    intro n_5
    induction n_5 with
    | zero =>
      intro i_5 hi_5
      have e_5 : i_5 = M := by omega
      refine q_iload C dX1_countMattersOf_5 rfl ?_
      refine q_aload_n C dX1_countMattersOf_7 rfl rfl ?_
      refine q_getI (x := nI M) C flX1_41 q_s1 rfl dX1_countMattersOf_8 hM ?_
      refine q_icmp_geN (a := i_5) (b := M) (tgt := 39) C dX1_countMattersOf_11 (by decide) rfl rfl (by omega) (by omega) (fun c_11 => ?_) (fun c_11 => absurd c_11 (by omega))
      refine q_iload_n C dX1_countMattersOf_39 rfl rfl ?_
      exact hret _ _ _ _ dX1_countMattersOf_40 (by rw [e_5]; rfl) rfl
    | succ n_5 ih_5 =>
      intro i_5 hi_5
      refine q_iload C dX1_countMattersOf_5 rfl ?_
      refine q_aload_n C dX1_countMattersOf_7 rfl rfl ?_
      refine q_getI (x := nI M) C flX1_41 q_s1 rfl dX1_countMattersOf_8 hM ?_
      refine q_icmp_geN (a := i_5) (b := M) (tgt := 39) C dX1_countMattersOf_11 (by decide) rfl rfl (by omega) (by omega) (fun c_11 => absurd c_11 (by omega)) (fun c_11 => ?_)
      refine q_iload_n C dX1_countMattersOf_14 rfl rfl ?_
      refine q_aload_n C dX1_countMattersOf_15 rfl rfl ?_
      refine q_iload C dX1_countMattersOf_16 rfl ?_
      refine q_iload_n C dX1_countMattersOf_18 rfl rfl ?_
      refine q_ci2 C (c_X1_answerOf l S i_5 (by omega) g (by omega)) myX1_answerOf mlX1_75 q_s1 ⟨by decide, by decide⟩ (Nat.le_of_ble_eq_true rfl) dX1_countMattersOf_19 ?_
      refine q_iload_n C dX1_countMattersOf_22 rfl rfl ?_
      refine q_icmp_ne (tgt := 30) C dX1_countMattersOf_23 (by decide)  (fun c_23 => ?_) (fun c_23 => ?_)
      · refine q_iconst (v := 0) C dX1_countMattersOf_30 (by decide) ?_
        refine q_iadd C dX1_countMattersOf_31 ?_
        refine q_istore_n (lv' := [(3, .int ((q_sum (uC_fMo S g a) i_5) + 0)), (0, .ref 1), (1, .int (nI g)), (2, .int a), (4, .int (nI i_5))]) C dX1_countMattersOf_32 rfl (by decide) rfl ?_
        refine q_iinc (v := nI (i_5 + 1)) (lv' := [(4, .int (nI (i_5 + 1))), (3, .int ((q_sum (uC_fMo S g a) i_5) + 0)), (0, .ref 1), (1, .int (nI g)), (2, .int a)]) C dX1_countMattersOf_33 rfl (nI_add _ _) (by decide) rfl ?_
        refine q_goto (tgt := 5) C dX1_countMattersOf_36 (by decide) ?_
        exact q_V_to (ih_5 (i_5 + 1) (by omega)) ⟨rfl, rfl, rfl, q_iv (by simp [q_sum, uC_fMo, c_11, Nat.not_le.mpr c_11, c_23]), rfl, trivial⟩ rfl
      · refine q_iconst (v := 1) C dX1_countMattersOf_26 (by decide) ?_
        refine q_goto (tgt := 31) C dX1_countMattersOf_27 (by decide) ?_
        refine q_iadd C dX1_countMattersOf_31 ?_
        refine q_istore_n (lv' := [(3, .int ((q_sum (uC_fMo S g a) i_5) + 1)), (0, .ref 1), (1, .int (nI g)), (2, .int a), (4, .int (nI i_5))]) C dX1_countMattersOf_32 rfl (by decide) rfl ?_
        refine q_iinc (v := nI (i_5 + 1)) (lv' := [(4, .int (nI (i_5 + 1))), (3, .int ((q_sum (uC_fMo S g a) i_5) + 1)), (0, .ref 1), (1, .int (nI g)), (2, .int a)]) C dX1_countMattersOf_33 rfl (nI_add _ _) (by decide) rfl ?_
        refine q_goto (tgt := 5) C dX1_countMattersOf_36 (by decide) ?_
        exact q_V_to (ih_5 (i_5 + 1) (by omega)) ⟨rfl, rfl, rfl, q_iv (by simp [q_sum, uC_fMo, c_11, Nat.not_le.mpr c_11, c_23]), rfl, trivial⟩ rfl
  exact q_V_to (loop_5 (M - 0) 0 (by omega)) ⟨rfl, rfl, rfl, rfl, rfl, trivial⟩ rfl
theorem c_X1_countAwake (l : Launch) (S : q_St) : q_Fi l yX1_countAwake kX1_countAwake 1 [.ref 1] S (uC_awake S) S := by
  refine q_Fi_of (maxL := 3) rfl (by decide +kernel) (fun ad => Nat.le_of_ble_eq_true rfl) rfl ?_
  intro K C hret
  have C : q_Cx K cX1_countAwake RX1 1 3 := C
  show q_V l K 0 [(0, .ref 1)] [] S
  refine q_iconst (v := 0) C dX1_countAwake_0 (by decide) ?_
  refine q_istore_n (lv' := [(1, .int 0), (0, .ref 1)]) C dX1_countAwake_1 rfl (by decide) rfl ?_
  refine q_iconst (v := 0) C dX1_countAwake_2 (by decide) ?_
  refine q_istore_n (lv' := [(2, .int 0), (1, .int 0), (0, .ref 1)]) C dX1_countAwake_3 rfl (by decide) rfl ?_
  have loop_4 : ∀ (n_4 i_4 : Nat), i_4 + n_4 = 6 → q_V l K 4 [(0, .ref 1), (1, .int (q_sum (uC_fW S) i_4)), (2, .int (nI i_4))] [] S := by
    intro n_4
    induction n_4 with
    | zero =>
      intro i_4 hi_4
      have e_4 : i_4 = 6 := by omega
      refine q_iload_n C dX1_countAwake_4 rfl rfl ?_
      refine q_bipush (v := 6) C dX1_countAwake_5 (by decide) ?_
      refine q_icmp_geN (a := i_4) (b := 6) (tgt := 33) C dX1_countAwake_7 (by decide) rfl rfl (by omega) (by omega) (fun c_7 => ?_) (fun c_7 => absurd c_7 (by omega))
      refine q_iload_n C dX1_countAwake_33 rfl rfl ?_
      exact hret _ _ _ _ dX1_countAwake_34 (by rw [e_4]; rfl) rfl
    | succ n_4 ih_4 =>
      intro i_4 hi_4
      refine q_iload_n C dX1_countAwake_4 rfl rfl ?_
      refine q_bipush (v := 6) C dX1_countAwake_5 (by decide) ?_
      refine q_icmp_geN (a := i_4) (b := 6) (tgt := 33) C dX1_countAwake_7 (by decide) rfl rfl (by omega) (by omega) (fun c_7 => absurd c_7 (by omega)) (fun c_7 => ?_)
      refine q_iload_n C dX1_countAwake_10 rfl rfl ?_
      refine q_aload_n C dX1_countAwake_11 rfl rfl ?_
      refine q_getR C flX1_37 q_s1 rfl dX1_countAwake_12 ?_
      refine q_iload_n C dX1_countAwake_15 rfl rfl ?_
      refine q_zaldN (i := i_4) (x := S 9 i_4) C rfl q_s9 (by omega) (by decide) dX1_countAwake_16 rfl ?_
      refine q_if_eq (tgt := 24) C dX1_countAwake_17 (by decide)  (fun c_17 => ?_) (fun c_17 => ?_)
      · refine q_iconst (v := 0) C dX1_countAwake_24 (by decide) ?_
        refine q_iadd C dX1_countAwake_25 ?_
        refine q_istore_n (lv' := [(1, .int ((q_sum (uC_fW S) i_4) + 0)), (0, .ref 1), (2, .int (nI i_4))]) C dX1_countAwake_26 rfl (by decide) rfl ?_
        refine q_iinc (v := nI (i_4 + 1)) (lv' := [(2, .int (nI (i_4 + 1))), (1, .int ((q_sum (uC_fW S) i_4) + 0)), (0, .ref 1)]) C dX1_countAwake_27 rfl (nI_add _ _) (by decide) rfl ?_
        refine q_goto (tgt := 4) C dX1_countAwake_30 (by decide) ?_
        exact q_V_to (ih_4 (i_4 + 1) (by omega)) ⟨rfl, q_iv (by simp [q_sum, uC_fW, c_7, Nat.not_le.mpr c_7, c_17]), rfl, trivial⟩ rfl
      · refine q_iconst (v := 1) C dX1_countAwake_20 (by decide) ?_
        refine q_goto (tgt := 25) C dX1_countAwake_21 (by decide) ?_
        refine q_iadd C dX1_countAwake_25 ?_
        refine q_istore_n (lv' := [(1, .int ((q_sum (uC_fW S) i_4) + 1)), (0, .ref 1), (2, .int (nI i_4))]) C dX1_countAwake_26 rfl (by decide) rfl ?_
        refine q_iinc (v := nI (i_4 + 1)) (lv' := [(2, .int (nI (i_4 + 1))), (1, .int ((q_sum (uC_fW S) i_4) + 1)), (0, .ref 1)]) C dX1_countAwake_27 rfl (nI_add _ _) (by decide) rfl ?_
        refine q_goto (tgt := 4) C dX1_countAwake_30 (by decide) ?_
        exact q_V_to (ih_4 (i_4 + 1) (by omega)) ⟨rfl, q_iv (by simp [q_sum, uC_fW, c_7, Nat.not_le.mpr c_7, c_17]), rfl, trivial⟩ rfl
  exact q_V_to (loop_4 (6 - 0) 0 (by omega)) ⟨rfl, rfl, rfl, trivial⟩ rfl
theorem c_X1_allDoubt (l : Launch) (S : q_St) : q_Fi l yX1_allDoubt kX1_allDoubt 1 [.ref 1] S (uC_allDoubt S) S := by
  refine q_Fi_of (maxL := 3) rfl (by decide +kernel) (fun ad => Nat.le_of_ble_eq_true rfl) rfl ?_
  intro K C hret
  have C : q_Cx K cX1_allDoubt RX1 1 3 := C
  show q_V l K 0 [(0, .ref 1)] [] S
  refine q_iconst (v := 0) C dX1_allDoubt_0 (by decide) ?_
  refine q_istore_n (lv' := [(1, .int 0), (0, .ref 1)]) C dX1_allDoubt_1 rfl (by decide) rfl ?_
  refine q_iconst (v := 0) C dX1_allDoubt_2 (by decide) ?_
  refine q_istore_n (lv' := [(2, .int 0), (1, .int 0), (0, .ref 1)]) C dX1_allDoubt_3 rfl (by decide) rfl ?_
  have loop_4 : ∀ (n_4 i_4 : Nat), i_4 + n_4 = 6 → q_V l K 4 [(0, .ref 1), (1, .int (q_sum (S 8) i_4)), (2, .int (nI i_4))] [] S := by
    intro n_4
    induction n_4 with
    | zero =>
      intro i_4 hi_4
      have e_4 : i_4 = 6 := by omega
      refine q_iload_n C dX1_allDoubt_4 rfl rfl ?_
      refine q_bipush (v := 6) C dX1_allDoubt_5 (by decide) ?_
      refine q_icmp_geN (a := i_4) (b := 6) (tgt := 25) C dX1_allDoubt_7 (by decide) rfl rfl (by omega) (by omega) (fun c_7 => ?_) (fun c_7 => absurd c_7 (by omega))
      refine q_iload_n C dX1_allDoubt_25 rfl rfl ?_
      exact hret _ _ _ _ dX1_allDoubt_26 (by rw [e_4]; rfl) rfl
    | succ n_4 ih_4 =>
      intro i_4 hi_4
      refine q_iload_n C dX1_allDoubt_4 rfl rfl ?_
      refine q_bipush (v := 6) C dX1_allDoubt_5 (by decide) ?_
      refine q_icmp_geN (a := i_4) (b := 6) (tgt := 25) C dX1_allDoubt_7 (by decide) rfl rfl (by omega) (by omega) (fun c_7 => absurd c_7 (by omega)) (fun c_7 => ?_)
      refine q_iload_n C dX1_allDoubt_10 rfl rfl ?_
      refine q_aload_n C dX1_allDoubt_11 rfl rfl ?_
      refine q_getR C flX1_34 q_s1 rfl dX1_allDoubt_12 ?_
      refine q_iload_n C dX1_allDoubt_15 rfl rfl ?_
      refine q_ialdN (i := i_4) (x := S 8 i_4) C rfl q_s8 (by omega) (by decide) dX1_allDoubt_16 rfl ?_
      refine q_iadd C dX1_allDoubt_17 ?_
      refine q_istore_n (lv' := [(1, .int ((q_sum (S 8) i_4) + (S 8 i_4))), (0, .ref 1), (2, .int (nI i_4))]) C dX1_allDoubt_18 rfl (by decide) rfl ?_
      refine q_iinc (v := nI (i_4 + 1)) (lv' := [(2, .int (nI (i_4 + 1))), (1, .int ((q_sum (S 8) i_4) + (S 8 i_4))), (0, .ref 1)]) C dX1_allDoubt_19 rfl (nI_add _ _) (by decide) rfl ?_
      refine q_goto (tgt := 4) C dX1_allDoubt_22 (by decide) ?_
      exact q_V_to (ih_4 (i_4 + 1) (by omega)) ⟨rfl, q_iv (by simp [q_sum, q_sum, c_7, Nat.not_le.mpr c_7]), rfl, trivial⟩ rfl
  exact q_V_to (loop_4 (6 - 0) 0 (by omega)) ⟨rfl, rfl, rfl, trivial⟩ rfl
theorem c_X1_coinsByGuilds (l : Launch) (S : q_St) : q_Fi l yX1_coinsByGuilds kX1_coinsByGuilds 1 [.ref 1] S (uC_coins S) S := by
  refine q_Fi_of (maxL := 3) rfl (by decide +kernel) (fun ad => Nat.le_of_ble_eq_true rfl) rfl ?_
  intro K C hret
  have C : q_Cx K cX1_coinsByGuilds RX1 1 3 := C
  show q_V l K 0 [(0, .ref 1)] [] S
  refine q_iconst (v := 0) C dX1_coinsByGuilds_0 (by decide) ?_
  refine q_istore_n (lv' := [(1, .int 0), (0, .ref 1)]) C dX1_coinsByGuilds_1 rfl (by decide) rfl ?_
  refine q_iconst (v := 0) C dX1_coinsByGuilds_2 (by decide) ?_
  refine q_istore_n (lv' := [(2, .int 0), (1, .int 0), (0, .ref 1)]) C dX1_coinsByGuilds_3 rfl (by decide) rfl ?_
  have loop_4 : ∀ (n_4 i_4 : Nat), i_4 + n_4 = 6 → q_V l K 4 [(0, .ref 1), (1, .int (q_sum (S 7) i_4)), (2, .int (nI i_4))] [] S := by
    intro n_4
    induction n_4 with
    | zero =>
      intro i_4 hi_4
      have e_4 : i_4 = 6 := by omega
      refine q_iload_n C dX1_coinsByGuilds_4 rfl rfl ?_
      refine q_bipush (v := 6) C dX1_coinsByGuilds_5 (by decide) ?_
      refine q_icmp_geN (a := i_4) (b := 6) (tgt := 25) C dX1_coinsByGuilds_7 (by decide) rfl rfl (by omega) (by omega) (fun c_7 => ?_) (fun c_7 => absurd c_7 (by omega))
      refine q_iload_n C dX1_coinsByGuilds_25 rfl rfl ?_
      exact hret _ _ _ _ dX1_coinsByGuilds_26 (by rw [e_4]; rfl) rfl
    | succ n_4 ih_4 =>
      intro i_4 hi_4
      refine q_iload_n C dX1_coinsByGuilds_4 rfl rfl ?_
      refine q_bipush (v := 6) C dX1_coinsByGuilds_5 (by decide) ?_
      refine q_icmp_geN (a := i_4) (b := 6) (tgt := 25) C dX1_coinsByGuilds_7 (by decide) rfl rfl (by omega) (by omega) (fun c_7 => absurd c_7 (by omega)) (fun c_7 => ?_)
      refine q_iload_n C dX1_coinsByGuilds_10 rfl rfl ?_
      refine q_aload_n C dX1_coinsByGuilds_11 rfl rfl ?_
      refine q_getR C flX1_31 q_s1 rfl dX1_coinsByGuilds_12 ?_
      refine q_iload_n C dX1_coinsByGuilds_15 rfl rfl ?_
      refine q_ialdN (i := i_4) (x := S 7 i_4) C rfl q_s7 (by omega) (by decide) dX1_coinsByGuilds_16 rfl ?_
      refine q_iadd C dX1_coinsByGuilds_17 ?_
      refine q_istore_n (lv' := [(1, .int ((q_sum (S 7) i_4) + (S 7 i_4))), (0, .ref 1), (2, .int (nI i_4))]) C dX1_coinsByGuilds_18 rfl (by decide) rfl ?_
      refine q_iinc (v := nI (i_4 + 1)) (lv' := [(2, .int (nI (i_4 + 1))), (1, .int ((q_sum (S 7) i_4) + (S 7 i_4))), (0, .ref 1)]) C dX1_coinsByGuilds_19 rfl (nI_add _ _) (by decide) rfl ?_
      refine q_goto (tgt := 4) C dX1_coinsByGuilds_22 (by decide) ?_
      exact q_V_to (ih_4 (i_4 + 1) (by omega)) ⟨rfl, q_iv (by simp [q_sum, q_sum, c_7, Nat.not_le.mpr c_7]), rfl, trivial⟩ rfl
  exact q_V_to (loop_4 (6 - 0) 0 (by omega)) ⟨rfl, rfl, rfl, trivial⟩ rfl
theorem c_X1_setAmount (l : Launch) (S : q_St) (m : Nat) (hm : m < 8) (g : Nat) (hg : g < 6) (a : Int32) : q_Fi l yX1_setAmount kX1_setAmount 3 [.ref 1, .int (nI m), .int (nI g), .int a] S (uC_guilds (q_p S 5 (m * 6 + g) a) m) (q_p S 5 (m * 6 + g) a) := by
  refine q_Fi_of (maxL := 4) rfl (by decide +kernel) (fun ad => Nat.le_of_ble_eq_true rfl) rfl ?_
  intro K C hret
  have C : q_Cx K cX1_setAmount RX1 3 4 := C
  show q_V l K 0 [(0, .ref 1), (1, .int (nI m)), (2, .int (nI g)), (3, .int a)] [] S
  refine q_aload_n C dX1_setAmount_0 rfl rfl ?_
  refine q_getR C flX1_25 q_s1 rfl dX1_setAmount_1 ?_
  refine q_iload_n C dX1_setAmount_4 rfl rfl ?_
  refine q_bipush (v := 6) C dX1_setAmount_5 (by decide) ?_
  refine q_imulN (a := m) (b := 6) C dX1_setAmount_7 rfl rfl ?_
  refine q_iload_n C dX1_setAmount_8 rfl rfl ?_
  refine q_iaddN (a := m * 6) (b := g) C dX1_setAmount_9 rfl rfl ?_
  refine q_iload_n C dX1_setAmount_10 rfl rfl ?_
  refine q_iastN (i := m * 6 + g) C rfl q_s5 (by omega) (by decide) dX1_setAmount_11 ?_
  refine q_aload_n C dX1_setAmount_12 rfl rfl ?_
  refine q_iload_n C dX1_setAmount_13 rfl rfl ?_
  refine q_ci1 C (c_X1_countGuilds l (q_p S 5 (m * 6 + g) a) m (by omega)) myX1_countGuilds mlX1_63 q_s1 ⟨by decide, by decide⟩ (Nat.le_of_ble_eq_true rfl) dX1_setAmount_14 ?_
  exact hret _ _ _ _ dX1_setAmount_17 rfl rfl
theorem c_X1_wouldBeReady (l : Launch) (S : q_St) (M : Nat) (hM : S 1 0 = nI M) (hM8 : M ≤ 8) (m : Nat) (hm : m < 8) (g : Nat) (hg : g < 6) : q_Fi l yX1_wouldBeReady kX1_wouldBeReady 3 [.ref 1, .int (nI m), .int (nI g)] S (if uC_would S M m g then 1 else 0) S := by
  refine q_Fi_of (maxL := 3) rfl (by decide +kernel) (fun ad => Nat.le_of_ble_eq_true rfl) (by split <;> rfl) ?_
  intro K C hret
  have C : q_Cx K cX1_wouldBeReady RX1 3 3 := C
  show q_V l K 0 [(0, .ref 1), (1, .int (nI m)), (2, .int (nI g))] [] S
  refine q_aload_n C dX1_wouldBeReady_0 rfl rfl ?_
  refine q_iload_n C dX1_wouldBeReady_1 rfl rfl ?_
  refine q_ci1 C (c_X1_doubtOf l S M hM hM8 g (by omega)) myX1_doubtOf mlX1_79 q_s1 ⟨by decide, by decide⟩ (Nat.le_of_ble_eq_true rfl) dX1_wouldBeReady_2 ?_
  refine q_iconst (v := (-1)) C dX1_wouldBeReady_5 (by decide) ?_
  refine q_icmp_ne (tgt := 29) C dX1_wouldBeReady_6 (by decide)  (fun c_6 => ?_) (fun c_6 => ?_)
  · refine q_iconst (v := 0) C dX1_wouldBeReady_29 (by decide) ?_
    exact hret _ _ _ _ dX1_wouldBeReady_30 (by simp [uC_would, c_6]) rfl
  · refine q_aload_n C dX1_wouldBeReady_9 rfl rfl ?_
    refine q_getR C flX1_31 q_s1 rfl dX1_wouldBeReady_10 ?_
    refine q_iload_n C dX1_wouldBeReady_13 rfl rfl ?_
    refine q_ialdN (i := g) (x := S 7 g) C rfl q_s7 (by omega) (by decide) dX1_wouldBeReady_14 rfl ?_
    refine q_aload_n C dX1_wouldBeReady_15 rfl rfl ?_
    refine q_iload_n C dX1_wouldBeReady_16 rfl rfl ?_
    refine q_iload_n C dX1_wouldBeReady_17 rfl rfl ?_
    refine q_ci2 C (c_X1_amountOf l S m (by omega) g (by omega)) myX1_amountOf mlX1_82 q_s1 ⟨by decide, by decide⟩ (Nat.le_of_ble_eq_true rfl) dX1_wouldBeReady_18 ?_
    refine q_iadd C dX1_wouldBeReady_21 ?_
    refine q_if_lt (tgt := 29) C dX1_wouldBeReady_22 (by decide)  (fun c_22 => ?_) (fun c_22 => ?_)
    · refine q_iconst (v := 0) C dX1_wouldBeReady_29 (by decide) ?_
      exact hret _ _ _ _ dX1_wouldBeReady_30 (by simp [uC_would, c_6, c_22, Int32.not_le.mpr c_22, if_pos c_22]) rfl
    · refine q_iconst (v := 1) C dX1_wouldBeReady_25 (by decide) ?_
      refine q_goto (tgt := 30) C dX1_wouldBeReady_26 (by decide) ?_
      exact hret _ _ _ _ dX1_wouldBeReady_30 (by simp [uC_would, c_6, c_22, Int32.not_lt.mpr c_22, if_neg (Int32.not_lt.mpr c_22)]) rfl
theorem c_X1_isOrWouldBeReady (l : Launch) (S : q_St) (M : Nat) (hM : S 1 0 = nI M) (hM8 : M ≤ 8) (m : Nat) (hm : m < 8) (g : Nat) (hg : g < 6) : q_Fi l yX1_isOrWouldBeReady kX1_isOrWouldBeReady 4 [.ref 1, .int (nI m), .int (nI g)] S (if uC_isOr S M m g then 1 else 0) S := by
  refine q_Fi_of (maxL := 4) rfl (by decide +kernel) (fun ad => Nat.le_of_ble_eq_true rfl) (by split <;> rfl) ?_
  intro K C hret
  have C : q_Cx K cX1_isOrWouldBeReady RX1 4 4 := C
  show q_V l K 0 [(0, .ref 1), (1, .int (nI m)), (2, .int (nI g))] [] S
  refine q_aload_n C dX1_isOrWouldBeReady_0 rfl rfl ?_
  refine q_iload_n C dX1_isOrWouldBeReady_1 rfl rfl ?_
  refine q_iload_n C dX1_isOrWouldBeReady_2 rfl rfl ?_
  refine q_ci2 C (c_X1_answerOf l S m (by omega) g (by omega)) myX1_answerOf mlX1_75 q_s1 ⟨by decide, by decide⟩ (Nat.le_of_ble_eq_true rfl) dX1_isOrWouldBeReady_3 ?_
  refine q_istore_n (lv' := [(3, .int (S 6 (m * 6 + g))), (0, .ref 1), (1, .int (nI m)), (2, .int (nI g))]) C dX1_isOrWouldBeReady_6 rfl (by decide) rfl ?_
  refine q_iload_n C dX1_isOrWouldBeReady_7 rfl rfl ?_
  refine q_iconst (v := 1) C dX1_isOrWouldBeReady_8 (by decide) ?_
  refine q_icmp_eq (tgt := 25) C dX1_isOrWouldBeReady_9 (by decide)  (fun c_9 => ?_) (fun c_9 => ?_)
  · refine q_iconst (v := 1) C dX1_isOrWouldBeReady_25 (by decide) ?_
    refine q_goto (tgt := 30) C dX1_isOrWouldBeReady_26 (by decide) ?_
    exact hret _ _ _ _ dX1_isOrWouldBeReady_30 (by simp only [uC_isOr]; simp [c_9]) rfl
  · refine q_iload_n C dX1_isOrWouldBeReady_12 rfl rfl ?_
    refine q_if_ne (tgt := 29) C dX1_isOrWouldBeReady_13 (by decide)  (fun c_13 => ?_) (fun c_13 => ?_)
    · refine q_iconst (v := 0) C dX1_isOrWouldBeReady_29 (by decide) ?_
      exact hret _ _ _ _ dX1_isOrWouldBeReady_30 (by simp only [uC_isOr]; simp [c_9, c_13]) rfl
    · refine q_aload_n C dX1_isOrWouldBeReady_16 rfl rfl ?_
      refine q_iload_n C dX1_isOrWouldBeReady_17 rfl rfl ?_
      refine q_iload_n C dX1_isOrWouldBeReady_18 rfl rfl ?_
      by_cases h_19 : uC_would S M m g
      · refine q_ci2 C (q_Fi.cv (if_pos h_19) (c_X1_wouldBeReady l S M hM hM8 m (by omega) g (by omega))) myX1_wouldBeReady mlX1_67 q_s1 ⟨by decide, by decide⟩ (Nat.le_of_ble_eq_true rfl) dX1_isOrWouldBeReady_19 ?_
        refine q_if_eq (tgt := 29) C dX1_isOrWouldBeReady_22 (by decide) (fun h9 => absurd h9 (by decide)) (fun _ => ?_)
        refine q_iconst (v := 1) C dX1_isOrWouldBeReady_25 (by decide) ?_
        refine q_goto (tgt := 30) C dX1_isOrWouldBeReady_26 (by decide) ?_
        exact hret _ _ _ _ dX1_isOrWouldBeReady_30 (by simp only [uC_isOr]; simp [c_9, c_13, if_pos h_19, h_19]) rfl
      · refine q_ci2 C (q_Fi.cv (if_neg h_19) (c_X1_wouldBeReady l S M hM hM8 m (by omega) g (by omega))) myX1_wouldBeReady mlX1_67 q_s1 ⟨by decide, by decide⟩ (Nat.le_of_ble_eq_true rfl) dX1_isOrWouldBeReady_19 ?_
        refine q_if_eq (tgt := 29) C dX1_isOrWouldBeReady_22 (by decide) (fun _ => ?_) (fun h9 => absurd h9 (by decide))
        refine q_iconst (v := 0) C dX1_isOrWouldBeReady_29 (by decide) ?_
        exact hret _ _ _ _ dX1_isOrWouldBeReady_30 (by simp only [uC_isOr]; simp [c_9, c_13, if_neg h_19, h_19]) rfl
theorem c_X1_wouldAllBeReady (l : Launch) (S : q_St) (M : Nat) (hM : S 1 0 = nI M) (hM8 : M ≤ 8) (m : Nat) (hm : m < 8) : q_Fi l yX1_wouldAllBeReady kX1_wouldAllBeReady 5 [.ref 1, .int (nI m)] S (if q_every (uC_pAll S M m) 6 0 = true then 1 else 0) S := by
  refine q_Fi_of (maxL := 3) rfl (by decide +kernel) (fun ad => Nat.le_of_ble_eq_true rfl) (by split <;> rfl) ?_
  intro K C hret
  have C : q_Cx K cX1_wouldAllBeReady RX1 5 3 := C
  show q_V l K 0 [(0, .ref 1), (1, .int (nI m))] [] S
  refine q_iconst (v := 0) C dX1_wouldAllBeReady_0 (by decide) ?_
  refine q_istore_n (lv' := [(2, .int 0), (0, .ref 1), (1, .int (nI m))]) C dX1_wouldAllBeReady_1 rfl (by decide) rfl ?_
  have loop_2 : ∀ (n_2 i_2 : Nat), i_2 + n_2 = 6 → q_every (uC_pAll S M m) n_2 i_2 = q_every (uC_pAll S M m) 6 0 → q_V l K 2 [(0, .ref 1), (1, .int (nI m)), (2, .int (nI i_2))] [] S := by
    intro n_2
    induction n_2 with
    | zero =>
      intro i_2 hi_2 hr_2
      have e_2 : i_2 = 6 := by omega
      refine q_iload_n C dX1_wouldAllBeReady_2 rfl rfl ?_
      refine q_bipush (v := 6) C dX1_wouldAllBeReady_3 (by decide) ?_
      refine q_icmp_geN (a := i_2) (b := 6) (tgt := 34) C dX1_wouldAllBeReady_5 (by decide) rfl rfl (by omega) (by omega) (fun c_5 => ?_) (fun c_5 => absurd c_5 (by omega))
      refine q_iconst (v := 1) C dX1_wouldAllBeReady_34 (by decide) ?_
      exact hret _ _ _ _ dX1_wouldAllBeReady_35 (by rw [← hr_2]; simp [q_every]) rfl
    | succ n_2 ih_2 =>
      intro i_2 hi_2 hr_2
      refine q_iload_n C dX1_wouldAllBeReady_2 rfl rfl ?_
      refine q_bipush (v := 6) C dX1_wouldAllBeReady_3 (by decide) ?_
      refine q_icmp_geN (a := i_2) (b := 6) (tgt := 34) C dX1_wouldAllBeReady_5 (by decide) rfl rfl (by omega) (by omega) (fun c_5 => absurd c_5 (by omega)) (fun c_5 => ?_)
      refine q_aload_n C dX1_wouldAllBeReady_8 rfl rfl ?_
      refine q_iload_n C dX1_wouldAllBeReady_9 rfl rfl ?_
      refine q_iload_n C dX1_wouldAllBeReady_10 rfl rfl ?_
      by_cases h_11 : S 5 (m * 6 + i_2) ≠ 0
      · refine q_ci2 C (q_Fi.cv (if_pos h_11) (c_X1_isGuildOf l S m (by omega) i_2 (by omega))) myX1_isGuildOf mlX1_85 q_s1 ⟨by decide, by decide⟩ (Nat.le_of_ble_eq_true rfl) dX1_wouldAllBeReady_11 ?_
        refine q_if_eq (tgt := 28) C dX1_wouldAllBeReady_14 (by decide) (fun h9 => absurd h9 (by decide)) (fun _ => ?_)
        refine q_aload_n C dX1_wouldAllBeReady_17 rfl rfl ?_
        refine q_iload_n C dX1_wouldAllBeReady_18 rfl rfl ?_
        refine q_iload_n C dX1_wouldAllBeReady_19 rfl rfl ?_
        by_cases h_20 : uC_isOr S M m i_2
        · refine q_ci2 C (q_Fi.cv (if_pos h_20) (c_X1_isOrWouldBeReady l S M hM hM8 m (by omega) i_2 (by omega))) myX1_isOrWouldBeReady mlX1_88 q_s1 ⟨by decide, by decide⟩ (Nat.le_of_ble_eq_true rfl) dX1_wouldAllBeReady_20 ?_
          refine q_if_ne (tgt := 28) C dX1_wouldAllBeReady_23 (by decide) (fun _ => ?_) (fun h9 => absurd h9 (by decide))
          refine q_iinc (v := nI (i_2 + 1)) (lv' := [(2, .int (nI (i_2 + 1))), (0, .ref 1), (1, .int (nI m))]) C dX1_wouldAllBeReady_28 rfl (nI_add _ _) (by decide) rfl ?_
          refine q_goto (tgt := 2) C dX1_wouldAllBeReady_31 (by decide) ?_
          exact q_V_to (ih_2 (i_2 + 1) (by omega) (by rw [← hr_2]; simp [q_every, uC_pAll, c_5, Nat.not_le.mpr c_5, if_pos h_11, h_11, if_pos h_20, h_20])) ⟨rfl, rfl, rfl, trivial⟩ rfl
        · refine q_ci2 C (q_Fi.cv (if_neg h_20) (c_X1_isOrWouldBeReady l S M hM hM8 m (by omega) i_2 (by omega))) myX1_isOrWouldBeReady mlX1_88 q_s1 ⟨by decide, by decide⟩ (Nat.le_of_ble_eq_true rfl) dX1_wouldAllBeReady_20 ?_
          refine q_if_ne (tgt := 28) C dX1_wouldAllBeReady_23 (by decide) (fun h9 => absurd h9 (by decide)) (fun _ => ?_)
          refine q_iconst (v := 0) C dX1_wouldAllBeReady_26 (by decide) ?_
          exact hret _ _ _ _ dX1_wouldAllBeReady_27 (by rw [← hr_2]; simp [q_every, uC_pAll, c_5, Nat.not_le.mpr c_5, if_pos h_11, h_11, if_neg h_20, h_20]) rfl
      · refine q_ci2 C (q_Fi.cv (if_neg h_11) (c_X1_isGuildOf l S m (by omega) i_2 (by omega))) myX1_isGuildOf mlX1_85 q_s1 ⟨by decide, by decide⟩ (Nat.le_of_ble_eq_true rfl) dX1_wouldAllBeReady_11 ?_
        refine q_if_eq (tgt := 28) C dX1_wouldAllBeReady_14 (by decide) (fun _ => ?_) (fun h9 => absurd h9 (by decide))
        refine q_iinc (v := nI (i_2 + 1)) (lv' := [(2, .int (nI (i_2 + 1))), (0, .ref 1), (1, .int (nI m))]) C dX1_wouldAllBeReady_28 rfl (nI_add _ _) (by decide) rfl ?_
        refine q_goto (tgt := 2) C dX1_wouldAllBeReady_31 (by decide) ?_
        exact q_V_to (ih_2 (i_2 + 1) (by omega) (by rw [← hr_2]; simp [q_every, uC_pAll, c_5, Nat.not_le.mpr c_5, if_neg h_11, h_11, Decidable.not_not.mp h_11])) ⟨rfl, rfl, rfl, trivial⟩ rfl
  exact q_V_to (loop_2 (6 - 0) 0 (by omega) rfl) ⟨rfl, rfl, rfl, trivial⟩ rfl
theorem c_X1_enterInBook (l : Launch) (S : q_St) (N : Nat) (hN : S 1 1 = nI N) (hN8 : N < 8) (m : Nat) (hm : m < 8) (v : Int32) : q_Fv l yX1_enterInBook kX1_enterInBook 1 [.ref 1, .int (nI m), .int v] S (uC_book S m N v) := by
  refine q_Fv_of (maxL := 3) rfl (by decide +kernel) (fun ad => Nat.le_of_ble_eq_true rfl) ?_
  intro K C hret
  have C : q_Cx K cX1_enterInBook RX1 1 3 := C
  show q_V l K 0 [(0, .ref 1), (1, .int (nI m)), (2, .int v)] [] S
  refine q_aload_n C dX1_enterInBook_0 rfl rfl ?_
  refine q_getR C flX1_15 q_s1 rfl dX1_enterInBook_1 ?_
  refine q_iload_n C dX1_enterInBook_4 rfl rfl ?_
  refine q_iload_n C dX1_enterInBook_5 rfl rfl ?_
  refine q_iastN (i := m) C rfl q_s2 (by omega) (by decide) dX1_enterInBook_6 ?_
  refine q_aload_n C dX1_enterInBook_7 rfl rfl ?_
  refine q_getI (x := nI N) C flX1_45 q_s1 rfl dX1_enterInBook_8 hN ?_
  refine q_bipush (v := 8) C dX1_enterInBook_11 (by decide) ?_
  refine q_icmp_geN (a := N) (b := 8) (tgt := 36) C dX1_enterInBook_13 (by decide) rfl rfl (by omega) (by omega) (fun c_13 => absurd c_13 (by omega)) (fun c_13 => ?_)
  refine q_aload_n C dX1_enterInBook_16 rfl rfl ?_
  refine q_getR C flX1_22 q_s1 rfl dX1_enterInBook_17 ?_
  refine q_aload_n C dX1_enterInBook_20 rfl rfl ?_
  refine q_getI (x := nI N) C flX1_45 q_s1 rfl dX1_enterInBook_21 hN ?_
  refine q_iload_n C dX1_enterInBook_24 rfl rfl ?_
  refine q_iastN (i := N) C rfl q_s4 (by omega) (by decide) dX1_enterInBook_25 ?_
  refine q_aload_n C dX1_enterInBook_26 rfl rfl ?_
  refine q_dup C rfl dX1_enterInBook_27 ?_
  refine q_getI (x := nI N) C flX1_45 q_s1 rfl dX1_enterInBook_28 hN ?_
  refine q_iconst (v := 1) C dX1_enterInBook_31 (by decide) ?_
  refine q_iaddN (a := N) (b := 1) C dX1_enterInBook_32 rfl rfl ?_
  refine q_put (ty9 := .int) C flX1_45 q_s1 rfl (fun _ _ _ h => by cases h; exact ⟨rfl, by decide +kernel⟩) rfl rfl dX1_enterInBook_33 ?_
  exact hret _ _ _ dX1_enterInBook_36 rfl
theorem c_X1_isOpposed (l : Launch) (S : q_St) (m : Nat) (hm : m < 8) : q_Fi l yX1_isOpposed kX1_isOpposed 2 [.ref 1, .int (nI m)] S (if uC_opposed S m then 1 else 0) S := by
  refine q_Fi_of (maxL := 2) rfl (by decide +kernel) (fun ad => Nat.le_of_ble_eq_true rfl) (by split <;> rfl) ?_
  intro K C hret
  have C : q_Cx K cX1_isOpposed RX1 2 2 := C
  show q_V l K 0 [(0, .ref 1), (1, .int (nI m))] [] S
  refine q_aload_n C dX1_isOpposed_0 rfl rfl ?_
  refine q_iload_n C dX1_isOpposed_1 rfl rfl ?_
  refine q_iconst (v := 2) C dX1_isOpposed_2 (by decide) ?_
  refine q_ci2 C (c_X1_countAnswers l S m (by omega) 2) myX1_countAnswers mlX1_99 q_s1 ⟨by decide, by decide⟩ (Nat.le_of_ble_eq_true rfl) dX1_isOpposed_3 ?_
  refine q_aload_n C dX1_isOpposed_6 rfl rfl ?_
  refine q_iload_n C dX1_isOpposed_7 rfl rfl ?_
  refine q_iconst (v := 4) C dX1_isOpposed_8 (by decide) ?_
  refine q_ci2 C (c_X1_countAnswers l S m (by omega) 4) myX1_countAnswers mlX1_99 q_s1 ⟨by decide, by decide⟩ (Nat.le_of_ble_eq_true rfl) dX1_isOpposed_9 ?_
  refine q_iadd C dX1_isOpposed_12 ?_
  refine q_if_le (tgt := 20) C dX1_isOpposed_13 (by decide)  (fun c_13 => ?_) (fun c_13 => ?_)
  · refine q_iconst (v := 0) C dX1_isOpposed_20 (by decide) ?_
    exact hret _ _ _ _ dX1_isOpposed_21 (by simp [uC_opposed, c_13, Int32.not_lt.mpr c_13, if_neg (Int32.not_lt.mpr c_13)]) rfl
  · refine q_iconst (v := 1) C dX1_isOpposed_16 (by decide) ?_
    refine q_goto (tgt := 21) C dX1_isOpposed_17 (by decide) ?_
    exact hret _ _ _ _ dX1_isOpposed_21 (by simp [uC_opposed, c_13, Int32.not_le.mpr c_13, if_pos c_13]) rfl
theorem c_X1_decideMatter (l : Launch) (S : q_St) (N : Nat) (hN : S 1 1 = nI N) (hN8 : N < 8) (m : Nat) (hm : m < 8) : q_Fi l yX1_decideMatter kX1_decideMatter 3 [.ref 1, .int (nI m)] S (if uC_opposed S m then 2 else 1) (uC_decide S N m) := by
  refine q_Fi_of (maxL := 2) rfl (by decide +kernel) (fun ad => Nat.le_of_ble_eq_true rfl) rfl ?_
  intro K C hret
  have C : q_Cx K cX1_decideMatter RX1 3 2 := C
  show q_V l K 0 [(0, .ref 1), (1, .int (nI m))] [] S
  refine q_aload_n C dX1_decideMatter_0 rfl rfl ?_
  refine q_iload_n C dX1_decideMatter_1 rfl rfl ?_
  refine q_aload_n C dX1_decideMatter_2 rfl rfl ?_
  refine q_iload_n C dX1_decideMatter_3 rfl rfl ?_
  by_cases h_4 : uC_opposed S m
  · refine q_ci1 C (q_Fi.cv (if_pos h_4) (c_X1_isOpposed l S m (by omega))) myX1_isOpposed mlX1_91 q_s1 ⟨by decide, by decide⟩ (Nat.le_of_ble_eq_true rfl) dX1_decideMatter_4 ?_
    refine q_if_eq (tgt := 14) C dX1_decideMatter_7 (by decide) (fun h9 => absurd h9 (by decide)) (fun _ => ?_)
    refine q_iconst (v := 2) C dX1_decideMatter_10 (by decide) ?_
    refine q_goto (tgt := 15) C dX1_decideMatter_11 (by decide) ?_
    refine q_cv2 C (c_X1_enterInBook l S N hN hN8 m (by omega) 2) myX1_enterInBook mlX1_95 q_s1 ⟨by decide, by decide⟩ (Nat.le_of_ble_eq_true rfl) dX1_decideMatter_15 ?_
    refine q_aload_n C dX1_decideMatter_18 rfl rfl ?_
    refine q_getR C flX1_15 q_s1 rfl dX1_decideMatter_19 ?_
    refine q_iload_n C dX1_decideMatter_22 rfl rfl ?_
    refine q_ialdN (i := m) (x := (uC_book S m N 2) 2 m) C rfl q_s2 (by omega) (by decide) dX1_decideMatter_23 rfl ?_
    exact hret _ _ _ _ dX1_decideMatter_24 (by simp [uC_book, q_p, upd, if_pos h_4, h_4]) (by simp [uC_decide, if_pos h_4, h_4])
  · refine q_ci1 C (q_Fi.cv (if_neg h_4) (c_X1_isOpposed l S m (by omega))) myX1_isOpposed mlX1_91 q_s1 ⟨by decide, by decide⟩ (Nat.le_of_ble_eq_true rfl) dX1_decideMatter_4 ?_
    refine q_if_eq (tgt := 14) C dX1_decideMatter_7 (by decide) (fun _ => ?_) (fun h9 => absurd h9 (by decide))
    refine q_iconst (v := 1) C dX1_decideMatter_14 (by decide) ?_
    refine q_cv2 C (c_X1_enterInBook l S N hN hN8 m (by omega) 1) myX1_enterInBook mlX1_95 q_s1 ⟨by decide, by decide⟩ (Nat.le_of_ble_eq_true rfl) dX1_decideMatter_15 ?_
    refine q_aload_n C dX1_decideMatter_18 rfl rfl ?_
    refine q_getR C flX1_15 q_s1 rfl dX1_decideMatter_19 ?_
    refine q_iload_n C dX1_decideMatter_22 rfl rfl ?_
    refine q_ialdN (i := m) (x := (uC_book S m N 1) 2 m) C rfl q_s2 (by omega) (by decide) dX1_decideMatter_23 rfl ?_
    exact hret _ _ _ _ dX1_decideMatter_24 (by simp [uC_book, q_p, upd, if_neg h_4, h_4]) (by simp [uC_decide, if_neg h_4, h_4])
theorem c_X1_firstNotAsked (l : Launch) (S : q_St) (m : Nat) (hm : m < 8) : q_Fi l yX1_firstNotAsked kX1_firstNotAsked 2 [.ref 1, .int (nI m)] S (nI (uC_first S m)) S := by
  refine q_Fi_of (maxL := 3) rfl (by decide +kernel) (fun ad => Nat.le_of_ble_eq_true rfl) rfl ?_
  intro K C hret
  have C : q_Cx K cX1_firstNotAsked RX1 2 3 := C
  show q_V l K 0 [(0, .ref 1), (1, .int (nI m))] [] S
  refine q_iconst (v := 0) C dX1_firstNotAsked_0 (by decide) ?_
  refine q_istore_n (lv' := [(2, .int 0), (0, .ref 1), (1, .int (nI m))]) C dX1_firstNotAsked_1 rfl (by decide) rfl ?_
  have loop_2 : ∀ (n_2 i_2 : Nat), i_2 + n_2 = 6 → q_first (uC_pFirst S m) n_2 i_2 = uC_first S m → q_V l K 2 [(0, .ref 1), (1, .int (nI m)), (2, .int (nI i_2))] [] S := by
    intro n_2
    induction n_2 with
    | zero =>
      intro i_2 hi_2 hr_2
      have e_2 : i_2 = 6 := by omega
      refine q_iload_n C dX1_firstNotAsked_2 rfl rfl ?_
      refine q_bipush (v := 6) C dX1_firstNotAsked_3 (by decide) ?_
      refine q_icmp_geN (a := i_2) (b := 6) (tgt := 32) C dX1_firstNotAsked_5 (by decide) rfl rfl (by omega) (by omega) (fun c_5 => ?_) (fun c_5 => absurd c_5 (by omega))
      refine q_iload_n C dX1_firstNotAsked_32 rfl rfl ?_
      exact hret _ _ _ _ dX1_firstNotAsked_33 (by rw [← hr_2]; simp [q_first, uC_pFirst, c_5, Nat.not_lt.mpr c_5]) rfl
    | succ n_2 ih_2 =>
      intro i_2 hi_2 hr_2
      refine q_iload_n C dX1_firstNotAsked_2 rfl rfl ?_
      refine q_bipush (v := 6) C dX1_firstNotAsked_3 (by decide) ?_
      refine q_icmp_geN (a := i_2) (b := 6) (tgt := 32) C dX1_firstNotAsked_5 (by decide) rfl rfl (by omega) (by omega) (fun c_5 => absurd c_5 (by omega)) (fun c_5 => ?_)
      refine q_aload_n C dX1_firstNotAsked_8 rfl rfl ?_
      refine q_iload_n C dX1_firstNotAsked_9 rfl rfl ?_
      refine q_iload_n C dX1_firstNotAsked_10 rfl rfl ?_
      by_cases h_11 : S 5 (m * 6 + i_2) ≠ 0
      · refine q_ci2 C (q_Fi.cv (if_pos h_11) (c_X1_isGuildOf l S m (by omega) i_2 (by omega))) myX1_isGuildOf mlX1_85 q_s1 ⟨by decide, by decide⟩ (Nat.le_of_ble_eq_true rfl) dX1_firstNotAsked_11 ?_
        refine q_if_eq (tgt := 26) C dX1_firstNotAsked_14 (by decide) (fun h9 => absurd h9 (by decide)) (fun _ => ?_)
        refine q_aload_n C dX1_firstNotAsked_17 rfl rfl ?_
        refine q_iload_n C dX1_firstNotAsked_18 rfl rfl ?_
        refine q_iload_n C dX1_firstNotAsked_19 rfl rfl ?_
        refine q_ci2 C (c_X1_answerOf l S m (by omega) i_2 (by omega)) myX1_answerOf mlX1_75 q_s1 ⟨by decide, by decide⟩ (Nat.le_of_ble_eq_true rfl) dX1_firstNotAsked_20 ?_
        refine q_if_eq (tgt := 32) C dX1_firstNotAsked_23 (by decide)  (fun c_23 => ?_) (fun c_23 => ?_)
        · refine q_iload_n C dX1_firstNotAsked_32 rfl rfl ?_
          exact hret _ _ _ _ dX1_firstNotAsked_33 (by rw [← hr_2]; simp [q_first, uC_pFirst, c_5, Nat.not_le.mpr c_5, if_pos h_11, h_11, c_23]) rfl
        · refine q_iinc (v := nI (i_2 + 1)) (lv' := [(2, .int (nI (i_2 + 1))), (0, .ref 1), (1, .int (nI m))]) C dX1_firstNotAsked_26 rfl (nI_add _ _) (by decide) rfl ?_
          refine q_goto (tgt := 2) C dX1_firstNotAsked_29 (by decide) ?_
          exact q_V_to (ih_2 (i_2 + 1) (by omega) (by rw [← hr_2]; simp [q_first, uC_pFirst, c_5, Nat.not_le.mpr c_5, if_pos h_11, h_11, c_23])) ⟨rfl, rfl, rfl, trivial⟩ rfl
      · refine q_ci2 C (q_Fi.cv (if_neg h_11) (c_X1_isGuildOf l S m (by omega) i_2 (by omega))) myX1_isGuildOf mlX1_85 q_s1 ⟨by decide, by decide⟩ (Nat.le_of_ble_eq_true rfl) dX1_firstNotAsked_11 ?_
        refine q_if_eq (tgt := 26) C dX1_firstNotAsked_14 (by decide) (fun _ => ?_) (fun h9 => absurd h9 (by decide))
        refine q_iinc (v := nI (i_2 + 1)) (lv' := [(2, .int (nI (i_2 + 1))), (0, .ref 1), (1, .int (nI m))]) C dX1_firstNotAsked_26 rfl (nI_add _ _) (by decide) rfl ?_
        refine q_goto (tgt := 2) C dX1_firstNotAsked_29 (by decide) ?_
        exact q_V_to (ih_2 (i_2 + 1) (by omega) (by rw [← hr_2]; simp [q_first, uC_pFirst, c_5, Nat.not_le.mpr c_5, if_neg h_11, h_11, Decidable.not_not.mp h_11])) ⟨rfl, rfl, rfl, trivial⟩ rfl
  exact q_V_to (loop_2 (6 - 0) 0 (by omega) rfl) ⟨rfl, rfl, rfl, trivial⟩ rfl
theorem c_X1_sealFor (l : Launch) (S : q_St) (m : Nat) (hm : m < 8) (g : Nat) (hg : g < 6) : q_Fv l yX1_sealFor kX1_sealFor 2 [.ref 1, .int (nI m), .int (nI g)] S (uC_seal S m g) := by
  refine q_Fv_of (maxL := 3) rfl (by decide +kernel) (fun ad => Nat.le_of_ble_eq_true rfl) ?_
  intro K C hret
  have C : q_Cx K cX1_sealFor RX1 2 3 := C
  show q_V l K 0 [(0, .ref 1), (1, .int (nI m)), (2, .int (nI g))] [] S
  refine q_aload_n C dX1_sealFor_0 rfl rfl ?_
  refine q_iload_n C dX1_sealFor_1 rfl rfl ?_
  refine q_iload_n C dX1_sealFor_2 rfl rfl ?_
  refine q_iconst (v := 3) C dX1_sealFor_3 (by decide) ?_
  refine q_cv3 C (c_X1_giveAnswer l S m (by omega) g (by omega) 3) myX1_giveAnswer mlX1_71 q_s1 ⟨by decide, by decide⟩ (Nat.le_of_ble_eq_true rfl) dX1_sealFor_4 ?_
  refine q_aload_n C dX1_sealFor_7 rfl rfl ?_
  refine q_getR C flX1_31 q_s1 rfl dX1_sealFor_8 ?_
  refine q_iload_n C dX1_sealFor_11 rfl rfl ?_
  refine q_dup2 C rfl rfl dX1_sealFor_12 ?_
  refine q_ialdN (i := g) (x := S 7 g) C rfl q_s7 (by omega) (by decide) dX1_sealFor_13 rfl ?_
  refine q_aload_n C dX1_sealFor_14 rfl rfl ?_
  refine q_iload_n C dX1_sealFor_15 rfl rfl ?_
  refine q_iload_n C dX1_sealFor_16 rfl rfl ?_
  refine q_ci2 C (q_Fi.cv (v' := S 5 (m * 6 + g)) rfl (c_X1_amountOf l (q_p S 6 (m * 6 + g) 3) m (by omega) g (by omega))) myX1_amountOf mlX1_82 q_s1 ⟨by decide, by decide⟩ (Nat.le_of_ble_eq_true rfl) dX1_sealFor_17 ?_
  refine q_iadd C dX1_sealFor_20 ?_
  refine q_iastN (i := g) C rfl q_s7 (by omega) (by decide) dX1_sealFor_21 ?_
  exact hret _ _ _ dX1_sealFor_22 rfl
theorem c_X1_tellGuild (l : Launch) (S : q_St) (m : Nat) (hm : m < 8) (g : Nat) (hg : g < 6) : q_Fi l yX1_tellGuild kX1_tellGuild 3 [.ref 1, .int (nI m), .int (nI g)] S (uC_tell S m g 7 g) (uC_tell S m g) := by
  refine q_Fi_of (maxL := 3) rfl (by decide +kernel) (fun ad => Nat.le_of_ble_eq_true rfl) rfl ?_
  intro K C hret
  have C : q_Cx K cX1_tellGuild RX1 3 3 := C
  show q_V l K 0 [(0, .ref 1), (1, .int (nI m)), (2, .int (nI g))] [] S
  refine q_aload_n C dX1_tellGuild_0 rfl rfl ?_
  refine q_getR C flX1_15 q_s1 rfl dX1_tellGuild_1 ?_
  refine q_iload_n C dX1_tellGuild_4 rfl rfl ?_
  refine q_ialdN (i := m) (x := S 2 m) C rfl q_s2 (by omega) (by decide) dX1_tellGuild_5 rfl ?_
  refine q_iconst (v := 1) C dX1_tellGuild_6 (by decide) ?_
  refine q_icmp_ne (tgt := 19) C dX1_tellGuild_7 (by decide)  (fun c_7 => ?_) (fun c_7 => ?_)
  · refine q_aload_n C dX1_tellGuild_19 rfl rfl ?_
    refine q_iload_n C dX1_tellGuild_20 rfl rfl ?_
    refine q_iload_n C dX1_tellGuild_21 rfl rfl ?_
    refine q_iconst (v := 4) C dX1_tellGuild_22 (by decide) ?_
    refine q_cv3 C (c_X1_giveAnswer l S m (by omega) g (by omega) 4) myX1_giveAnswer mlX1_71 q_s1 ⟨by decide, by decide⟩ (Nat.le_of_ble_eq_true rfl) dX1_tellGuild_23 ?_
    refine q_aload_n C dX1_tellGuild_26 rfl rfl ?_
    refine q_getR C flX1_31 q_s1 rfl dX1_tellGuild_27 ?_
    refine q_iload_n C dX1_tellGuild_30 rfl rfl ?_
    refine q_ialdN (i := g) (x := S 7 g) C rfl q_s7 (by omega) (by decide) dX1_tellGuild_31 rfl ?_
    exact hret _ _ _ _ dX1_tellGuild_32 (by simp [uC_tell, c_7]; try simp [q_p]) (by simp [uC_tell, c_7])
  · refine q_aload_n C dX1_tellGuild_10 rfl rfl ?_
    refine q_iload_n C dX1_tellGuild_11 rfl rfl ?_
    refine q_iload_n C dX1_tellGuild_12 rfl rfl ?_
    refine q_cv2 C (c_X1_sealFor l S m (by omega) g (by omega)) myX1_sealFor mlX1_102 q_s1 ⟨by decide, by decide⟩ (Nat.le_of_ble_eq_true rfl) dX1_tellGuild_13 ?_
    refine q_goto (tgt := 26) C dX1_tellGuild_16 (by decide) ?_
    refine q_aload_n C dX1_tellGuild_26 rfl rfl ?_
    refine q_getR C flX1_31 q_s1 rfl dX1_tellGuild_27 ?_
    refine q_iload_n C dX1_tellGuild_30 rfl rfl ?_
    refine q_ialdN (i := g) (x := (uC_seal S m g) 7 g) C rfl q_s7 (by omega) (by decide) dX1_tellGuild_31 rfl ?_
    exact hret _ _ _ _ dX1_tellGuild_32 (by simp [uC_tell, c_7]; try simp [q_p]) (by simp [uC_tell, c_7])
theorem c_X1_askGuild (l : Launch) (S : q_St) (M : Nat) (hM : S 1 0 = nI M) (hM8 : M ≤ 8) (m : Nat) (hm : m < 8) (g : Nat) (hg : g < 6) : q_Fi l yX1_askGuild kX1_askGuild 4 [.ref 1, .int (nI m), .int (nI g)] S (if uC_would S M m g then 1 else 2) (uC_ask S M m g) := by
  refine q_Fi_of (maxL := 3) rfl (by decide +kernel) (fun ad => Nat.le_of_ble_eq_true rfl) rfl ?_
  intro K C hret
  have C : q_Cx K cX1_askGuild RX1 4 3 := C
  show q_V l K 0 [(0, .ref 1), (1, .int (nI m)), (2, .int (nI g))] [] S
  refine q_aload_n C dX1_askGuild_0 rfl rfl ?_
  refine q_iload_n C dX1_askGuild_1 rfl rfl ?_
  refine q_iload_n C dX1_askGuild_2 rfl rfl ?_
  refine q_aload_n C dX1_askGuild_3 rfl rfl ?_
  refine q_iload_n C dX1_askGuild_4 rfl rfl ?_
  refine q_iload_n C dX1_askGuild_5 rfl rfl ?_
  by_cases h_6 : uC_would S M m g
  · refine q_ci2 C (q_Fi.cv (if_pos h_6) (c_X1_wouldBeReady l S M hM hM8 m (by omega) g (by omega))) myX1_wouldBeReady mlX1_67 q_s1 ⟨by decide, by decide⟩ (Nat.le_of_ble_eq_true rfl) dX1_askGuild_6 ?_
    refine q_if_eq (tgt := 16) C dX1_askGuild_9 (by decide) (fun h9 => absurd h9 (by decide)) (fun _ => ?_)
    refine q_iconst (v := 1) C dX1_askGuild_12 (by decide) ?_
    refine q_goto (tgt := 17) C dX1_askGuild_13 (by decide) ?_
    refine q_cv3 C (c_X1_giveAnswer l S m (by omega) g (by omega) 1) myX1_giveAnswer mlX1_71 q_s1 ⟨by decide, by decide⟩ (Nat.le_of_ble_eq_true rfl) dX1_askGuild_17 ?_
    refine q_aload_n C dX1_askGuild_20 rfl rfl ?_
    refine q_iload_n C dX1_askGuild_21 rfl rfl ?_
    refine q_iload_n C dX1_askGuild_22 rfl rfl ?_
    refine q_ci2 C (q_Fi.cv (v' := 1) (q_p_eq S 6 (m * 6 + g) 1) (c_X1_answerOf l (q_p S 6 (m * 6 + g) 1) m (by omega) g (by omega))) myX1_answerOf mlX1_75 q_s1 ⟨by decide, by decide⟩ (Nat.le_of_ble_eq_true rfl) dX1_askGuild_23 ?_
    exact hret _ _ _ _ dX1_askGuild_26 (by simp [if_pos h_6, h_6, q_p, upd]) (by first | (simp only [uC_ask, if_pos h_6, h_6]; done) | simp [uC_ask, if_pos h_6, h_6])
  · refine q_ci2 C (q_Fi.cv (if_neg h_6) (c_X1_wouldBeReady l S M hM hM8 m (by omega) g (by omega))) myX1_wouldBeReady mlX1_67 q_s1 ⟨by decide, by decide⟩ (Nat.le_of_ble_eq_true rfl) dX1_askGuild_6 ?_
    refine q_if_eq (tgt := 16) C dX1_askGuild_9 (by decide) (fun _ => ?_) (fun h9 => absurd h9 (by decide))
    refine q_iconst (v := 2) C dX1_askGuild_16 (by decide) ?_
    refine q_cv3 C (c_X1_giveAnswer l S m (by omega) g (by omega) 2) myX1_giveAnswer mlX1_71 q_s1 ⟨by decide, by decide⟩ (Nat.le_of_ble_eq_true rfl) dX1_askGuild_17 ?_
    refine q_aload_n C dX1_askGuild_20 rfl rfl ?_
    refine q_iload_n C dX1_askGuild_21 rfl rfl ?_
    refine q_iload_n C dX1_askGuild_22 rfl rfl ?_
    refine q_ci2 C (q_Fi.cv (v' := 2) (q_p_eq S 6 (m * 6 + g) 2) (c_X1_answerOf l (q_p S 6 (m * 6 + g) 2) m (by omega) g (by omega))) myX1_answerOf mlX1_75 q_s1 ⟨by decide, by decide⟩ (Nat.le_of_ble_eq_true rfl) dX1_askGuild_23 ?_
    exact hret _ _ _ _ dX1_askGuild_26 (by simp [if_neg h_6, h_6, q_p, upd]) (by first | (simp only [uC_ask, if_neg h_6, h_6]; done) | simp [uC_ask, if_neg h_6, h_6])
theorem c_X1_letHeraldFaint (l : Launch) (S : q_St) (M : Nat) (hM : S 1 0 = nI M) (hM8 : M ≤ 8) : q_Fi l yX1_letHeraldFaint kX1_letHeraldFaint 2 [.ref 1] S (uC_matters S M 0) (uC_faint S) := by
  refine q_Fi_of (maxL := 1) rfl (by decide +kernel) (fun ad => Nat.le_of_ble_eq_true rfl) rfl ?_
  intro K C hret
  have C : q_Cx K cX1_letHeraldFaint RX1 2 1 := C
  show q_V l K 0 [(0, .ref 1)] [] S
  refine q_aload_n C dX1_letHeraldFaint_0 rfl rfl ?_
  refine q_iconst (v := 0) C dX1_letHeraldFaint_1 (by decide) ?_
  refine q_put (ty9 := .boolean) C flX1_9 q_s1 rfl (fun _ _ _ h => by cases h; exact ⟨rfl, by decide +kernel⟩) rfl rfl dX1_letHeraldFaint_2 ?_
  refine q_aload_n C dX1_letHeraldFaint_5 rfl rfl ?_
  refine q_dup C rfl dX1_letHeraldFaint_6 ?_
  refine q_getI (x := S 1 4) C flX1_54 q_s1 rfl dX1_letHeraldFaint_7 rfl ?_
  refine q_iconst (v := 1) C dX1_letHeraldFaint_10 (by decide) ?_
  refine q_iadd C dX1_letHeraldFaint_11 ?_
  refine q_put (ty9 := .int) C flX1_54 q_s1 rfl (fun _ _ _ h => by cases h; exact ⟨rfl, by decide +kernel⟩) rfl rfl dX1_letHeraldFaint_12 ?_
  refine q_aload_n C dX1_letHeraldFaint_15 rfl rfl ?_
  refine q_iconst (v := 0) C dX1_letHeraldFaint_16 (by decide) ?_
  refine q_ci1 C (c_X1_countMatters l (q_p (q_p S 1 5 0) 1 4 ((S 1 4) + 1)) M hM hM8 0) myX1_countMatters mlX1_105 q_s1 ⟨by decide, by decide⟩ (Nat.le_of_ble_eq_true rfl) dX1_letHeraldFaint_17 ?_
  exact hret _ _ _ _ dX1_letHeraldFaint_20 rfl rfl
theorem c_X1_makeAwake0 (l : Launch) (S : q_St) (g : Nat) (hg : g < 6) : q_Fi l yX1_makeAwake kX1_makeAwake 2 [.ref 1, .int (nI g), .int 0] S (uC_awake (q_p S 9 g 0)) (q_p S 9 g 0) := by
  refine q_Fi_of (maxL := 3) rfl (by decide +kernel) (fun ad => Nat.le_of_ble_eq_true rfl) rfl ?_
  intro K C hret
  have C : q_Cx K cX1_makeAwake RX1 2 3 := C
  show q_V l K 0 [(0, .ref 1), (1, .int (nI g)), (2, .int 0)] [] S
  refine q_aload_n C dX1_makeAwake_0 rfl rfl ?_
  refine q_getR C flX1_37 q_s1 rfl dX1_makeAwake_1 ?_
  refine q_iload_n C dX1_makeAwake_4 rfl rfl ?_
  refine q_iload_n C dX1_makeAwake_5 rfl rfl ?_
  refine q_zastV (i := g) (v := 0) C rfl q_s9 (by omega) (by decide) dX1_makeAwake_6 (by decide) ?_
  refine q_aload_n C dX1_makeAwake_7 rfl rfl ?_
  refine q_ci0 C (c_X1_countAwake l (q_p S 9 g 0)) myX1_countAwake mlX1_111 q_s1 ⟨by decide, by decide⟩ (Nat.le_of_ble_eq_true rfl) dX1_makeAwake_8 ?_
  exact hret _ _ _ _ dX1_makeAwake_11 rfl rfl
theorem c_X1_makeAwake1 (l : Launch) (S : q_St) (g : Nat) (hg : g < 6) : q_Fi l yX1_makeAwake kX1_makeAwake 2 [.ref 1, .int (nI g), .int 1] S (uC_awake (q_p S 9 g 1)) (q_p S 9 g 1) := by
  refine q_Fi_of (maxL := 3) rfl (by decide +kernel) (fun ad => Nat.le_of_ble_eq_true rfl) rfl ?_
  intro K C hret
  have C : q_Cx K cX1_makeAwake RX1 2 3 := C
  show q_V l K 0 [(0, .ref 1), (1, .int (nI g)), (2, .int 1)] [] S
  refine q_aload_n C dX1_makeAwake_0 rfl rfl ?_
  refine q_getR C flX1_37 q_s1 rfl dX1_makeAwake_1 ?_
  refine q_iload_n C dX1_makeAwake_4 rfl rfl ?_
  refine q_iload_n C dX1_makeAwake_5 rfl rfl ?_
  refine q_zastV (i := g) (v := 1) C rfl q_s9 (by omega) (by decide) dX1_makeAwake_6 (by decide) ?_
  refine q_aload_n C dX1_makeAwake_7 rfl rfl ?_
  refine q_ci0 C (c_X1_countAwake l (q_p S 9 g 1)) myX1_countAwake mlX1_111 q_s1 ⟨by decide, by decide⟩ (Nat.le_of_ble_eq_true rfl) dX1_makeAwake_8 ?_
  exact hret _ _ _ _ dX1_makeAwake_11 rfl rfl
theorem c_X1_inquireOf (l : Launch) (S : q_St) (m : Nat) (hm : m < 8) (g : Nat) (hg : g < 6) (o : Nat) (ho : o < 6) : q_Fi l yX1_inquireOf kX1_inquireOf 3 [.ref 1, .int (nI m), .int (nI g), .int (nI o)] S (uC_inq S m g o 6 (m * 6 + g)) (uC_inq S m g o) := by
  refine q_Fi_of (maxL := 5) rfl (by decide +kernel) (fun ad => Nat.le_of_ble_eq_true rfl) rfl ?_
  intro K C hret
  have C : q_Cx K cX1_inquireOf RX1 3 5 := C
  show q_V l K 0 [(0, .ref 1), (1, .int (nI m)), (2, .int (nI g)), (3, .int (nI o))] [] S
  refine q_aload_n C dX1_inquireOf_0 rfl rfl ?_
  refine q_dup C rfl dX1_inquireOf_1 ?_
  refine q_getI (x := S 1 3) C flX1_51 q_s1 rfl dX1_inquireOf_2 rfl ?_
  refine q_iconst (v := 1) C dX1_inquireOf_5 (by decide) ?_
  refine q_iadd C dX1_inquireOf_6 ?_
  refine q_put (ty9 := .int) C flX1_51 q_s1 rfl (fun _ _ _ h => by cases h; exact ⟨rfl, by decide +kernel⟩) rfl rfl dX1_inquireOf_7 ?_
  refine q_aload_n C dX1_inquireOf_10 rfl rfl ?_
  refine q_iload_n C dX1_inquireOf_11 rfl rfl ?_
  refine q_iload_n C dX1_inquireOf_12 rfl rfl ?_
  refine q_ci2 C (q_Fi.cv (v' := S 6 (m * 6 + o)) rfl (c_X1_answerOf l (q_p S 1 3 ((S 1 3) + 1)) m (by omega) o (by omega))) myX1_answerOf mlX1_75 q_s1 ⟨by decide, by decide⟩ (Nat.le_of_ble_eq_true rfl) dX1_inquireOf_13 ?_
  refine q_istore (lv' := [(4, .int (S 6 (m * 6 + o))), (0, .ref 1), (1, .int (nI m)), (2, .int (nI g)), (3, .int (nI o))]) C dX1_inquireOf_16 (by decide) rfl ?_
  refine q_iload C dX1_inquireOf_18 rfl ?_
  refine q_iconst (v := 3) C dX1_inquireOf_20 (by decide) ?_
  refine q_icmp_ne (tgt := 33) C dX1_inquireOf_21 (by decide)  (fun c_21 => ?_) (fun c_21 => ?_)
  · refine q_aload_n C dX1_inquireOf_33 rfl rfl ?_
    refine q_iload_n C dX1_inquireOf_34 rfl rfl ?_
    refine q_iload_n C dX1_inquireOf_35 rfl rfl ?_
    refine q_iconst (v := 4) C dX1_inquireOf_36 (by decide) ?_
    refine q_cv3 C (c_X1_giveAnswer l (q_p S 1 3 ((S 1 3) + 1)) m (by omega) g (by omega) 4) myX1_giveAnswer mlX1_71 q_s1 ⟨by decide, by decide⟩ (Nat.le_of_ble_eq_true rfl) dX1_inquireOf_37 ?_
    refine q_iload C dX1_inquireOf_40 rfl ?_
    refine q_if_ne (tgt := 52) C dX1_inquireOf_42 (by decide)  (fun c_42 => ?_) (fun c_42 => ?_)
    · refine q_aload_n C dX1_inquireOf_52 rfl rfl ?_
      refine q_iload_n C dX1_inquireOf_53 rfl rfl ?_
      refine q_iload_n C dX1_inquireOf_54 rfl rfl ?_
      refine q_ci2 C (q_Fi.cv (v' := 4) (q_p_eq (q_p S 1 3 ((S 1 3) + 1)) 6 (m * 6 + g) 4) (c_X1_answerOf l (q_p (q_p S 1 3 ((S 1 3) + 1)) 6 (m * 6 + g) 4) m (by omega) g (by omega))) myX1_answerOf mlX1_75 q_s1 ⟨by decide, by decide⟩ (Nat.le_of_ble_eq_true rfl) dX1_inquireOf_55 ?_
      exact hret _ _ _ _ dX1_inquireOf_58 (by first | (simp [uC_inq, c_21, c_42]; done) | (exfalso; simp_all; done) | (simp [uC_inq, c_21, c_42]; simp [q_p, upd])) (by first | (simp [uC_inq, c_21, c_42]; done) | (exfalso; simp_all; done))
    · refine q_aload_n C dX1_inquireOf_45 rfl rfl ?_
      refine q_iload_n C dX1_inquireOf_46 rfl rfl ?_
      refine q_iload_n C dX1_inquireOf_47 rfl rfl ?_
      refine q_iconst (v := 2) C dX1_inquireOf_48 (by decide) ?_
      refine q_cv3 C (c_X1_giveAnswer l (q_p (q_p S 1 3 ((S 1 3) + 1)) 6 (m * 6 + g) 4) m (by omega) o (by omega) 2) myX1_giveAnswer mlX1_71 q_s1 ⟨by decide, by decide⟩ (Nat.le_of_ble_eq_true rfl) dX1_inquireOf_49 ?_
      refine q_aload_n C dX1_inquireOf_52 rfl rfl ?_
      refine q_iload_n C dX1_inquireOf_53 rfl rfl ?_
      refine q_iload_n C dX1_inquireOf_54 rfl rfl ?_
      refine q_ci2 C (c_X1_answerOf l (q_p (q_p (q_p S 1 3 ((S 1 3) + 1)) 6 (m * 6 + g) 4) 6 (m * 6 + o) 2) m (by omega) g (by omega)) myX1_answerOf mlX1_75 q_s1 ⟨by decide, by decide⟩ (Nat.le_of_ble_eq_true rfl) dX1_inquireOf_55 ?_
      exact hret _ _ _ _ dX1_inquireOf_58 (by first | (simp [uC_inq, c_21, c_42]; done) | (exfalso; simp_all; done) | (simp [uC_inq, c_21, c_42]; simp [q_p, upd])) (by first | (simp [uC_inq, c_21, c_42]; done) | (exfalso; simp_all; done))
  · refine q_aload_n C dX1_inquireOf_24 rfl rfl ?_
    refine q_iload_n C dX1_inquireOf_25 rfl rfl ?_
    refine q_iload_n C dX1_inquireOf_26 rfl rfl ?_
    refine q_cv2 C (c_X1_sealFor l (q_p S 1 3 ((S 1 3) + 1)) m (by omega) g (by omega)) myX1_sealFor mlX1_102 q_s1 ⟨by decide, by decide⟩ (Nat.le_of_ble_eq_true rfl) dX1_inquireOf_27 ?_
    refine q_goto (tgt := 40) C dX1_inquireOf_30 (by decide) ?_
    refine q_iload C dX1_inquireOf_40 rfl ?_
    refine q_if_ne (tgt := 52) C dX1_inquireOf_42 (by decide)  (fun c_42 => ?_) (fun c_42 => ?_)
    · refine q_aload_n C dX1_inquireOf_52 rfl rfl ?_
      refine q_iload_n C dX1_inquireOf_53 rfl rfl ?_
      refine q_iload_n C dX1_inquireOf_54 rfl rfl ?_
      refine q_ci2 C (c_X1_answerOf l (uC_seal (q_p S 1 3 ((S 1 3) + 1)) m g) m (by omega) g (by omega)) myX1_answerOf mlX1_75 q_s1 ⟨by decide, by decide⟩ (Nat.le_of_ble_eq_true rfl) dX1_inquireOf_55 ?_
      exact hret _ _ _ _ dX1_inquireOf_58 (by first | (simp [uC_inq, c_21, c_42]; done) | (exfalso; simp_all; done) | (simp [uC_inq, c_21, c_42]; simp [q_p, upd])) (by first | (simp [uC_inq, c_21, c_42]; done) | (exfalso; simp_all; done))
    · refine q_aload_n C dX1_inquireOf_45 rfl rfl ?_
      refine q_iload_n C dX1_inquireOf_46 rfl rfl ?_
      refine q_iload_n C dX1_inquireOf_47 rfl rfl ?_
      refine q_iconst (v := 2) C dX1_inquireOf_48 (by decide) ?_
      refine q_cv3 C (c_X1_giveAnswer l (uC_seal (q_p S 1 3 ((S 1 3) + 1)) m g) m (by omega) o (by omega) 2) myX1_giveAnswer mlX1_71 q_s1 ⟨by decide, by decide⟩ (Nat.le_of_ble_eq_true rfl) dX1_inquireOf_49 ?_
      refine q_aload_n C dX1_inquireOf_52 rfl rfl ?_
      refine q_iload_n C dX1_inquireOf_53 rfl rfl ?_
      refine q_iload_n C dX1_inquireOf_54 rfl rfl ?_
      refine q_ci2 C (c_X1_answerOf l (q_p (uC_seal (q_p S 1 3 ((S 1 3) + 1)) m g) 6 (m * 6 + o) 2) m (by omega) g (by omega)) myX1_answerOf mlX1_75 q_s1 ⟨by decide, by decide⟩ (Nat.le_of_ble_eq_true rfl) dX1_inquireOf_55 ?_
      exact hret _ _ _ _ dX1_inquireOf_58 (by first | (simp [uC_inq, c_21, c_42]; done) | (exfalso; simp_all; done) | (simp [uC_inq, c_21, c_42]; simp [q_p, upd])) (by first | (simp [uC_inq, c_21, c_42]; done) | (exfalso; simp_all; done))
theorem c_X1_letHoursPass (l : Launch) (S : q_St) (M : Nat) (hM : S 1 0 = nI M) (hM8 : M ≤ 8) (h : Int32) : q_Fi l yX1_letHoursPass kX1_letHoursPass 3 [.ref 1, .int h] S (q_sum (uC_psf (q_p S 1 2 (S 1 2 + h)) M h) 6) (uC_pass S M h) := by
  refine q_Fi_of (maxL := 4) rfl (by decide +kernel) (fun ad => Nat.le_of_ble_eq_true rfl) rfl ?_
  intro K C hret
  have C : q_Cx K cX1_letHoursPass RX1 3 4 := C
  show q_V l K 0 [(0, .ref 1), (1, .int h)] [] S
  refine q_aload_n C dX1_letHoursPass_0 rfl rfl ?_
  refine q_dup C rfl dX1_letHoursPass_1 ?_
  refine q_getI (x := S 1 2) C flX1_48 q_s1 rfl dX1_letHoursPass_2 rfl ?_
  refine q_iload_n C dX1_letHoursPass_5 rfl rfl ?_
  refine q_iadd C dX1_letHoursPass_6 ?_
  refine q_put (ty9 := .int) C flX1_48 q_s1 rfl (fun _ _ _ h => by cases h; exact ⟨rfl, by decide +kernel⟩) rfl rfl dX1_letHoursPass_7 ?_
  refine q_iconst (v := 0) C dX1_letHoursPass_10 (by decide) ?_
  refine q_istore_n (lv' := [(2, .int 0), (0, .ref 1), (1, .int h)]) C dX1_letHoursPass_11 rfl (by decide) rfl ?_
  refine q_iconst (v := 0) C dX1_letHoursPass_12 (by decide) ?_
  refine q_istore_n (lv' := [(3, .int 0), (2, .int 0), (0, .ref 1), (1, .int h)]) C dX1_letHoursPass_13 rfl (by decide) rfl ?_
  have loop_14 : ∀ (n_14 i_14 : Nat), i_14 + n_14 = 6 → q_V l K 14 [(0, .ref 1), (1, .int h), (2, .int (q_sum (uC_psf (q_p S 1 2 (S 1 2 + h)) M h) i_14)), (3, .int (nI i_14))] [] (uC_ps (q_p S 1 2 (S 1 2 + h)) M h i_14) := by
    intro n_14
    induction n_14 with
    | zero =>
      intro i_14 hi_14
      have e_14 : i_14 = 6 := by omega
      refine q_iload_n C dX1_letHoursPass_14 rfl rfl ?_
      refine q_bipush (v := 6) C dX1_letHoursPass_15 (by decide) ?_
      refine q_icmp_geN (a := i_14) (b := 6) (tgt := 49) C dX1_letHoursPass_17 (by decide) rfl rfl (by omega) (by omega) (fun c_17 => ?_) (fun c_17 => absurd c_17 (by omega))
      refine q_iload_n C dX1_letHoursPass_49 rfl rfl ?_
      exact hret _ _ _ _ dX1_letHoursPass_50 (by rw [e_14]) (by rw [e_14]; rfl)
    | succ n_14 ih_14 =>
      intro i_14 hi_14
      refine q_iload_n C dX1_letHoursPass_14 rfl rfl ?_
      refine q_bipush (v := 6) C dX1_letHoursPass_15 (by decide) ?_
      refine q_icmp_geN (a := i_14) (b := 6) (tgt := 49) C dX1_letHoursPass_17 (by decide) rfl rfl (by omega) (by omega) (fun c_17 => absurd c_17 (by omega)) (fun c_17 => ?_)
      refine q_aload_n C dX1_letHoursPass_20 rfl rfl ?_
      refine q_iload_n C dX1_letHoursPass_21 rfl rfl ?_
      have t_22 : uC_doubt (uC_ps (q_p S 1 2 (S 1 2 + h)) M h i_14) M i_14 = uC_doubt (q_p S 1 2 (S 1 2 + h)) M i_14 := uC_doubt_cg (uC_ps_ne _ _ _ 6 (by decide) _) _ _
      by_cases h_22 : uC_doubt (q_p S 1 2 (S 1 2 + h)) M i_14 = -1
      · refine q_ci1 C (q_Fi.cv (t_22.trans h_22) (c_X1_doubtOf l (uC_ps (q_p S 1 2 (S 1 2 + h)) M h i_14) M (uC_ps_1 hM _) hM8 i_14 (by omega))) myX1_doubtOf mlX1_79 q_s1 ⟨by decide, by decide⟩ (Nat.le_of_ble_eq_true rfl) dX1_letHoursPass_22 ?_
        refine q_iconst (v := (-1)) C dX1_letHoursPass_25 (by decide) ?_
        refine q_icmp_eq (tgt := 43) C dX1_letHoursPass_26 (by decide) (fun _ => ?_) (fun h9 => absurd h9 (by decide))
        refine q_iinc (v := nI (i_14 + 1)) (lv' := [(3, .int (nI (i_14 + 1))), (0, .ref 1), (1, .int h), (2, .int (q_sum (uC_psf (q_p S 1 2 (S 1 2 + h)) M h) i_14))]) C dX1_letHoursPass_43 rfl (nI_add _ _) (by decide) rfl ?_
        refine q_goto (tgt := 14) C dX1_letHoursPass_46 (by decide) ?_
        exact q_V_to (ih_14 (i_14 + 1) (by omega)) ⟨rfl, rfl, q_iv (by simp [q_sum, uC_psf, c_17, Nat.not_le.mpr c_17, h_22]), rfl, trivial⟩ (by simp [uC_ps, c_17, Nat.not_le.mpr c_17, h_22]; try simp [uC_ps_8])
      · refine q_ci1 C (q_Fi.cv t_22 (c_X1_doubtOf l (uC_ps (q_p S 1 2 (S 1 2 + h)) M h i_14) M (uC_ps_1 hM _) hM8 i_14 (by omega))) myX1_doubtOf mlX1_79 q_s1 ⟨by decide, by decide⟩ (Nat.le_of_ble_eq_true rfl) dX1_letHoursPass_22 ?_
        refine q_iconst (v := (-1)) C dX1_letHoursPass_25 (by decide) ?_
        refine q_icmp_eq (tgt := 43) C dX1_letHoursPass_26 (by decide)  (fun c_26 => absurd c_26 h_22) (fun c_26 => ?_)
        refine q_aload_n C dX1_letHoursPass_29 rfl rfl ?_
        refine q_getR C flX1_34 q_s1 rfl dX1_letHoursPass_30 ?_
        refine q_iload_n C dX1_letHoursPass_33 rfl rfl ?_
        refine q_dup2 C rfl rfl dX1_letHoursPass_34 ?_
        refine q_ialdN (i := i_14) (x := (uC_ps (q_p S 1 2 (S 1 2 + h)) M h i_14) 8 i_14) C rfl q_s8 (by omega) (by decide) dX1_letHoursPass_35 rfl ?_
        refine q_iload_n C dX1_letHoursPass_36 rfl rfl ?_
        refine q_iadd C dX1_letHoursPass_37 ?_
        refine q_iastN (i := i_14) C rfl q_s8 (by omega) (by decide) dX1_letHoursPass_38 ?_
        refine q_iload_n C dX1_letHoursPass_39 rfl rfl ?_
        refine q_iload_n C dX1_letHoursPass_40 rfl rfl ?_
        refine q_iadd C dX1_letHoursPass_41 ?_
        refine q_istore_n (lv' := [(2, .int ((q_sum (uC_psf (q_p S 1 2 (S 1 2 + h)) M h) i_14) + h)), (0, .ref 1), (1, .int h), (3, .int (nI i_14))]) C dX1_letHoursPass_42 rfl (by decide) rfl ?_
        refine q_iinc (v := nI (i_14 + 1)) (lv' := [(3, .int (nI (i_14 + 1))), (2, .int ((q_sum (uC_psf (q_p S 1 2 (S 1 2 + h)) M h) i_14) + h)), (0, .ref 1), (1, .int h)]) C dX1_letHoursPass_43 rfl (nI_add _ _) (by decide) rfl ?_
        refine q_goto (tgt := 14) C dX1_letHoursPass_46 (by decide) ?_
        exact q_V_to (ih_14 (i_14 + 1) (by omega)) ⟨rfl, rfl, q_iv (by simp [q_sum, uC_psf, c_17, Nat.not_le.mpr c_17, h_22, c_26]), rfl, trivial⟩ (by simp [uC_ps, c_17, Nat.not_le.mpr c_17, h_22, c_26]; try simp [uC_ps_8])
  exact q_V_to (loop_14 (6 - 0) 0 (by omega)) ⟨rfl, rfl, rfl, rfl, trivial⟩ rfl
theorem c_X1_canLearnByGuilds (l : Launch) (S : q_St) (M : Nat) (hM : S 1 0 = nI M) (hM8 : M ≤ 8) (g : Nat) (hg : g < 6) : q_Fi l yX1_canLearnByGuilds kX1_canLearnByGuilds 3 [.ref 1, .int (nI g)] S (if uC_learn S M g then 1 else 0) S := by
  refine q_Fi_of (maxL := 4) rfl (by decide +kernel) (fun ad => Nat.le_of_ble_eq_true rfl) (by split <;> rfl) ?_
  intro K C hret
  have C : q_Cx K cX1_canLearnByGuilds RX1 3 4 := C
  show q_V l K 0 [(0, .ref 1), (1, .int (nI g))] [] S
  refine q_aload_n C dX1_canLearnByGuilds_0 rfl rfl ?_
  refine q_iload_n C dX1_canLearnByGuilds_1 rfl rfl ?_
  rcases uC_doubt_cs S M g with hd_2 | ⟨d, hdM, hd_2, hd6⟩
  · refine q_ci1 C (q_Fi.cv hd_2 (c_X1_doubtOf l S M hM hM8 g (by omega))) myX1_doubtOf mlX1_79 q_s1 ⟨by decide, by decide⟩ (Nat.le_of_ble_eq_true rfl) dX1_canLearnByGuilds_2 ?_
    refine q_istore_n (lv' := [(2, .int (-1)), (0, .ref 1), (1, .int (nI g))]) C dX1_canLearnByGuilds_5 rfl (by decide) rfl ?_
    refine q_iload_n C dX1_canLearnByGuilds_6 rfl rfl ?_
    refine q_iconst (v := (-1)) C dX1_canLearnByGuilds_7 (by decide) ?_
    refine q_icmp_eq (tgt := 20) C dX1_canLearnByGuilds_8 (by decide) (fun _ => ?_) (fun h9 => absurd h9 (by decide))
    refine q_iconst (v := 0) C dX1_canLearnByGuilds_20 (by decide) ?_
    exact hret _ _ _ _ dX1_canLearnByGuilds_21 (by simp [uC_learn, hd_2]) rfl
  · refine q_ci1 C (q_Fi.cv hd_2 (c_X1_doubtOf l S M hM hM8 g (by omega))) myX1_doubtOf mlX1_79 q_s1 ⟨by decide, by decide⟩ (Nat.le_of_ble_eq_true rfl) dX1_canLearnByGuilds_2 ?_
    refine q_istore_n (lv' := [(2, .int (nI d)), (0, .ref 1), (1, .int (nI g))]) C dX1_canLearnByGuilds_5 rfl (by decide) rfl ?_
    refine q_iload_n C dX1_canLearnByGuilds_6 rfl rfl ?_
    refine q_iconst (v := (-1)) C dX1_canLearnByGuilds_7 (by decide) ?_
    refine q_icmp_eq (tgt := 20) C dX1_canLearnByGuilds_8 (by decide)  (fun c_8 => absurd c_8 (by have h9 := nI_pos' (n := d) (by omega); rw [‹nI d = -1›] at h9; exact absurd h9 (by decide))) (fun c_8 => ?_)
    refine q_aload_n C dX1_canLearnByGuilds_11 rfl rfl ?_
    refine q_getR C flX1_37 q_s1 rfl dX1_canLearnByGuilds_12 ?_
    refine q_iload_n C dX1_canLearnByGuilds_15 rfl rfl ?_
    refine q_zaldN (i := g) (x := S 9 g) C rfl q_s9 (by omega) (by decide) dX1_canLearnByGuilds_16 rfl ?_
    refine q_if_ne (tgt := 22) C dX1_canLearnByGuilds_17 (by decide)  (fun c_17 => ?_) (fun c_17 => ?_)
    · refine q_iconst (v := 0) C dX1_canLearnByGuilds_22 (by decide) ?_
      refine q_istore_n (lv' := [(3, .int 0), (2, .int (nI d)), (0, .ref 1), (1, .int (nI g))]) C dX1_canLearnByGuilds_23 rfl (by decide) rfl ?_
      have loop_24 : ∀ (n_24 i_24 : Nat), i_24 + n_24 = 6 → q_some (uC_pLearn S g d) n_24 i_24 = q_some (uC_pLearn S g d) 6 0 → q_V l K 24 [(0, .ref 1), (1, .int (nI g)), (2, .int (nI d)), (3, .int (nI i_24))] [] S := by
        intro n_24
        induction n_24 with
        | zero =>
          intro i_24 hi_24 hr_24
          have e_24 : i_24 = 6 := by omega
          refine q_iload_n C dX1_canLearnByGuilds_24 rfl rfl ?_
          refine q_bipush (v := 6) C dX1_canLearnByGuilds_25 (by decide) ?_
          refine q_icmp_geN (a := i_24) (b := 6) (tgt := 71) C dX1_canLearnByGuilds_27 (by decide) rfl rfl (by omega) (by omega) (fun c_27 => ?_) (fun c_27 => absurd c_27 (by omega))
          refine q_iconst (v := 0) C dX1_canLearnByGuilds_71 (by decide) ?_
          exact hret _ _ _ _ dX1_canLearnByGuilds_72 (by have h9 : q_some (uC_pLearn S g d) 6 0 = false := by {rw [← hr_24]; rfl}; simp [uC_learn, hd_2, c_8, c_17, c_27, Nat.not_lt.mpr c_27, nI_clamp (show d < 2 ^ 31 by omega), h9]) rfl
        | succ n_24 ih_24 =>
          intro i_24 hi_24 hr_24
          refine q_iload_n C dX1_canLearnByGuilds_24 rfl rfl ?_
          refine q_bipush (v := 6) C dX1_canLearnByGuilds_25 (by decide) ?_
          refine q_icmp_geN (a := i_24) (b := 6) (tgt := 71) C dX1_canLearnByGuilds_27 (by decide) rfl rfl (by omega) (by omega) (fun c_27 => absurd c_27 (by omega)) (fun c_27 => ?_)
          refine q_iload_n C dX1_canLearnByGuilds_30 rfl rfl ?_
          refine q_iload_n C dX1_canLearnByGuilds_31 rfl rfl ?_
          refine q_icmp_eqN (a := i_24) (b := g) (tgt := 65) C dX1_canLearnByGuilds_32 (by decide) rfl rfl (by omega) (by omega) (fun c_32 => ?_) (fun c_32 => ?_)
          · refine q_iinc (v := nI (i_24 + 1)) (lv' := [(3, .int (nI (i_24 + 1))), (0, .ref 1), (1, .int (nI g)), (2, .int (nI d))]) C dX1_canLearnByGuilds_65 rfl (nI_add _ _) (by decide) rfl ?_
            refine q_goto (tgt := 24) C dX1_canLearnByGuilds_68 (by decide) ?_
            exact q_V_to (ih_24 (i_24 + 1) (by omega) (by rw [← hr_24]; simp [q_some, uC_pLearn, hd_2, c_8, c_17, c_27, Nat.not_le.mpr c_27, c_32])) ⟨rfl, rfl, rfl, rfl, trivial⟩ rfl
          · refine q_aload_n C dX1_canLearnByGuilds_35 rfl rfl ?_
            refine q_iload_n C dX1_canLearnByGuilds_36 rfl rfl ?_
            refine q_iload_n C dX1_canLearnByGuilds_37 rfl rfl ?_
            by_cases h_38 : S 5 (d * 6 + i_24) ≠ 0
            · refine q_ci2 C (q_Fi.cv (if_pos h_38) (c_X1_isGuildOf l S d (by omega) i_24 (by omega))) myX1_isGuildOf mlX1_85 q_s1 ⟨by decide, by decide⟩ (Nat.le_of_ble_eq_true rfl) dX1_canLearnByGuilds_38 ?_
              refine q_if_eq (tgt := 65) C dX1_canLearnByGuilds_41 (by decide) (fun h9 => absurd h9 (by decide)) (fun _ => ?_)
              refine q_aload_n C dX1_canLearnByGuilds_44 rfl rfl ?_
              refine q_getR C flX1_37 q_s1 rfl dX1_canLearnByGuilds_45 ?_
              refine q_iload_n C dX1_canLearnByGuilds_48 rfl rfl ?_
              refine q_zaldN (i := i_24) (x := S 9 i_24) C rfl q_s9 (by omega) (by decide) dX1_canLearnByGuilds_49 rfl ?_
              refine q_if_eq (tgt := 65) C dX1_canLearnByGuilds_50 (by decide)  (fun c_50 => ?_) (fun c_50 => ?_)
              · refine q_iinc (v := nI (i_24 + 1)) (lv' := [(3, .int (nI (i_24 + 1))), (0, .ref 1), (1, .int (nI g)), (2, .int (nI d))]) C dX1_canLearnByGuilds_65 rfl (nI_add _ _) (by decide) rfl ?_
                refine q_goto (tgt := 24) C dX1_canLearnByGuilds_68 (by decide) ?_
                exact q_V_to (ih_24 (i_24 + 1) (by omega) (by rw [← hr_24]; simp [q_some, uC_pLearn, hd_2, c_8, c_17, c_27, Nat.not_le.mpr c_27, c_32, if_pos h_38, h_38, c_50])) ⟨rfl, rfl, rfl, rfl, trivial⟩ rfl
              · refine q_aload_n C dX1_canLearnByGuilds_53 rfl rfl ?_
                refine q_iload_n C dX1_canLearnByGuilds_54 rfl rfl ?_
                refine q_iload_n C dX1_canLearnByGuilds_55 rfl rfl ?_
                refine q_ci2 C (c_X1_answerOf l S d (by omega) i_24 (by omega)) myX1_answerOf mlX1_75 q_s1 ⟨by decide, by decide⟩ (Nat.le_of_ble_eq_true rfl) dX1_canLearnByGuilds_56 ?_
                refine q_iconst (v := 1) C dX1_canLearnByGuilds_59 (by decide) ?_
                refine q_icmp_eq (tgt := 65) C dX1_canLearnByGuilds_60 (by decide)  (fun c_60 => ?_) (fun c_60 => ?_)
                · refine q_iinc (v := nI (i_24 + 1)) (lv' := [(3, .int (nI (i_24 + 1))), (0, .ref 1), (1, .int (nI g)), (2, .int (nI d))]) C dX1_canLearnByGuilds_65 rfl (nI_add _ _) (by decide) rfl ?_
                  refine q_goto (tgt := 24) C dX1_canLearnByGuilds_68 (by decide) ?_
                  exact q_V_to (ih_24 (i_24 + 1) (by omega) (by rw [← hr_24]; simp [q_some, uC_pLearn, hd_2, c_8, c_17, c_27, Nat.not_le.mpr c_27, c_32, if_pos h_38, h_38, c_50, c_60])) ⟨rfl, rfl, rfl, rfl, trivial⟩ rfl
                · refine q_iconst (v := 1) C dX1_canLearnByGuilds_63 (by decide) ?_
                  exact hret _ _ _ _ dX1_canLearnByGuilds_64 (by have h9 : q_some (uC_pLearn S g d) 6 0 = true := by {rw [← hr_24]; simp [q_some, uC_pLearn, hd_2, c_8, c_17, c_27, Nat.not_le.mpr c_27, c_32, if_pos h_38, h_38, c_50, c_60]}; simp [uC_learn, hd_2, c_8, c_17, c_27, Nat.not_le.mpr c_27, c_32, if_pos h_38, h_38, c_50, c_60, nI_clamp (show d < 2 ^ 31 by omega), h9, uC_dne (show d < 2 ^ 31 by omega)]) rfl
            · refine q_ci2 C (q_Fi.cv (if_neg h_38) (c_X1_isGuildOf l S d (by omega) i_24 (by omega))) myX1_isGuildOf mlX1_85 q_s1 ⟨by decide, by decide⟩ (Nat.le_of_ble_eq_true rfl) dX1_canLearnByGuilds_38 ?_
              refine q_if_eq (tgt := 65) C dX1_canLearnByGuilds_41 (by decide) (fun _ => ?_) (fun h9 => absurd h9 (by decide))
              refine q_iinc (v := nI (i_24 + 1)) (lv' := [(3, .int (nI (i_24 + 1))), (0, .ref 1), (1, .int (nI g)), (2, .int (nI d))]) C dX1_canLearnByGuilds_65 rfl (nI_add _ _) (by decide) rfl ?_
              refine q_goto (tgt := 24) C dX1_canLearnByGuilds_68 (by decide) ?_
              exact q_V_to (ih_24 (i_24 + 1) (by omega) (by rw [← hr_24]; simp [q_some, uC_pLearn, hd_2, c_8, c_17, c_27, Nat.not_le.mpr c_27, c_32, if_neg h_38, h_38, Decidable.not_not.mp h_38])) ⟨rfl, rfl, rfl, rfl, trivial⟩ rfl
      exact q_V_to (loop_24 (6 - 0) 0 (by omega) rfl) ⟨rfl, rfl, rfl, rfl, trivial⟩ rfl
    · refine q_iconst (v := 0) C dX1_canLearnByGuilds_20 (by decide) ?_
      exact hret _ _ _ _ dX1_canLearnByGuilds_21 (by simp [uC_learn, hd_2, c_8, c_17]) rfl
theorem c_X1_setOfAwake (l : Launch) (S : q_St) : q_Fi l yX1_setOfAwake kX1_setOfAwake 1 [.ref 1] S (uC_aset S) S := by
  refine q_Fi_of (maxL := 3) rfl (by decide +kernel) (fun ad => Nat.le_of_ble_eq_true rfl) rfl ?_
  intro K C hret
  have C : q_Cx K cX1_setOfAwake RX1 1 3 := C
  show q_V l K 0 [(0, .ref 1)] [] S
  refine q_iconst (v := 0) C dX1_setOfAwake_0 (by decide) ?_
  refine q_istore_n (lv' := [(1, .int 0), (0, .ref 1)]) C dX1_setOfAwake_1 rfl (by decide) rfl ?_
  refine q_iconst (v := 0) C dX1_setOfAwake_2 (by decide) ?_
  refine q_istore_n (lv' := [(2, .int 0), (1, .int 0), (0, .ref 1)]) C dX1_setOfAwake_3 rfl (by decide) rfl ?_
  have loop_4 : ∀ (n_4 i_4 : Nat), i_4 + n_4 = 6 → q_V l K 4 [(0, .ref 1), (1, .int (q_ors (fun g => if S 9 g = 0 then 0 else 1 <<< (nI g &&& 31)) i_4)), (2, .int (nI i_4))] [] S := by
    intro n_4
    induction n_4 with
    | zero =>
      intro i_4 hi_4
      have e_4 : i_4 = 6 := by omega
      refine q_iload_n C dX1_setOfAwake_4 rfl rfl ?_
      refine q_bipush (v := 6) C dX1_setOfAwake_5 (by decide) ?_
      refine q_icmp_geN (a := i_4) (b := 6) (tgt := 35) C dX1_setOfAwake_7 (by decide) rfl rfl (by omega) (by omega) (fun c_7 => ?_) (fun c_7 => absurd c_7 (by omega))
      refine q_iload_n C dX1_setOfAwake_35 rfl rfl ?_
      exact hret _ _ _ _ dX1_setOfAwake_36 (by rw [e_4]; rfl) rfl
    | succ n_4 ih_4 =>
      intro i_4 hi_4
      refine q_iload_n C dX1_setOfAwake_4 rfl rfl ?_
      refine q_bipush (v := 6) C dX1_setOfAwake_5 (by decide) ?_
      refine q_icmp_geN (a := i_4) (b := 6) (tgt := 35) C dX1_setOfAwake_7 (by decide) rfl rfl (by omega) (by omega) (fun c_7 => absurd c_7 (by omega)) (fun c_7 => ?_)
      refine q_iload_n C dX1_setOfAwake_10 rfl rfl ?_
      refine q_aload_n C dX1_setOfAwake_11 rfl rfl ?_
      refine q_getR C flX1_37 q_s1 rfl dX1_setOfAwake_12 ?_
      refine q_iload_n C dX1_setOfAwake_15 rfl rfl ?_
      refine q_zaldN (i := i_4) (x := S 9 i_4) C rfl q_s9 (by omega) (by decide) dX1_setOfAwake_16 rfl ?_
      refine q_if_eq (tgt := 26) C dX1_setOfAwake_17 (by decide)  (fun c_17 => ?_) (fun c_17 => ?_)
      · refine q_iconst (v := 0) C dX1_setOfAwake_26 (by decide) ?_
        refine q_ior C dX1_setOfAwake_27 ?_
        refine q_istore_n (lv' := [(1, .int ((q_ors (fun g => if S 9 g = 0 then 0 else 1 <<< (nI g &&& 31)) i_4) ||| 0)), (0, .ref 1), (2, .int (nI i_4))]) C dX1_setOfAwake_28 rfl (by decide) rfl ?_
        refine q_iinc (v := nI (i_4 + 1)) (lv' := [(2, .int (nI (i_4 + 1))), (1, .int ((q_ors (fun g => if S 9 g = 0 then 0 else 1 <<< (nI g &&& 31)) i_4) ||| 0)), (0, .ref 1)]) C dX1_setOfAwake_29 rfl (nI_add _ _) (by decide) rfl ?_
        refine q_goto (tgt := 4) C dX1_setOfAwake_32 (by decide) ?_
        exact q_V_to (ih_4 (i_4 + 1) (by omega)) ⟨rfl, q_iv (by simp [q_ors, c_7, Nat.not_le.mpr c_7, c_17]), rfl, trivial⟩ rfl
      · refine q_iconst (v := 1) C dX1_setOfAwake_20 (by decide) ?_
        refine q_iload_n C dX1_setOfAwake_21 rfl rfl ?_
        refine q_ishl C dX1_setOfAwake_22 ?_
        refine q_goto (tgt := 27) C dX1_setOfAwake_23 (by decide) ?_
        refine q_ior C dX1_setOfAwake_27 ?_
        refine q_istore_n (lv' := [(1, .int ((q_ors (fun g => if S 9 g = 0 then 0 else 1 <<< (nI g &&& 31)) i_4) ||| (1 <<< ((nI i_4) &&& 31)))), (0, .ref 1), (2, .int (nI i_4))]) C dX1_setOfAwake_28 rfl (by decide) rfl ?_
        refine q_iinc (v := nI (i_4 + 1)) (lv' := [(2, .int (nI (i_4 + 1))), (1, .int ((q_ors (fun g => if S 9 g = 0 then 0 else 1 <<< (nI g &&& 31)) i_4) ||| (1 <<< ((nI i_4) &&& 31)))), (0, .ref 1)]) C dX1_setOfAwake_29 rfl (nI_add _ _) (by decide) rfl ?_
        refine q_goto (tgt := 4) C dX1_setOfAwake_32 (by decide) ?_
        exact q_V_to (ih_4 (i_4 + 1) (by omega)) ⟨rfl, q_iv (by simp [q_ors, c_7, Nat.not_le.mpr c_7, c_17]), rfl, trivial⟩ rfl
  exact q_V_to (loop_4 (6 - 0) 0 (by omega)) ⟨rfl, rfl, rfl, trivial⟩ rfl
theorem c_X1_setOfDoubters (l : Launch) (S : q_St) (m : Nat) (hm : m < 8) : q_Fi l yX1_setOfDoubters kX1_setOfDoubters 2 [.ref 1, .int (nI m)] S (uC_dset S m) S := by
  refine q_Fi_of (maxL := 4) rfl (by decide +kernel) (fun ad => Nat.le_of_ble_eq_true rfl) rfl ?_
  intro K C hret
  have C : q_Cx K cX1_setOfDoubters RX1 2 4 := C
  show q_V l K 0 [(0, .ref 1), (1, .int (nI m))] [] S
  refine q_iconst (v := 0) C dX1_setOfDoubters_0 (by decide) ?_
  refine q_istore_n (lv' := [(2, .int 0), (0, .ref 1), (1, .int (nI m))]) C dX1_setOfDoubters_1 rfl (by decide) rfl ?_
  refine q_iconst (v := 0) C dX1_setOfDoubters_2 (by decide) ?_
  refine q_istore_n (lv' := [(3, .int 0), (2, .int 0), (0, .ref 1), (1, .int (nI m))]) C dX1_setOfDoubters_3 rfl (by decide) rfl ?_
  have loop_4 : ∀ (n_4 i_4 : Nat), i_4 + n_4 = 6 → q_V l K 4 [(0, .ref 1), (1, .int (nI m)), (2, .int (q_ors (fun g => if S 6 (m * 6 + g) = 1 then 1 <<< (nI g &&& 31) else 0) i_4)), (3, .int (nI i_4))] [] S := by
    intro n_4
    induction n_4 with
    | zero =>
      intro i_4 hi_4
      have e_4 : i_4 = 6 := by omega
      refine q_iload_n C dX1_setOfDoubters_4 rfl rfl ?_
      refine q_bipush (v := 6) C dX1_setOfDoubters_5 (by decide) ?_
      refine q_icmp_geN (a := i_4) (b := 6) (tgt := 36) C dX1_setOfDoubters_7 (by decide) rfl rfl (by omega) (by omega) (fun c_7 => ?_) (fun c_7 => absurd c_7 (by omega))
      refine q_iload_n C dX1_setOfDoubters_36 rfl rfl ?_
      exact hret _ _ _ _ dX1_setOfDoubters_37 (by rw [e_4]; rfl) rfl
    | succ n_4 ih_4 =>
      intro i_4 hi_4
      refine q_iload_n C dX1_setOfDoubters_4 rfl rfl ?_
      refine q_bipush (v := 6) C dX1_setOfDoubters_5 (by decide) ?_
      refine q_icmp_geN (a := i_4) (b := 6) (tgt := 36) C dX1_setOfDoubters_7 (by decide) rfl rfl (by omega) (by omega) (fun c_7 => absurd c_7 (by omega)) (fun c_7 => ?_)
      refine q_iload_n C dX1_setOfDoubters_10 rfl rfl ?_
      refine q_aload_n C dX1_setOfDoubters_11 rfl rfl ?_
      refine q_iload_n C dX1_setOfDoubters_12 rfl rfl ?_
      refine q_iload_n C dX1_setOfDoubters_13 rfl rfl ?_
      refine q_ci2 C (c_X1_answerOf l S m (by omega) i_4 (by omega)) myX1_answerOf mlX1_75 q_s1 ⟨by decide, by decide⟩ (Nat.le_of_ble_eq_true rfl) dX1_setOfDoubters_14 ?_
      refine q_iconst (v := 1) C dX1_setOfDoubters_17 (by decide) ?_
      refine q_icmp_ne (tgt := 27) C dX1_setOfDoubters_18 (by decide)  (fun c_18 => ?_) (fun c_18 => ?_)
      · refine q_iconst (v := 0) C dX1_setOfDoubters_27 (by decide) ?_
        refine q_ior C dX1_setOfDoubters_28 ?_
        refine q_istore_n (lv' := [(2, .int ((q_ors (fun g => if S 6 (m * 6 + g) = 1 then 1 <<< (nI g &&& 31) else 0) i_4) ||| 0)), (0, .ref 1), (1, .int (nI m)), (3, .int (nI i_4))]) C dX1_setOfDoubters_29 rfl (by decide) rfl ?_
        refine q_iinc (v := nI (i_4 + 1)) (lv' := [(3, .int (nI (i_4 + 1))), (2, .int ((q_ors (fun g => if S 6 (m * 6 + g) = 1 then 1 <<< (nI g &&& 31) else 0) i_4) ||| 0)), (0, .ref 1), (1, .int (nI m))]) C dX1_setOfDoubters_30 rfl (nI_add _ _) (by decide) rfl ?_
        refine q_goto (tgt := 4) C dX1_setOfDoubters_33 (by decide) ?_
        exact q_V_to (ih_4 (i_4 + 1) (by omega)) ⟨rfl, rfl, q_iv (by simp [q_ors, c_7, Nat.not_le.mpr c_7, c_18]), rfl, trivial⟩ rfl
      · refine q_iconst (v := 1) C dX1_setOfDoubters_21 (by decide) ?_
        refine q_iload_n C dX1_setOfDoubters_22 rfl rfl ?_
        refine q_ishl C dX1_setOfDoubters_23 ?_
        refine q_goto (tgt := 28) C dX1_setOfDoubters_24 (by decide) ?_
        refine q_ior C dX1_setOfDoubters_28 ?_
        refine q_istore_n (lv' := [(2, .int ((q_ors (fun g => if S 6 (m * 6 + g) = 1 then 1 <<< (nI g &&& 31) else 0) i_4) ||| (1 <<< ((nI i_4) &&& 31)))), (0, .ref 1), (1, .int (nI m)), (3, .int (nI i_4))]) C dX1_setOfDoubters_29 rfl (by decide) rfl ?_
        refine q_iinc (v := nI (i_4 + 1)) (lv' := [(3, .int (nI (i_4 + 1))), (2, .int ((q_ors (fun g => if S 6 (m * 6 + g) = 1 then 1 <<< (nI g &&& 31) else 0) i_4) ||| (1 <<< ((nI i_4) &&& 31)))), (0, .ref 1), (1, .int (nI m))]) C dX1_setOfDoubters_30 rfl (nI_add _ _) (by decide) rfl ?_
        refine q_goto (tgt := 4) C dX1_setOfDoubters_33 (by decide) ?_
        exact q_V_to (ih_4 (i_4 + 1) (by omega)) ⟨rfl, rfl, q_iv (by simp [q_ors, c_7, Nat.not_le.mpr c_7, c_18]), rfl, trivial⟩ rfl
  exact q_V_to (loop_4 (6 - 0) 0 (by omega)) ⟨rfl, rfl, rfl, rfl, trivial⟩ rfl
theorem c_X1_setOfGuilds (l : Launch) (S : q_St) (m : Nat) (hm : m < 8) : q_Fi l yX1_setOfGuilds kX1_setOfGuilds 2 [.ref 1, .int (nI m)] S (uC_gset S m) S := by
  refine q_Fi_of (maxL := 4) rfl (by decide +kernel) (fun ad => Nat.le_of_ble_eq_true rfl) rfl ?_
  intro K C hret
  have C : q_Cx K cX1_setOfGuilds RX1 2 4 := C
  show q_V l K 0 [(0, .ref 1), (1, .int (nI m))] [] S
  refine q_iconst (v := 0) C dX1_setOfGuilds_0 (by decide) ?_
  refine q_istore_n (lv' := [(2, .int 0), (0, .ref 1), (1, .int (nI m))]) C dX1_setOfGuilds_1 rfl (by decide) rfl ?_
  refine q_iconst (v := 0) C dX1_setOfGuilds_2 (by decide) ?_
  refine q_istore_n (lv' := [(3, .int 0), (2, .int 0), (0, .ref 1), (1, .int (nI m))]) C dX1_setOfGuilds_3 rfl (by decide) rfl ?_
  have loop_4 : ∀ (n_4 i_4 : Nat), i_4 + n_4 = 6 → q_V l K 4 [(0, .ref 1), (1, .int (nI m)), (2, .int (q_ors (fun g => if S 5 (m * 6 + g) = 0 then 0 else 1 <<< (nI g &&& 31)) i_4)), (3, .int (nI i_4))] [] S := by
    intro n_4
    induction n_4 with
    | zero =>
      intro i_4 hi_4
      have e_4 : i_4 = 6 := by omega
      refine q_iload_n C dX1_setOfGuilds_4 rfl rfl ?_
      refine q_bipush (v := 6) C dX1_setOfGuilds_5 (by decide) ?_
      refine q_icmp_geN (a := i_4) (b := 6) (tgt := 35) C dX1_setOfGuilds_7 (by decide) rfl rfl (by omega) (by omega) (fun c_7 => ?_) (fun c_7 => absurd c_7 (by omega))
      refine q_iload_n C dX1_setOfGuilds_35 rfl rfl ?_
      exact hret _ _ _ _ dX1_setOfGuilds_36 (by rw [e_4]; rfl) rfl
    | succ n_4 ih_4 =>
      intro i_4 hi_4
      refine q_iload_n C dX1_setOfGuilds_4 rfl rfl ?_
      refine q_bipush (v := 6) C dX1_setOfGuilds_5 (by decide) ?_
      refine q_icmp_geN (a := i_4) (b := 6) (tgt := 35) C dX1_setOfGuilds_7 (by decide) rfl rfl (by omega) (by omega) (fun c_7 => absurd c_7 (by omega)) (fun c_7 => ?_)
      refine q_iload_n C dX1_setOfGuilds_10 rfl rfl ?_
      refine q_aload_n C dX1_setOfGuilds_11 rfl rfl ?_
      refine q_iload_n C dX1_setOfGuilds_12 rfl rfl ?_
      refine q_iload_n C dX1_setOfGuilds_13 rfl rfl ?_
      by_cases h_14 : S 5 (m * 6 + i_4) ≠ 0
      · refine q_ci2 C (q_Fi.cv (if_pos h_14) (c_X1_isGuildOf l S m (by omega) i_4 (by omega))) myX1_isGuildOf mlX1_85 q_s1 ⟨by decide, by decide⟩ (Nat.le_of_ble_eq_true rfl) dX1_setOfGuilds_14 ?_
        refine q_if_eq (tgt := 26) C dX1_setOfGuilds_17 (by decide) (fun h9 => absurd h9 (by decide)) (fun _ => ?_)
        refine q_iconst (v := 1) C dX1_setOfGuilds_20 (by decide) ?_
        refine q_iload_n C dX1_setOfGuilds_21 rfl rfl ?_
        refine q_ishl C dX1_setOfGuilds_22 ?_
        refine q_goto (tgt := 27) C dX1_setOfGuilds_23 (by decide) ?_
        refine q_ior C dX1_setOfGuilds_27 ?_
        refine q_istore_n (lv' := [(2, .int ((q_ors (fun g => if S 5 (m * 6 + g) = 0 then 0 else 1 <<< (nI g &&& 31)) i_4) ||| (1 <<< ((nI i_4) &&& 31)))), (0, .ref 1), (1, .int (nI m)), (3, .int (nI i_4))]) C dX1_setOfGuilds_28 rfl (by decide) rfl ?_
        refine q_iinc (v := nI (i_4 + 1)) (lv' := [(3, .int (nI (i_4 + 1))), (2, .int ((q_ors (fun g => if S 5 (m * 6 + g) = 0 then 0 else 1 <<< (nI g &&& 31)) i_4) ||| (1 <<< ((nI i_4) &&& 31)))), (0, .ref 1), (1, .int (nI m))]) C dX1_setOfGuilds_29 rfl (nI_add _ _) (by decide) rfl ?_
        refine q_goto (tgt := 4) C dX1_setOfGuilds_32 (by decide) ?_
        exact q_V_to (ih_4 (i_4 + 1) (by omega)) ⟨rfl, rfl, q_iv (by simp [q_ors, c_7, Nat.not_le.mpr c_7, if_pos h_14, h_14]), rfl, trivial⟩ rfl
      · refine q_ci2 C (q_Fi.cv (if_neg h_14) (c_X1_isGuildOf l S m (by omega) i_4 (by omega))) myX1_isGuildOf mlX1_85 q_s1 ⟨by decide, by decide⟩ (Nat.le_of_ble_eq_true rfl) dX1_setOfGuilds_14 ?_
        refine q_if_eq (tgt := 26) C dX1_setOfGuilds_17 (by decide) (fun _ => ?_) (fun h9 => absurd h9 (by decide))
        refine q_iconst (v := 0) C dX1_setOfGuilds_26 (by decide) ?_
        refine q_ior C dX1_setOfGuilds_27 ?_
        refine q_istore_n (lv' := [(2, .int ((q_ors (fun g => if S 5 (m * 6 + g) = 0 then 0 else 1 <<< (nI g &&& 31)) i_4) ||| 0)), (0, .ref 1), (1, .int (nI m)), (3, .int (nI i_4))]) C dX1_setOfGuilds_28 rfl (by decide) rfl ?_
        refine q_iinc (v := nI (i_4 + 1)) (lv' := [(3, .int (nI (i_4 + 1))), (2, .int ((q_ors (fun g => if S 5 (m * 6 + g) = 0 then 0 else 1 <<< (nI g &&& 31)) i_4) ||| 0)), (0, .ref 1), (1, .int (nI m))]) C dX1_setOfGuilds_29 rfl (nI_add _ _) (by decide) rfl ?_
        refine q_goto (tgt := 4) C dX1_setOfGuilds_32 (by decide) ?_
        exact q_V_to (ih_4 (i_4 + 1) (by omega)) ⟨rfl, rfl, q_iv (by simp [q_ors, c_7, Nat.not_le.mpr c_7, if_neg h_14, h_14, Decidable.not_not.mp h_14]), rfl, trivial⟩ rfl
  exact q_V_to (loop_4 (6 - 0) 0 (by omega)) ⟨rfl, rfl, rfl, rfl, trivial⟩ rfl
theorem c_X1_canLearnBySets (l : Launch) (S : q_St) (M : Nat) (hM : S 1 0 = nI M) (hM8 : M ≤ 8) (g : Nat) (hg : g < 6) : q_Fi l yX1_canLearnBySets kX1_canLearnBySets 3 [.ref 1, .int (nI g)] S (if uC_learnS S M g then 1 else 0) S := by
  refine q_Fi_of (maxL := 6) rfl (by decide +kernel) (fun ad => Nat.le_of_ble_eq_true rfl) (by split <;> rfl) ?_
  intro K C hret
  have C : q_Cx K cX1_canLearnBySets RX1 3 6 := C
  show q_V l K 0 [(0, .ref 1), (1, .int (nI g))] [] S
  refine q_aload_n C dX1_canLearnBySets_0 rfl rfl ?_
  refine q_ci0 C (c_X1_setOfAwake l S) myX1_setOfAwake mlX1_115 q_s1 ⟨by decide, by decide⟩ (Nat.le_of_ble_eq_true rfl) dX1_canLearnBySets_1 ?_
  refine q_istore_n (lv' := [(2, .int (uC_aset S)), (0, .ref 1), (1, .int (nI g))]) C dX1_canLearnBySets_4 rfl (by decide) rfl ?_
  refine q_iconst (v := 0) C dX1_canLearnBySets_5 (by decide) ?_
  refine q_istore_n (lv' := [(3, .int 0), (2, .int (uC_aset S)), (0, .ref 1), (1, .int (nI g))]) C dX1_canLearnBySets_6 rfl (by decide) rfl ?_
  have loop_7 : ∀ (n_7 i_7 : Nat), i_7 + n_7 = M → q_some (uC_pSets S g) n_7 i_7 = q_some (uC_pSets S g) M 0 → q_V l K 7 [(0, .ref 1), (1, .int (nI g)), (2, .int (uC_aset S)), (3, .int (nI i_7))] [] S := by
    intro n_7
    induction n_7 with
    | zero =>
      intro i_7 hi_7 hr_7
      have e_7 : i_7 = M := by omega
      refine q_iload_n C dX1_canLearnBySets_7 rfl rfl ?_
      refine q_aload_n C dX1_canLearnBySets_8 rfl rfl ?_
      refine q_getI (x := nI M) C flX1_41 q_s1 rfl dX1_canLearnBySets_9 hM ?_
      refine q_icmp_geN (a := i_7) (b := M) (tgt := 60) C dX1_canLearnBySets_12 (by decide) rfl rfl (by omega) (by omega) (fun c_12 => ?_) (fun c_12 => absurd c_12 (by omega))
      refine q_iconst (v := 0) C dX1_canLearnBySets_60 (by decide) ?_
      exact hret _ _ _ _ dX1_canLearnBySets_61 (by simp only [uC_learnS]; rw [← hr_7]; simp [q_some]) rfl
    | succ n_7 ih_7 =>
      intro i_7 hi_7 hr_7
      refine q_iload_n C dX1_canLearnBySets_7 rfl rfl ?_
      refine q_aload_n C dX1_canLearnBySets_8 rfl rfl ?_
      refine q_getI (x := nI M) C flX1_41 q_s1 rfl dX1_canLearnBySets_9 hM ?_
      refine q_icmp_geN (a := i_7) (b := M) (tgt := 60) C dX1_canLearnBySets_12 (by decide) rfl rfl (by omega) (by omega) (fun c_12 => absurd c_12 (by omega)) (fun c_12 => ?_)
      refine q_aload_n C dX1_canLearnBySets_15 rfl rfl ?_
      refine q_iload_n C dX1_canLearnBySets_16 rfl rfl ?_
      refine q_ci1 C (c_X1_setOfDoubters l S i_7 (by omega)) myX1_setOfDoubters mlX1_118 q_s1 ⟨by decide, by decide⟩ (Nat.le_of_ble_eq_true rfl) dX1_canLearnBySets_17 ?_
      refine q_istore (lv' := [(4, .int (uC_dset S i_7)), (0, .ref 1), (1, .int (nI g)), (2, .int (uC_aset S)), (3, .int (nI i_7))]) C dX1_canLearnBySets_20 (by decide) rfl ?_
      refine q_aload_n C dX1_canLearnBySets_22 rfl rfl ?_
      refine q_iload_n C dX1_canLearnBySets_23 rfl rfl ?_
      refine q_ci1 C (c_X1_setOfGuilds l S i_7 (by omega)) myX1_setOfGuilds mlX1_121 q_s1 ⟨by decide, by decide⟩ (Nat.le_of_ble_eq_true rfl) dX1_canLearnBySets_24 ?_
      refine q_iload C dX1_canLearnBySets_27 rfl ?_
      refine q_iconst (v := (-1)) C dX1_canLearnBySets_29 (by decide) ?_
      refine q_ixor C dX1_canLearnBySets_30 ?_
      refine q_iand C dX1_canLearnBySets_31 ?_
      refine q_iload_n C dX1_canLearnBySets_32 rfl rfl ?_
      refine q_iand C dX1_canLearnBySets_33 ?_
      refine q_istore (lv' := [(5, .int (((uC_gset S i_7) &&& ((uC_dset S i_7) ^^^ (-1))) &&& (uC_aset S))), (4, .int (uC_dset S i_7)), (0, .ref 1), (1, .int (nI g)), (2, .int (uC_aset S)), (3, .int (nI i_7))]) C dX1_canLearnBySets_34 (by decide) rfl ?_
      refine q_iload C dX1_canLearnBySets_36 rfl ?_
      refine q_iload_n C dX1_canLearnBySets_38 rfl rfl ?_
      refine q_iand C dX1_canLearnBySets_39 ?_
      refine q_iconst (v := 1) C dX1_canLearnBySets_40 (by decide) ?_
      refine q_iload_n C dX1_canLearnBySets_41 rfl rfl ?_
      refine q_ishl C dX1_canLearnBySets_42 ?_
      refine q_iand C dX1_canLearnBySets_43 ?_
      refine q_if_eq (tgt := 54) C dX1_canLearnBySets_44 (by decide)  (fun c_44 => ?_) (fun c_44 => ?_)
      · refine q_iinc (v := nI (i_7 + 1)) (lv' := [(3, .int (nI (i_7 + 1))), (5, .int (((uC_gset S i_7) &&& ((uC_dset S i_7) ^^^ (-1))) &&& (uC_aset S))), (4, .int (uC_dset S i_7)), (0, .ref 1), (1, .int (nI g)), (2, .int (uC_aset S))]) C dX1_canLearnBySets_54 rfl (nI_add _ _) (by decide) rfl ?_
        refine q_goto (tgt := 7) C dX1_canLearnBySets_57 (by decide) ?_
        exact q_V_to (ih_7 (i_7 + 1) (by omega) (by rw [← hr_7, q_some, if_neg (by rw [uC_pSets, decide_eq_true_eq]; exact fun h => h.1 c_44)])) ⟨rfl, rfl, rfl, rfl, trivial⟩ rfl
      · refine q_iload C dX1_canLearnBySets_47 rfl ?_
        refine q_if_eq (tgt := 54) C dX1_canLearnBySets_49 (by decide)  (fun c_49 => ?_) (fun c_49 => ?_)
        · refine q_iinc (v := nI (i_7 + 1)) (lv' := [(3, .int (nI (i_7 + 1))), (5, .int (((uC_gset S i_7) &&& ((uC_dset S i_7) ^^^ (-1))) &&& (uC_aset S))), (4, .int (uC_dset S i_7)), (0, .ref 1), (1, .int (nI g)), (2, .int (uC_aset S))]) C dX1_canLearnBySets_54 rfl (nI_add _ _) (by decide) rfl ?_
          refine q_goto (tgt := 7) C dX1_canLearnBySets_57 (by decide) ?_
          exact q_V_to (ih_7 (i_7 + 1) (by omega) (by rw [← hr_7, q_some, if_neg (by rw [uC_pSets, decide_eq_true_eq]; exact fun h => h.2 c_49)])) ⟨rfl, rfl, rfl, rfl, trivial⟩ rfl
        · refine q_iconst (v := 1) C dX1_canLearnBySets_52 (by decide) ?_
          exact hret _ _ _ _ dX1_canLearnBySets_53 (by simp only [uC_learnS]; rw [← hr_7, q_some, if_pos (show uC_pSets S g i_7 = true from decide_eq_true ⟨c_44, c_49⟩)]; simp) rfl
  exact q_V_to (loop_7 (M - 0) 0 (by omega) rfl) ⟨rfl, rfl, rfl, rfl, trivial⟩ rfl
theorem c_X1_countAhead (l : Launch) (S : q_St) (g : Nat) (hg : g < 6) : q_Fi l yX1_countAhead kX1_countAhead 1 [.ref 1, .int (nI g)] S (uC_ahead S g) S := by
  refine q_Fi_of (maxL := 4) rfl (by decide +kernel) (fun ad => Nat.le_of_ble_eq_true rfl) rfl ?_
  intro K C hret
  have C : q_Cx K cX1_countAhead RX1 1 4 := C
  show q_V l K 0 [(0, .ref 1), (1, .int (nI g))] [] S
  refine q_iconst (v := 0) C dX1_countAhead_0 (by decide) ?_
  refine q_istore_n (lv' := [(2, .int 0), (0, .ref 1), (1, .int (nI g))]) C dX1_countAhead_1 rfl (by decide) rfl ?_
  refine q_iconst (v := 0) C dX1_countAhead_2 (by decide) ?_
  refine q_istore_n (lv' := [(3, .int 0), (2, .int 0), (0, .ref 1), (1, .int (nI g))]) C dX1_countAhead_3 rfl (by decide) rfl ?_
  have loop_4 : ∀ (n_4 i_4 : Nat), i_4 + n_4 = 6 → q_V l K 4 [(0, .ref 1), (1, .int (nI g)), (2, .int (q_sum (uC_fAh S g) i_4)), (3, .int (nI i_4))] [] S := by
    intro n_4
    induction n_4 with
    | zero =>
      intro i_4 hi_4
      have e_4 : i_4 = 6 := by omega
      refine q_iload_n C dX1_countAhead_4 rfl rfl ?_
      refine q_bipush (v := 6) C dX1_countAhead_5 (by decide) ?_
      refine q_icmp_geN (a := i_4) (b := 6) (tgt := 54) C dX1_countAhead_7 (by decide) rfl rfl (by omega) (by omega) (fun c_7 => ?_) (fun c_7 => absurd c_7 (by omega))
      refine q_iload_n C dX1_countAhead_54 rfl rfl ?_
      exact hret _ _ _ _ dX1_countAhead_55 (by rw [e_4]; rfl) rfl
    | succ n_4 ih_4 =>
      intro i_4 hi_4
      refine q_iload_n C dX1_countAhead_4 rfl rfl ?_
      refine q_bipush (v := 6) C dX1_countAhead_5 (by decide) ?_
      refine q_icmp_geN (a := i_4) (b := 6) (tgt := 54) C dX1_countAhead_7 (by decide) rfl rfl (by omega) (by omega) (fun c_7 => absurd c_7 (by omega)) (fun c_7 => ?_)
      refine q_aload_n C dX1_countAhead_10 rfl rfl ?_
      refine q_getR C flX1_34 q_s1 rfl dX1_countAhead_11 ?_
      refine q_iload_n C dX1_countAhead_14 rfl rfl ?_
      refine q_ialdN (i := i_4) (x := S 8 i_4) C rfl q_s8 (by omega) (by decide) dX1_countAhead_15 rfl ?_
      refine q_aload_n C dX1_countAhead_16 rfl rfl ?_
      refine q_getR C flX1_34 q_s1 rfl dX1_countAhead_17 ?_
      refine q_iload_n C dX1_countAhead_20 rfl rfl ?_
      refine q_ialdN (i := g) (x := S 8 g) C rfl q_s8 (by omega) (by decide) dX1_countAhead_21 rfl ?_
      refine q_icmp_gt (tgt := 45) C dX1_countAhead_22 (by decide)  (fun c_22 => ?_) (fun c_22 => ?_)
      · refine q_iinc (v := (q_sum (uC_fAh S g) i_4) + 1) (lv' := [(2, .int ((q_sum (uC_fAh S g) i_4) + 1)), (0, .ref 1), (1, .int (nI g)), (3, .int (nI i_4))]) C dX1_countAhead_45 rfl rfl (by decide) rfl ?_
        refine q_iinc (v := nI (i_4 + 1)) (lv' := [(3, .int (nI (i_4 + 1))), (2, .int ((q_sum (uC_fAh S g) i_4) + 1)), (0, .ref 1), (1, .int (nI g))]) C dX1_countAhead_48 rfl (nI_add _ _) (by decide) rfl ?_
        refine q_goto (tgt := 4) C dX1_countAhead_51 (by decide) ?_
        exact q_V_to (ih_4 (i_4 + 1) (by omega)) ⟨rfl, rfl, q_iv (by simp [q_sum, uC_fAh, c_7, Nat.not_le.mpr c_7, c_22, Int32.not_le.mpr c_22, if_pos c_22]), rfl, trivial⟩ rfl
      · refine q_aload_n C dX1_countAhead_25 rfl rfl ?_
        refine q_getR C flX1_34 q_s1 rfl dX1_countAhead_26 ?_
        refine q_iload_n C dX1_countAhead_29 rfl rfl ?_
        refine q_ialdN (i := i_4) (x := S 8 i_4) C rfl q_s8 (by omega) (by decide) dX1_countAhead_30 rfl ?_
        refine q_aload_n C dX1_countAhead_31 rfl rfl ?_
        refine q_getR C flX1_34 q_s1 rfl dX1_countAhead_32 ?_
        refine q_iload_n C dX1_countAhead_35 rfl rfl ?_
        refine q_ialdN (i := g) (x := S 8 g) C rfl q_s8 (by omega) (by decide) dX1_countAhead_36 rfl ?_
        refine q_icmp_ne (tgt := 48) C dX1_countAhead_37 (by decide)  (fun c_37 => ?_) (fun c_37 => ?_)
        · refine q_iinc (v := nI (i_4 + 1)) (lv' := [(3, .int (nI (i_4 + 1))), (0, .ref 1), (1, .int (nI g)), (2, .int (q_sum (uC_fAh S g) i_4))]) C dX1_countAhead_48 rfl (nI_add _ _) (by decide) rfl ?_
          refine q_goto (tgt := 4) C dX1_countAhead_51 (by decide) ?_
          exact q_V_to (ih_4 (i_4 + 1) (by omega)) ⟨rfl, rfl, q_iv (by simp [q_sum, uC_fAh, c_7, Nat.not_le.mpr c_7, c_22, Int32.not_lt.mpr c_22, if_neg (Int32.not_lt.mpr c_22), c_37]), rfl, trivial⟩ rfl
        · refine q_iload_n C dX1_countAhead_40 rfl rfl ?_
          refine q_iload_n C dX1_countAhead_41 rfl rfl ?_
          refine q_icmp_geN (a := i_4) (b := g) (tgt := 48) C dX1_countAhead_42 (by decide) rfl rfl (by omega) (by omega) (fun c_42 => ?_) (fun c_42 => ?_)
          · refine q_iinc (v := nI (i_4 + 1)) (lv' := [(3, .int (nI (i_4 + 1))), (0, .ref 1), (1, .int (nI g)), (2, .int (q_sum (uC_fAh S g) i_4))]) C dX1_countAhead_48 rfl (nI_add _ _) (by decide) rfl ?_
            refine q_goto (tgt := 4) C dX1_countAhead_51 (by decide) ?_
            exact q_V_to (ih_4 (i_4 + 1) (by omega)) ⟨rfl, rfl, q_iv (by simp [q_sum, uC_fAh, c_7, Nat.not_le.mpr c_7, c_22, Int32.not_lt.mpr c_22, if_neg (Int32.not_lt.mpr c_22), c_37, c_42, Nat.not_lt.mpr c_42]), rfl, trivial⟩ rfl
          · refine q_iinc (v := (q_sum (uC_fAh S g) i_4) + 1) (lv' := [(2, .int ((q_sum (uC_fAh S g) i_4) + 1)), (0, .ref 1), (1, .int (nI g)), (3, .int (nI i_4))]) C dX1_countAhead_45 rfl rfl (by decide) rfl ?_
            refine q_iinc (v := nI (i_4 + 1)) (lv' := [(3, .int (nI (i_4 + 1))), (2, .int ((q_sum (uC_fAh S g) i_4) + 1)), (0, .ref 1), (1, .int (nI g))]) C dX1_countAhead_48 rfl (nI_add _ _) (by decide) rfl ?_
            refine q_goto (tgt := 4) C dX1_countAhead_51 (by decide) ?_
            exact q_V_to (ih_4 (i_4 + 1) (by omega)) ⟨rfl, rfl, q_iv (by simp [q_sum, uC_fAh, c_7, Nat.not_le.mpr c_7, c_22, Int32.not_lt.mpr c_22, if_neg (Int32.not_lt.mpr c_22), c_37, c_42, Nat.not_le.mpr c_42]), rfl, trivial⟩ rfl
  exact q_V_to (loop_4 (6 - 0) 0 (by omega)) ⟨rfl, rfl, rfl, rfl, trivial⟩ rfl
theorem c_X1_guildAtRank (l : Launch) (S : q_St) (x : Int32) : q_Fi l yX1_guildAtRank kX1_guildAtRank 2 [.ref 1, .int x] S (nI (uC_rank S x)) S := by
  refine q_Fi_of (maxL := 3) rfl (by decide +kernel) (fun ad => Nat.le_of_ble_eq_true rfl) rfl ?_
  intro K C hret
  have C : q_Cx K cX1_guildAtRank RX1 2 3 := C
  show q_V l K 0 [(0, .ref 1), (1, .int x)] [] S
  refine q_iconst (v := 0) C dX1_guildAtRank_0 (by decide) ?_
  refine q_istore_n (lv' := [(2, .int 0), (0, .ref 1), (1, .int x)]) C dX1_guildAtRank_1 rfl (by decide) rfl ?_
  have loop_2 : ∀ (n_2 i_2 : Nat), i_2 + n_2 = 5 → q_first (fun g => decide (uC_ahead S g = x)) n_2 i_2 = uC_rank S x → q_V l K 2 [(0, .ref 1), (1, .int x), (2, .int (nI i_2))] [] S := by
    intro n_2
    induction n_2 with
    | zero =>
      intro i_2 hi_2 hr_2
      have e_2 : i_2 = 5 := by omega
      refine q_iload_n C dX1_guildAtRank_2 rfl rfl ?_
      refine q_iconst (v := 5) C dX1_guildAtRank_3 (by decide) ?_
      refine q_icmp_geN (a := i_2) (b := 5) (tgt := 22) C dX1_guildAtRank_4 (by decide) rfl rfl (by omega) (by omega) (fun c_4 => ?_) (fun c_4 => absurd c_4 (by omega))
      refine q_iload_n C dX1_guildAtRank_22 rfl rfl ?_
      exact hret _ _ _ _ dX1_guildAtRank_23 (by rw [← hr_2]; simp [q_first, c_4, Nat.not_lt.mpr c_4]) rfl
    | succ n_2 ih_2 =>
      intro i_2 hi_2 hr_2
      refine q_iload_n C dX1_guildAtRank_2 rfl rfl ?_
      refine q_iconst (v := 5) C dX1_guildAtRank_3 (by decide) ?_
      refine q_icmp_geN (a := i_2) (b := 5) (tgt := 22) C dX1_guildAtRank_4 (by decide) rfl rfl (by omega) (by omega) (fun c_4 => absurd c_4 (by omega)) (fun c_4 => ?_)
      refine q_aload_n C dX1_guildAtRank_7 rfl rfl ?_
      refine q_iload_n C dX1_guildAtRank_8 rfl rfl ?_
      refine q_ci1 C (c_X1_countAhead l S i_2 (by omega)) myX1_countAhead mlX1_124 q_s1 ⟨by decide, by decide⟩ (Nat.le_of_ble_eq_true rfl) dX1_guildAtRank_9 ?_
      refine q_iload_n C dX1_guildAtRank_12 rfl rfl ?_
      refine q_icmp_eq (tgt := 22) C dX1_guildAtRank_13 (by decide)  (fun c_13 => ?_) (fun c_13 => ?_)
      · refine q_iload_n C dX1_guildAtRank_22 rfl rfl ?_
        exact hret _ _ _ _ dX1_guildAtRank_23 (by rw [← hr_2]; simp [q_first, c_4, Nat.not_le.mpr c_4, c_13]) rfl
      · refine q_iinc (v := nI (i_2 + 1)) (lv' := [(2, .int (nI (i_2 + 1))), (0, .ref 1), (1, .int x)]) C dX1_guildAtRank_16 rfl (nI_add _ _) (by decide) rfl ?_
        refine q_goto (tgt := 2) C dX1_guildAtRank_19 (by decide) ?_
        exact q_V_to (ih_2 (i_2 + 1) (by omega) (by rw [← hr_2]; simp [q_first, c_4, Nat.not_le.mpr c_4, c_13])) ⟨rfl, rfl, rfl, trivial⟩ rfl
  exact q_V_to (loop_2 (5 - 0) 0 (by omega) rfl) ⟨rfl, rfl, rfl, trivial⟩ rfl
theorem c_X1_coinsBySeals (l : Launch) (S : q_St) (M : Nat) (hM : S 1 0 = nI M) (hM8 : M ≤ 8) : q_Fi l yX1_coinsBySeals kX1_coinsBySeals 2 [.ref 1] S (uC_coinsS S M) S := by
  refine q_Fi_of (maxL := 4) rfl (by decide +kernel) (fun ad => Nat.le_of_ble_eq_true rfl) rfl ?_
  intro K C hret
  have C : q_Cx K cX1_coinsBySeals RX1 2 4 := C
  show q_V l K 0 [(0, .ref 1)] [] S
  refine q_bipush (v := 120) C dX1_coinsBySeals_0 (by decide) ?_
  refine q_istore_n (lv' := [(1, .int 120), (0, .ref 1)]) C dX1_coinsBySeals_2 rfl (by decide) rfl ?_
  refine q_iconst (v := 0) C dX1_coinsBySeals_3 (by decide) ?_
  refine q_istore_n (lv' := [(2, .int 0), (1, .int 120), (0, .ref 1)]) C dX1_coinsBySeals_4 rfl (by decide) rfl ?_
  have loop_5 : ∀ (n_5 i_5 : Nat), i_5 + n_5 = M → q_V l K 5 [(0, .ref 1), (1, .int (120 + q_sum (fun m => q_sum (uC_fS S m) 6) i_5)), (2, .int (nI i_5))] [] S := by
    intro n_5
    induction n_5 with
    | zero =>
      intro i_5 hi_5
      have e_5 : i_5 = M := by omega
      refine q_iload_n C dX1_coinsBySeals_5 rfl rfl ?_
      refine q_aload_n C dX1_coinsBySeals_6 rfl rfl ?_
      refine q_getI (x := nI M) C flX1_41 q_s1 rfl dX1_coinsBySeals_7 hM ?_
      refine q_icmp_geN (a := i_5) (b := M) (tgt := 56) C dX1_coinsBySeals_10 (by decide) rfl rfl (by omega) (by omega) (fun c_10 => ?_) (fun c_10 => absurd c_10 (by omega))
      refine q_iload_n C dX1_coinsBySeals_56 rfl rfl ?_
      exact hret _ _ _ _ dX1_coinsBySeals_57 (by rw [e_5]; rfl) rfl
    | succ n_5 ih_5 =>
      intro i_5 hi_5
      refine q_iload_n C dX1_coinsBySeals_5 rfl rfl ?_
      refine q_aload_n C dX1_coinsBySeals_6 rfl rfl ?_
      refine q_getI (x := nI M) C flX1_41 q_s1 rfl dX1_coinsBySeals_7 hM ?_
      refine q_icmp_geN (a := i_5) (b := M) (tgt := 56) C dX1_coinsBySeals_10 (by decide) rfl rfl (by omega) (by omega) (fun c_10 => absurd c_10 (by omega)) (fun c_10 => ?_)
      refine q_iconst (v := 0) C dX1_coinsBySeals_13 (by decide) ?_
      refine q_istore_n (lv' := [(3, .int 0), (0, .ref 1), (1, .int (120 + q_sum (fun m => q_sum (uC_fS S m) 6) i_5)), (2, .int (nI i_5))]) C dX1_coinsBySeals_14 rfl (by decide) rfl ?_
      have loop_15 : ∀ (n_15 i_15 : Nat), i_15 + n_15 = 6 → q_V l K 15 [(0, .ref 1), (1, .int (120 + q_sum (fun m => q_sum (uC_fS S m) 6) i_5 + q_sum (uC_fS S i_5) i_15)), (2, .int (nI i_5)), (3, .int (nI i_15))] [] S := by
        intro n_15
        induction n_15 with
        | zero =>
          intro i_15 hi_15
          have e_15 : i_15 = 6 := by omega
          refine q_iload_n C dX1_coinsBySeals_15 rfl rfl ?_
          refine q_bipush (v := 6) C dX1_coinsBySeals_16 (by decide) ?_
          refine q_icmp_geN (a := i_15) (b := 6) (tgt := 50) C dX1_coinsBySeals_18 (by decide) rfl rfl (by omega) (by omega) (fun c_18 => ?_) (fun c_18 => absurd c_18 (by omega))
          refine q_iinc (v := nI (i_5 + 1)) (lv' := [(2, .int (nI (i_5 + 1))), (0, .ref 1), (1, .int (120 + q_sum (fun m => q_sum (uC_fS S m) 6) i_5 + q_sum (uC_fS S i_5) i_15)), (3, .int (nI i_15))]) C dX1_coinsBySeals_50 rfl (nI_add _ _) (by decide) rfl ?_
          refine q_goto (tgt := 5) C dX1_coinsBySeals_53 (by decide) ?_
          exact q_V_to (ih_5 (i_5 + 1) (by omega)) ⟨rfl, q_iv (by rw [e_15]; simp [q_sum, Int32.add_assoc]), rfl, trivial⟩ rfl
        | succ n_15 ih_15 =>
          intro i_15 hi_15
          refine q_iload_n C dX1_coinsBySeals_15 rfl rfl ?_
          refine q_bipush (v := 6) C dX1_coinsBySeals_16 (by decide) ?_
          refine q_icmp_geN (a := i_15) (b := 6) (tgt := 50) C dX1_coinsBySeals_18 (by decide) rfl rfl (by omega) (by omega) (fun c_18 => absurd c_18 (by omega)) (fun c_18 => ?_)
          refine q_iload_n C dX1_coinsBySeals_21 rfl rfl ?_
          refine q_aload_n C dX1_coinsBySeals_22 rfl rfl ?_
          refine q_iload_n C dX1_coinsBySeals_23 rfl rfl ?_
          refine q_iload_n C dX1_coinsBySeals_24 rfl rfl ?_
          refine q_ci2 C (c_X1_answerOf l S i_5 (by omega) i_15 (by omega)) myX1_answerOf mlX1_75 q_s1 ⟨by decide, by decide⟩ (Nat.le_of_ble_eq_true rfl) dX1_coinsBySeals_25 ?_
          refine q_iconst (v := 3) C dX1_coinsBySeals_28 (by decide) ?_
          refine q_icmp_ne (tgt := 41) C dX1_coinsBySeals_29 (by decide)  (fun c_29 => ?_) (fun c_29 => ?_)
          · refine q_iconst (v := 0) C dX1_coinsBySeals_41 (by decide) ?_
            refine q_iadd C dX1_coinsBySeals_42 ?_
            refine q_istore_n (lv' := [(1, .int ((120 + q_sum (fun m => q_sum (uC_fS S m) 6) i_5 + q_sum (uC_fS S i_5) i_15) + 0)), (0, .ref 1), (2, .int (nI i_5)), (3, .int (nI i_15))]) C dX1_coinsBySeals_43 rfl (by decide) rfl ?_
            refine q_iinc (v := nI (i_15 + 1)) (lv' := [(3, .int (nI (i_15 + 1))), (1, .int ((120 + q_sum (fun m => q_sum (uC_fS S m) 6) i_5 + q_sum (uC_fS S i_5) i_15) + 0)), (0, .ref 1), (2, .int (nI i_5))]) C dX1_coinsBySeals_44 rfl (nI_add _ _) (by decide) rfl ?_
            refine q_goto (tgt := 15) C dX1_coinsBySeals_47 (by decide) ?_
            exact q_V_to (ih_15 (i_15 + 1) (by omega)) ⟨rfl, q_iv (by simp [q_sum, uC_fS, c_10, Nat.not_le.mpr c_10, c_18, Nat.not_le.mpr c_18, c_29, Int32.add_assoc]), rfl, rfl, trivial⟩ rfl
          · refine q_aload_n C dX1_coinsBySeals_32 rfl rfl ?_
            refine q_iload_n C dX1_coinsBySeals_33 rfl rfl ?_
            refine q_iload_n C dX1_coinsBySeals_34 rfl rfl ?_
            refine q_ci2 C (c_X1_amountOf l S i_5 (by omega) i_15 (by omega)) myX1_amountOf mlX1_82 q_s1 ⟨by decide, by decide⟩ (Nat.le_of_ble_eq_true rfl) dX1_coinsBySeals_35 ?_
            refine q_goto (tgt := 42) C dX1_coinsBySeals_38 (by decide) ?_
            refine q_iadd C dX1_coinsBySeals_42 ?_
            refine q_istore_n (lv' := [(1, .int ((120 + q_sum (fun m => q_sum (uC_fS S m) 6) i_5 + q_sum (uC_fS S i_5) i_15) + (S 5 (i_5 * 6 + i_15)))), (0, .ref 1), (2, .int (nI i_5)), (3, .int (nI i_15))]) C dX1_coinsBySeals_43 rfl (by decide) rfl ?_
            refine q_iinc (v := nI (i_15 + 1)) (lv' := [(3, .int (nI (i_15 + 1))), (1, .int ((120 + q_sum (fun m => q_sum (uC_fS S m) 6) i_5 + q_sum (uC_fS S i_5) i_15) + (S 5 (i_5 * 6 + i_15)))), (0, .ref 1), (2, .int (nI i_5))]) C dX1_coinsBySeals_44 rfl (nI_add _ _) (by decide) rfl ?_
            refine q_goto (tgt := 15) C dX1_coinsBySeals_47 (by decide) ?_
            exact q_V_to (ih_15 (i_15 + 1) (by omega)) ⟨rfl, q_iv (by simp [q_sum, uC_fS, c_10, Nat.not_le.mpr c_10, c_18, Nat.not_le.mpr c_18, c_29, Int32.add_assoc]), rfl, rfl, trivial⟩ rfl
      exact q_V_to (loop_15 (6 - 0) 0 (by omega)) ⟨rfl, q_iv (by simp [q_sum]), rfl, rfl, trivial⟩ rfl
  exact q_V_to (loop_5 (M - 0) 0 (by omega)) ⟨rfl, q_iv (by simp [q_sum]), rfl, trivial⟩ rfl
theorem c_X1_countHeardByAll (l : Launch) (S : q_St) (M : Nat) (hM : S 1 0 = nI M) (hM8 : M ≤ 8) : q_Fi l yX1_countHeardByAll kX1_countHeardByAll 4 [.ref 1] S (uC_heardAll S M) S := by
  refine q_Fi_of (maxL := 4) rfl (by decide +kernel) (fun ad => Nat.le_of_ble_eq_true rfl) rfl ?_
  intro K C hret
  have C : q_Cx K cX1_countHeardByAll RX1 4 4 := C
  show q_V l K 0 [(0, .ref 1)] [] S
  refine q_iconst (v := 0) C dX1_countHeardByAll_0 (by decide) ?_
  refine q_istore_n (lv' := [(1, .int 0), (0, .ref 1)]) C dX1_countHeardByAll_1 rfl (by decide) rfl ?_
  refine q_iconst (v := 0) C dX1_countHeardByAll_2 (by decide) ?_
  refine q_istore_n (lv' := [(2, .int 0), (1, .int 0), (0, .ref 1)]) C dX1_countHeardByAll_3 rfl (by decide) rfl ?_
  have loop_4 : ∀ (n_4 i_4 : Nat), i_4 + n_4 = M → q_V l K 4 [(0, .ref 1), (1, .int (q_sum (uC_fH S) i_4)), (2, .int (nI i_4))] [] S := by
    intro n_4
    induction n_4 with
    | zero =>
      intro i_4 hi_4
      have e_4 : i_4 = M := by omega
      refine q_iload_n C dX1_countHeardByAll_4 rfl rfl ?_
      refine q_aload_n C dX1_countHeardByAll_5 rfl rfl ?_
      refine q_getI (x := nI M) C flX1_41 q_s1 rfl dX1_countHeardByAll_6 hM ?_
      refine q_icmp_geN (a := i_4) (b := M) (tgt := 45) C dX1_countHeardByAll_9 (by decide) rfl rfl (by omega) (by omega) (fun c_9 => ?_) (fun c_9 => absurd c_9 (by omega))
      refine q_iload_n C dX1_countHeardByAll_45 rfl rfl ?_
      exact hret _ _ _ _ dX1_countHeardByAll_46 (by rw [e_4]; rfl) rfl
    | succ n_4 ih_4 =>
      intro i_4 hi_4
      refine q_iload_n C dX1_countHeardByAll_4 rfl rfl ?_
      refine q_aload_n C dX1_countHeardByAll_5 rfl rfl ?_
      refine q_getI (x := nI M) C flX1_41 q_s1 rfl dX1_countHeardByAll_6 hM ?_
      refine q_icmp_geN (a := i_4) (b := M) (tgt := 45) C dX1_countHeardByAll_9 (by decide) rfl rfl (by omega) (by omega) (fun c_9 => absurd c_9 (by omega)) (fun c_9 => ?_)
      refine q_aload_n C dX1_countHeardByAll_12 rfl rfl ?_
      refine q_iload_n C dX1_countHeardByAll_13 rfl rfl ?_
      refine q_ci1 C (c_X1_countGuilds l S i_4 (by omega)) myX1_countGuilds mlX1_63 q_s1 ⟨by decide, by decide⟩ (Nat.le_of_ble_eq_true rfl) dX1_countHeardByAll_14 ?_
      refine q_istore_n (lv' := [(3, .int (uC_guilds S i_4)), (0, .ref 1), (1, .int (q_sum (uC_fH S) i_4)), (2, .int (nI i_4))]) C dX1_countHeardByAll_17 rfl (by decide) rfl ?_
      refine q_iload_n C dX1_countHeardByAll_18 rfl rfl ?_
      refine q_iload_n C dX1_countHeardByAll_19 rfl rfl ?_
      refine q_if_le (tgt := 36) C dX1_countHeardByAll_20 (by decide)  (fun c_20 => ?_) (fun c_20 => ?_)
      · refine q_iconst (v := 0) C dX1_countHeardByAll_36 (by decide) ?_
        refine q_iadd C dX1_countHeardByAll_37 ?_
        refine q_istore_n (lv' := [(1, .int ((q_sum (uC_fH S) i_4) + 0)), (3, .int (uC_guilds S i_4)), (0, .ref 1), (2, .int (nI i_4))]) C dX1_countHeardByAll_38 rfl (by decide) rfl ?_
        refine q_iinc (v := nI (i_4 + 1)) (lv' := [(2, .int (nI (i_4 + 1))), (1, .int ((q_sum (uC_fH S) i_4) + 0)), (3, .int (uC_guilds S i_4)), (0, .ref 1)]) C dX1_countHeardByAll_39 rfl (nI_add _ _) (by decide) rfl ?_
        refine q_goto (tgt := 4) C dX1_countHeardByAll_42 (by decide) ?_
        exact q_V_to (ih_4 (i_4 + 1) (by omega)) ⟨rfl, q_iv (by simp [q_sum, uC_fH, c_9, Nat.not_le.mpr c_9, c_20, Int32.not_lt.mpr c_20, if_neg (Int32.not_lt.mpr c_20)]), rfl, trivial⟩ rfl
      · refine q_aload_n C dX1_countHeardByAll_23 rfl rfl ?_
        refine q_iload_n C dX1_countHeardByAll_24 rfl rfl ?_
        refine q_ci1 C (c_X1_countHeard l S i_4 (by omega)) myX1_countHeard mlX1_127 q_s1 ⟨by decide, by decide⟩ (Nat.le_of_ble_eq_true rfl) dX1_countHeardByAll_25 ?_
        refine q_iload_n C dX1_countHeardByAll_28 rfl rfl ?_
        refine q_icmp_ne (tgt := 36) C dX1_countHeardByAll_29 (by decide)  (fun c_29 => ?_) (fun c_29 => ?_)
        · refine q_iconst (v := 0) C dX1_countHeardByAll_36 (by decide) ?_
          refine q_iadd C dX1_countHeardByAll_37 ?_
          refine q_istore_n (lv' := [(1, .int ((q_sum (uC_fH S) i_4) + 0)), (3, .int (uC_guilds S i_4)), (0, .ref 1), (2, .int (nI i_4))]) C dX1_countHeardByAll_38 rfl (by decide) rfl ?_
          refine q_iinc (v := nI (i_4 + 1)) (lv' := [(2, .int (nI (i_4 + 1))), (1, .int ((q_sum (uC_fH S) i_4) + 0)), (3, .int (uC_guilds S i_4)), (0, .ref 1)]) C dX1_countHeardByAll_39 rfl (nI_add _ _) (by decide) rfl ?_
          refine q_goto (tgt := 4) C dX1_countHeardByAll_42 (by decide) ?_
          exact q_V_to (ih_4 (i_4 + 1) (by omega)) ⟨rfl, q_iv (by simp [q_sum, uC_fH, c_9, Nat.not_le.mpr c_9, c_20, Int32.not_le.mpr c_20, if_pos c_20, c_29]), rfl, trivial⟩ rfl
        · refine q_iconst (v := 1) C dX1_countHeardByAll_32 (by decide) ?_
          refine q_goto (tgt := 37) C dX1_countHeardByAll_33 (by decide) ?_
          refine q_iadd C dX1_countHeardByAll_37 ?_
          refine q_istore_n (lv' := [(1, .int ((q_sum (uC_fH S) i_4) + 1)), (3, .int (uC_guilds S i_4)), (0, .ref 1), (2, .int (nI i_4))]) C dX1_countHeardByAll_38 rfl (by decide) rfl ?_
          refine q_iinc (v := nI (i_4 + 1)) (lv' := [(2, .int (nI (i_4 + 1))), (1, .int ((q_sum (uC_fH S) i_4) + 1)), (3, .int (uC_guilds S i_4)), (0, .ref 1)]) C dX1_countHeardByAll_39 rfl (nI_add _ _) (by decide) rfl ?_
          refine q_goto (tgt := 4) C dX1_countHeardByAll_42 (by decide) ?_
          exact q_V_to (ih_4 (i_4 + 1) (by omega)) ⟨rfl, q_iv (by simp [q_sum, uC_fH, c_9, Nat.not_le.mpr c_9, c_20, Int32.not_le.mpr c_20, if_pos c_20, c_29]), rfl, trivial⟩ rfl
  exact q_V_to (loop_4 (M - 0) 0 (by omega)) ⟨rfl, rfl, rfl, trivial⟩ rfl
theorem c_X1_countInDoubt (l : Launch) (S : q_St) (M : Nat) (hM : S 1 0 = nI M) (hM8 : M ≤ 8) : q_Fi l yX1_countInDoubt kX1_countInDoubt 3 [.ref 1] S (uC_inDoubt S M) S := by
  refine q_Fi_of (maxL := 3) rfl (by decide +kernel) (fun ad => Nat.le_of_ble_eq_true rfl) rfl ?_
  intro K C hret
  have C : q_Cx K cX1_countInDoubt RX1 3 3 := C
  show q_V l K 0 [(0, .ref 1)] [] S
  refine q_iconst (v := 0) C dX1_countInDoubt_0 (by decide) ?_
  refine q_istore_n (lv' := [(1, .int 0), (0, .ref 1)]) C dX1_countInDoubt_1 rfl (by decide) rfl ?_
  refine q_iconst (v := 0) C dX1_countInDoubt_2 (by decide) ?_
  refine q_istore_n (lv' := [(2, .int 0), (1, .int 0), (0, .ref 1)]) C dX1_countInDoubt_3 rfl (by decide) rfl ?_
  have loop_4 : ∀ (n_4 i_4 : Nat), i_4 + n_4 = 6 → q_V l K 4 [(0, .ref 1), (1, .int (q_sum (uC_fD S M) i_4)), (2, .int (nI i_4))] [] S := by
    intro n_4
    induction n_4 with
    | zero =>
      intro i_4 hi_4
      have e_4 : i_4 = 6 := by omega
      refine q_iload_n C dX1_countInDoubt_4 rfl rfl ?_
      refine q_bipush (v := 6) C dX1_countInDoubt_5 (by decide) ?_
      refine q_icmp_geN (a := i_4) (b := 6) (tgt := 33) C dX1_countInDoubt_7 (by decide) rfl rfl (by omega) (by omega) (fun c_7 => ?_) (fun c_7 => absurd c_7 (by omega))
      refine q_iload_n C dX1_countInDoubt_33 rfl rfl ?_
      exact hret _ _ _ _ dX1_countInDoubt_34 (by rw [e_4]; rfl) rfl
    | succ n_4 ih_4 =>
      intro i_4 hi_4
      refine q_iload_n C dX1_countInDoubt_4 rfl rfl ?_
      refine q_bipush (v := 6) C dX1_countInDoubt_5 (by decide) ?_
      refine q_icmp_geN (a := i_4) (b := 6) (tgt := 33) C dX1_countInDoubt_7 (by decide) rfl rfl (by omega) (by omega) (fun c_7 => absurd c_7 (by omega)) (fun c_7 => ?_)
      refine q_iload_n C dX1_countInDoubt_10 rfl rfl ?_
      refine q_aload_n C dX1_countInDoubt_11 rfl rfl ?_
      refine q_iload_n C dX1_countInDoubt_12 rfl rfl ?_
      refine q_ci1 C (c_X1_doubtOf l S M hM hM8 i_4 (by omega)) myX1_doubtOf mlX1_79 q_s1 ⟨by decide, by decide⟩ (Nat.le_of_ble_eq_true rfl) dX1_countInDoubt_13 ?_
      refine q_iconst (v := (-1)) C dX1_countInDoubt_16 (by decide) ?_
      refine q_icmp_eq (tgt := 24) C dX1_countInDoubt_17 (by decide)  (fun c_17 => ?_) (fun c_17 => ?_)
      · refine q_iconst (v := 0) C dX1_countInDoubt_24 (by decide) ?_
        refine q_iadd C dX1_countInDoubt_25 ?_
        refine q_istore_n (lv' := [(1, .int ((q_sum (uC_fD S M) i_4) + 0)), (0, .ref 1), (2, .int (nI i_4))]) C dX1_countInDoubt_26 rfl (by decide) rfl ?_
        refine q_iinc (v := nI (i_4 + 1)) (lv' := [(2, .int (nI (i_4 + 1))), (1, .int ((q_sum (uC_fD S M) i_4) + 0)), (0, .ref 1)]) C dX1_countInDoubt_27 rfl (nI_add _ _) (by decide) rfl ?_
        refine q_goto (tgt := 4) C dX1_countInDoubt_30 (by decide) ?_
        exact q_V_to (ih_4 (i_4 + 1) (by omega)) ⟨rfl, q_iv (by simp [q_sum, uC_fD, c_7, Nat.not_le.mpr c_7, c_17]), rfl, trivial⟩ rfl
      · refine q_iconst (v := 1) C dX1_countInDoubt_20 (by decide) ?_
        refine q_goto (tgt := 25) C dX1_countInDoubt_21 (by decide) ?_
        refine q_iadd C dX1_countInDoubt_25 ?_
        refine q_istore_n (lv' := [(1, .int ((q_sum (uC_fD S M) i_4) + 1)), (0, .ref 1), (2, .int (nI i_4))]) C dX1_countInDoubt_26 rfl (by decide) rfl ?_
        refine q_iinc (v := nI (i_4 + 1)) (lv' := [(2, .int (nI (i_4 + 1))), (1, .int ((q_sum (uC_fD S M) i_4) + 1)), (0, .ref 1)]) C dX1_countInDoubt_27 rfl (nI_add _ _) (by decide) rfl ?_
        refine q_goto (tgt := 4) C dX1_countInDoubt_30 (by decide) ?_
        exact q_V_to (ih_4 (i_4 + 1) (by omega)) ⟨rfl, q_iv (by simp [q_sum, uC_fD, c_7, Nat.not_le.mpr c_7, c_17]), rfl, trivial⟩ rfl
  exact q_V_to (loop_4 (6 - 0) 0 (by omega)) ⟨rfl, rfl, rfl, trivial⟩ rfl
theorem c_X1_areSealsWhole (l : Launch) (S : q_St) (M : Nat) (hM : S 1 0 = nI M) (hM8 : M ≤ 8) : q_Fi l yX1_areSealsWhole kX1_areSealsWhole 2 [.ref 1] S (if q_every (uC_pWhole S) M 0 = true then 1 else 0) S := by
  refine q_Fi_of (maxL := 2) rfl (by decide +kernel) (fun ad => Nat.le_of_ble_eq_true rfl) (by split <;> rfl) ?_
  intro K C hret
  have C : q_Cx K cX1_areSealsWhole RX1 2 2 := C
  show q_V l K 0 [(0, .ref 1)] [] S
  refine q_iconst (v := 0) C dX1_areSealsWhole_0 (by decide) ?_
  refine q_istore_n (lv' := [(1, .int 0), (0, .ref 1)]) C dX1_areSealsWhole_1 rfl (by decide) rfl ?_
  have loop_2 : ∀ (n_2 i_2 : Nat), i_2 + n_2 = M → q_every (uC_pWhole S) n_2 i_2 = q_every (uC_pWhole S) M 0 → q_V l K 2 [(0, .ref 1), (1, .int (nI i_2))] [] S := by
    intro n_2
    induction n_2 with
    | zero =>
      intro i_2 hi_2 hr_2
      have e_2 : i_2 = M := by omega
      refine q_iload_n C dX1_areSealsWhole_2 rfl rfl ?_
      refine q_aload_n C dX1_areSealsWhole_3 rfl rfl ?_
      refine q_getI (x := nI M) C flX1_41 q_s1 rfl dX1_areSealsWhole_4 hM ?_
      refine q_icmp_geN (a := i_2) (b := M) (tgt := 36) C dX1_areSealsWhole_7 (by decide) rfl rfl (by omega) (by omega) (fun c_7 => ?_) (fun c_7 => absurd c_7 (by omega))
      refine q_iconst (v := 1) C dX1_areSealsWhole_36 (by decide) ?_
      exact hret _ _ _ _ dX1_areSealsWhole_37 (by rw [← hr_2]; simp [q_every]) rfl
    | succ n_2 ih_2 =>
      intro i_2 hi_2 hr_2
      refine q_iload_n C dX1_areSealsWhole_2 rfl rfl ?_
      refine q_aload_n C dX1_areSealsWhole_3 rfl rfl ?_
      refine q_getI (x := nI M) C flX1_41 q_s1 rfl dX1_areSealsWhole_4 hM ?_
      refine q_icmp_geN (a := i_2) (b := M) (tgt := 36) C dX1_areSealsWhole_7 (by decide) rfl rfl (by omega) (by omega) (fun c_7 => absurd c_7 (by omega)) (fun c_7 => ?_)
      refine q_aload_n C dX1_areSealsWhole_10 rfl rfl ?_
      refine q_iload_n C dX1_areSealsWhole_11 rfl rfl ?_
      refine q_iconst (v := 3) C dX1_areSealsWhole_12 (by decide) ?_
      refine q_ci2 C (c_X1_countAnswers l S i_2 (by omega) 3) myX1_countAnswers mlX1_99 q_s1 ⟨by decide, by decide⟩ (Nat.le_of_ble_eq_true rfl) dX1_areSealsWhole_13 ?_
      refine q_if_le (tgt := 30) C dX1_areSealsWhole_16 (by decide)  (fun c_16 => ?_) (fun c_16 => ?_)
      · refine q_iinc (v := nI (i_2 + 1)) (lv' := [(1, .int (nI (i_2 + 1))), (0, .ref 1)]) C dX1_areSealsWhole_30 rfl (nI_add _ _) (by decide) rfl ?_
        refine q_goto (tgt := 2) C dX1_areSealsWhole_33 (by decide) ?_
        exact q_V_to (ih_2 (i_2 + 1) (by omega) (by rw [← hr_2]; simp [q_every, uC_pWhole, c_7, Nat.not_le.mpr c_7, c_16, Int32.not_lt.mpr c_16, if_neg (Int32.not_lt.mpr c_16)])) ⟨rfl, rfl, trivial⟩ rfl
      · refine q_aload_n C dX1_areSealsWhole_19 rfl rfl ?_
        refine q_iload_n C dX1_areSealsWhole_20 rfl rfl ?_
        refine q_iconst (v := 4) C dX1_areSealsWhole_21 (by decide) ?_
        refine q_ci2 C (c_X1_countAnswers l S i_2 (by omega) 4) myX1_countAnswers mlX1_99 q_s1 ⟨by decide, by decide⟩ (Nat.le_of_ble_eq_true rfl) dX1_areSealsWhole_22 ?_
        refine q_if_le (tgt := 30) C dX1_areSealsWhole_25 (by decide)  (fun c_25 => ?_) (fun c_25 => ?_)
        · refine q_iinc (v := nI (i_2 + 1)) (lv' := [(1, .int (nI (i_2 + 1))), (0, .ref 1)]) C dX1_areSealsWhole_30 rfl (nI_add _ _) (by decide) rfl ?_
          refine q_goto (tgt := 2) C dX1_areSealsWhole_33 (by decide) ?_
          exact q_V_to (ih_2 (i_2 + 1) (by omega) (by rw [← hr_2]; simp [q_every, uC_pWhole, c_7, Nat.not_le.mpr c_7, c_16, Int32.not_le.mpr c_16, if_pos c_16, c_25, Int32.not_lt.mpr c_25, if_neg (Int32.not_lt.mpr c_25)])) ⟨rfl, rfl, trivial⟩ rfl
        · refine q_iconst (v := 0) C dX1_areSealsWhole_28 (by decide) ?_
          exact hret _ _ _ _ dX1_areSealsWhole_29 (by rw [← hr_2]; simp [q_every, uC_pWhole, c_7, Nat.not_le.mpr c_7, c_16, Int32.not_le.mpr c_16, if_pos c_16, c_25, Int32.not_le.mpr c_25, if_pos c_25]) rfl
  exact q_V_to (loop_2 (M - 0) 0 (by omega) rfl) ⟨rfl, rfl, trivial⟩ rfl
theorem c_X1_areDoubtsSingle (l : Launch) (S : q_St) (M : Nat) (hM : S 1 0 = nI M) (hM8 : M ≤ 8) : q_Fi l yX1_areDoubtsSingle kX1_areDoubtsSingle 3 [.ref 1] S (if q_every (uC_pSingle S M) 6 0 = true then 1 else 0) S := by
  refine q_Fi_of (maxL := 2) rfl (by decide +kernel) (fun ad => Nat.le_of_ble_eq_true rfl) (by split <;> rfl) ?_
  intro K C hret
  have C : q_Cx K cX1_areDoubtsSingle RX1 3 2 := C
  show q_V l K 0 [(0, .ref 1)] [] S
  refine q_iconst (v := 0) C dX1_areDoubtsSingle_0 (by decide) ?_
  refine q_istore_n (lv' := [(1, .int 0), (0, .ref 1)]) C dX1_areDoubtsSingle_1 rfl (by decide) rfl ?_
  have loop_2 : ∀ (n_2 i_2 : Nat), i_2 + n_2 = 6 → q_every (uC_pSingle S M) n_2 i_2 = q_every (uC_pSingle S M) 6 0 → q_V l K 2 [(0, .ref 1), (1, .int (nI i_2))] [] S := by
    intro n_2
    induction n_2 with
    | zero =>
      intro i_2 hi_2 hr_2
      have e_2 : i_2 = 6 := by omega
      refine q_iload_n C dX1_areDoubtsSingle_2 rfl rfl ?_
      refine q_bipush (v := 6) C dX1_areDoubtsSingle_3 (by decide) ?_
      refine q_icmp_geN (a := i_2) (b := 6) (tgt := 26) C dX1_areDoubtsSingle_5 (by decide) rfl rfl (by omega) (by omega) (fun c_5 => ?_) (fun c_5 => absurd c_5 (by omega))
      refine q_iconst (v := 1) C dX1_areDoubtsSingle_26 (by decide) ?_
      exact hret _ _ _ _ dX1_areDoubtsSingle_27 (by rw [← hr_2]; simp [q_every]) rfl
    | succ n_2 ih_2 =>
      intro i_2 hi_2 hr_2
      refine q_iload_n C dX1_areDoubtsSingle_2 rfl rfl ?_
      refine q_bipush (v := 6) C dX1_areDoubtsSingle_3 (by decide) ?_
      refine q_icmp_geN (a := i_2) (b := 6) (tgt := 26) C dX1_areDoubtsSingle_5 (by decide) rfl rfl (by omega) (by omega) (fun c_5 => absurd c_5 (by omega)) (fun c_5 => ?_)
      refine q_aload_n C dX1_areDoubtsSingle_8 rfl rfl ?_
      refine q_iload_n C dX1_areDoubtsSingle_9 rfl rfl ?_
      refine q_iconst (v := 1) C dX1_areDoubtsSingle_10 (by decide) ?_
      refine q_ci2 C (c_X1_countMattersOf l S M hM hM8 i_2 (by omega) 1) myX1_countMattersOf mlX1_133 q_s1 ⟨by decide, by decide⟩ (Nat.le_of_ble_eq_true rfl) dX1_areDoubtsSingle_11 ?_
      refine q_iconst (v := 1) C dX1_areDoubtsSingle_14 (by decide) ?_
      refine q_icmp_le (tgt := 20) C dX1_areDoubtsSingle_15 (by decide)  (fun c_15 => ?_) (fun c_15 => ?_)
      · refine q_iinc (v := nI (i_2 + 1)) (lv' := [(1, .int (nI (i_2 + 1))), (0, .ref 1)]) C dX1_areDoubtsSingle_20 rfl (nI_add _ _) (by decide) rfl ?_
        refine q_goto (tgt := 2) C dX1_areDoubtsSingle_23 (by decide) ?_
        exact q_V_to (ih_2 (i_2 + 1) (by omega) (by rw [← hr_2]; simp [q_every, uC_pSingle, c_5, Nat.not_le.mpr c_5, c_15, Int32.not_lt.mpr c_15, if_neg (Int32.not_lt.mpr c_15)])) ⟨rfl, rfl, trivial⟩ rfl
      · refine q_iconst (v := 0) C dX1_areDoubtsSingle_18 (by decide) ?_
        exact hret _ _ _ _ dX1_areDoubtsSingle_19 (by rw [← hr_2]; simp [q_every, uC_pSingle, c_5, Nat.not_le.mpr c_5, c_15, Int32.not_le.mpr c_15, if_pos c_15]) rfl
  exact q_V_to (loop_2 (6 - 0) 0 (by omega) rfl) ⟨rfl, rfl, trivial⟩ rfl
theorem c_X1_areWaysAlike (l : Launch) (S : q_St) (M : Nat) (hM : S 1 0 = nI M) (hM8 : M ≤ 8) : q_Fi l yX1_areWaysAlike kX1_areWaysAlike 4 [.ref 1] S (if uC_alike S M then 1 else 0) S := by
  refine q_Fi_of (maxL := 2) rfl (by decide +kernel) (fun ad => Nat.le_of_ble_eq_true rfl) (by split <;> rfl) ?_
  intro K C hret
  have C : q_Cx K cX1_areWaysAlike RX1 4 2 := C
  show q_V l K 0 [(0, .ref 1)] [] S
  refine q_iconst (v := 0) C dX1_areWaysAlike_0 (by decide) ?_
  refine q_istore_n (lv' := [(1, .int 0), (0, .ref 1)]) C dX1_areWaysAlike_1 rfl (by decide) rfl ?_
  have loop_2 : ∀ (n_2 i_2 : Nat), i_2 + n_2 = 6 → q_every (uC_pAlike S M) n_2 i_2 = q_every (uC_pAlike S M) 6 0 → q_V l K 2 [(0, .ref 1), (1, .int (nI i_2))] [] S := by
    intro n_2
    induction n_2 with
    | zero =>
      intro i_2 hi_2 hr_2
      have e_2 : i_2 = 6 := by omega
      refine q_iload_n C dX1_areWaysAlike_2 rfl rfl ?_
      refine q_bipush (v := 6) C dX1_areWaysAlike_3 (by decide) ?_
      refine q_icmp_geN (a := i_2) (b := 6) (tgt := 29) C dX1_areWaysAlike_5 (by decide) rfl rfl (by omega) (by omega) (fun c_5 => ?_) (fun c_5 => absurd c_5 (by omega))
      refine q_aload_n C dX1_areWaysAlike_29 rfl rfl ?_
      refine q_ci0 C (c_X1_coinsByGuilds l S) myX1_coinsByGuilds mlX1_151 q_s1 ⟨by decide, by decide⟩ (Nat.le_of_ble_eq_true rfl) dX1_areWaysAlike_30 ?_
      refine q_aload_n C dX1_areWaysAlike_33 rfl rfl ?_
      refine q_ci0 C (c_X1_coinsBySeals l S M hM hM8) myX1_coinsBySeals mlX1_154 q_s1 ⟨by decide, by decide⟩ (Nat.le_of_ble_eq_true rfl) dX1_areWaysAlike_34 ?_
      refine q_icmp_ne (tgt := 44) C dX1_areWaysAlike_37 (by decide)  (fun c_37 => ?_) (fun c_37 => ?_)
      · refine q_iconst (v := 0) C dX1_areWaysAlike_44 (by decide) ?_
        exact hret _ _ _ _ dX1_areWaysAlike_45 (by have h9 : q_every (uC_pAlike S M) 6 0 = true := by {rw [← hr_2]; rfl}; simp [uC_alike, h9, c_5, Nat.not_lt.mpr c_5, c_37]) rfl
      · refine q_iconst (v := 1) C dX1_areWaysAlike_40 (by decide) ?_
        refine q_goto (tgt := 45) C dX1_areWaysAlike_41 (by decide) ?_
        exact hret _ _ _ _ dX1_areWaysAlike_45 (by have h9 : q_every (uC_pAlike S M) 6 0 = true := by {rw [← hr_2]; rfl}; simp [uC_alike, h9, c_5, Nat.not_lt.mpr c_5, c_37]) rfl
    | succ n_2 ih_2 =>
      intro i_2 hi_2 hr_2
      refine q_iload_n C dX1_areWaysAlike_2 rfl rfl ?_
      refine q_bipush (v := 6) C dX1_areWaysAlike_3 (by decide) ?_
      refine q_icmp_geN (a := i_2) (b := 6) (tgt := 29) C dX1_areWaysAlike_5 (by decide) rfl rfl (by omega) (by omega) (fun c_5 => absurd c_5 (by omega)) (fun c_5 => ?_)
      refine q_aload_n C dX1_areWaysAlike_8 rfl rfl ?_
      refine q_iload_n C dX1_areWaysAlike_9 rfl rfl ?_
      by_cases h_10 : uC_learn S M i_2
      · refine q_ci1 C (q_Fi.cv (if_pos h_10) (c_X1_canLearnByGuilds l S M hM hM8 i_2 (by omega))) myX1_canLearnByGuilds mlX1_145 q_s1 ⟨by decide, by decide⟩ (Nat.le_of_ble_eq_true rfl) dX1_areWaysAlike_10 ?_
        refine q_aload_n C dX1_areWaysAlike_13 rfl rfl ?_
        refine q_iload_n C dX1_areWaysAlike_14 rfl rfl ?_
        by_cases h_15 : uC_learnS S M i_2
        · refine q_ci1 C (q_Fi.cv (if_pos h_15) (c_X1_canLearnBySets l S M hM hM8 i_2 (by omega))) myX1_canLearnBySets mlX1_148 q_s1 ⟨by decide, by decide⟩ (Nat.le_of_ble_eq_true rfl) dX1_areWaysAlike_15 ?_
          refine q_icmp_eq (tgt := 23) C dX1_areWaysAlike_18 (by decide) (fun _ => ?_) (fun h9 => absurd h9 (by decide))
          refine q_iinc (v := nI (i_2 + 1)) (lv' := [(1, .int (nI (i_2 + 1))), (0, .ref 1)]) C dX1_areWaysAlike_23 rfl (nI_add _ _) (by decide) rfl ?_
          refine q_goto (tgt := 2) C dX1_areWaysAlike_26 (by decide) ?_
          exact q_V_to (ih_2 (i_2 + 1) (by omega) (by rw [← hr_2]; simp [q_every, uC_pAlike, c_5, Nat.not_le.mpr c_5, if_pos h_10, h_10, if_pos h_15, h_15])) ⟨rfl, rfl, trivial⟩ rfl
        · refine q_ci1 C (q_Fi.cv (if_neg h_15) (c_X1_canLearnBySets l S M hM hM8 i_2 (by omega))) myX1_canLearnBySets mlX1_148 q_s1 ⟨by decide, by decide⟩ (Nat.le_of_ble_eq_true rfl) dX1_areWaysAlike_15 ?_
          refine q_icmp_eq (tgt := 23) C dX1_areWaysAlike_18 (by decide) (fun h9 => absurd h9 (by decide)) (fun _ => ?_)
          refine q_iconst (v := 0) C dX1_areWaysAlike_21 (by decide) ?_
          exact hret _ _ _ _ dX1_areWaysAlike_22 (by have h9 : q_every (uC_pAlike S M) 6 0 = false := by {rw [← hr_2]; simp [q_every, uC_pAlike, c_5, Nat.not_le.mpr c_5, if_pos h_10, h_10, if_neg h_15, h_15]}; simp [uC_alike, h9]) rfl
      · refine q_ci1 C (q_Fi.cv (if_neg h_10) (c_X1_canLearnByGuilds l S M hM hM8 i_2 (by omega))) myX1_canLearnByGuilds mlX1_145 q_s1 ⟨by decide, by decide⟩ (Nat.le_of_ble_eq_true rfl) dX1_areWaysAlike_10 ?_
        refine q_aload_n C dX1_areWaysAlike_13 rfl rfl ?_
        refine q_iload_n C dX1_areWaysAlike_14 rfl rfl ?_
        by_cases h_15 : uC_learnS S M i_2
        · refine q_ci1 C (q_Fi.cv (if_pos h_15) (c_X1_canLearnBySets l S M hM hM8 i_2 (by omega))) myX1_canLearnBySets mlX1_148 q_s1 ⟨by decide, by decide⟩ (Nat.le_of_ble_eq_true rfl) dX1_areWaysAlike_15 ?_
          refine q_icmp_eq (tgt := 23) C dX1_areWaysAlike_18 (by decide) (fun h9 => absurd h9 (by decide)) (fun _ => ?_)
          refine q_iconst (v := 0) C dX1_areWaysAlike_21 (by decide) ?_
          exact hret _ _ _ _ dX1_areWaysAlike_22 (by have h9 : q_every (uC_pAlike S M) 6 0 = false := by {rw [← hr_2]; simp [q_every, uC_pAlike, c_5, Nat.not_le.mpr c_5, if_neg h_10, h_10, if_pos h_15, h_15]}; simp [uC_alike, h9]) rfl
        · refine q_ci1 C (q_Fi.cv (if_neg h_15) (c_X1_canLearnBySets l S M hM hM8 i_2 (by omega))) myX1_canLearnBySets mlX1_148 q_s1 ⟨by decide, by decide⟩ (Nat.le_of_ble_eq_true rfl) dX1_areWaysAlike_15 ?_
          refine q_icmp_eq (tgt := 23) C dX1_areWaysAlike_18 (by decide) (fun _ => ?_) (fun h9 => absurd h9 (by decide))
          refine q_iinc (v := nI (i_2 + 1)) (lv' := [(1, .int (nI (i_2 + 1))), (0, .ref 1)]) C dX1_areWaysAlike_23 rfl (nI_add _ _) (by decide) rfl ?_
          refine q_goto (tgt := 2) C dX1_areWaysAlike_26 (by decide) ?_
          exact q_V_to (ih_2 (i_2 + 1) (by omega) (by rw [← hr_2]; simp [q_every, uC_pAlike, c_5, Nat.not_le.mpr c_5, if_neg h_10, h_10, if_neg h_15, h_15])) ⟨rfl, rfl, trivial⟩ rfl
  exact q_V_to (loop_2 (6 - 0) 0 (by omega) rfl) ⟨rfl, rfl, trivial⟩ rfl
theorem c_X1_numberOfMatter (l : Launch) (S : q_St) (m : Nat) (hm : m < 8) (w : Nat) (hw : w < 8) : q_Fi l yX1_numberOfMatter kX1_numberOfMatter 4 [.ref 1, .int (nI m), .int (nI w)] S (uC_nM S m w) S := by
  refine q_Fi_of (maxL := 3) rfl (by decide +kernel) (fun ad => Nat.le_of_ble_eq_true rfl) rfl ?_
  intro K C hret
  have C : q_Cx K cX1_numberOfMatter RX1 4 3 := C
  show q_V l K 0 [(0, .ref 1), (1, .int (nI m)), (2, .int (nI w))] [] S
  refine q_iload_n C dX1_numberOfMatter_0 rfl rfl ?_
  rcases (show w = 0 ∨ w = 1 ∨ w = 2 ∨ w = 3 ∨ w = 4 ∨ w = 5 ∨ w = 6 ∨ 7 ≤ w by omega) with rfl | rfl | rfl | rfl | rfl | rfl | rfl | h_1
  · refine q_tabin (off := 43) (tgt := 44) C dX1_numberOfMatter_1 (by decide) (by decide) (by decide) (by decide) ?_
    refine q_aload_n C dX1_numberOfMatter_44 rfl rfl ?_
    refine q_getR C flX1_15 q_s1 rfl dX1_numberOfMatter_45 ?_
    refine q_iload_n C dX1_numberOfMatter_48 rfl rfl ?_
    refine q_ialdN (i := m) (x := S 2 m) C rfl q_s2 (by omega) (by decide) dX1_numberOfMatter_49 rfl ?_
    exact hret _ _ _ _ dX1_numberOfMatter_50 rfl rfl
  · refine q_tabin (off := 50) (tgt := 51) C dX1_numberOfMatter_1 (by decide) (by decide) (by decide) (by decide) ?_
    refine q_aload_n C dX1_numberOfMatter_51 rfl rfl ?_
    refine q_iload_n C dX1_numberOfMatter_52 rfl rfl ?_
    refine q_ci1 C (c_X1_countGuilds l S m (by omega)) myX1_countGuilds mlX1_63 q_s1 ⟨by decide, by decide⟩ (Nat.le_of_ble_eq_true rfl) dX1_numberOfMatter_53 ?_
    exact hret _ _ _ _ dX1_numberOfMatter_56 rfl rfl
  · refine q_tabin (off := 56) (tgt := 57) C dX1_numberOfMatter_1 (by decide) (by decide) (by decide) (by decide) ?_
    refine q_aload_n C dX1_numberOfMatter_57 rfl rfl ?_
    refine q_iload_n C dX1_numberOfMatter_58 rfl rfl ?_
    refine q_ci1 C (c_X1_countAnswered l S m (by omega)) myX1_countAnswered mlX1_108 q_s1 ⟨by decide, by decide⟩ (Nat.le_of_ble_eq_true rfl) dX1_numberOfMatter_59 ?_
    exact hret _ _ _ _ dX1_numberOfMatter_62 rfl rfl
  · refine q_tabin (off := 62) (tgt := 63) C dX1_numberOfMatter_1 (by decide) (by decide) (by decide) (by decide) ?_
    refine q_aload_n C dX1_numberOfMatter_63 rfl rfl ?_
    refine q_iload_n C dX1_numberOfMatter_64 rfl rfl ?_
    refine q_iconst (v := 1) C dX1_numberOfMatter_65 (by decide) ?_
    refine q_ci2 C (c_X1_countAnswers l S m (by omega) 1) myX1_countAnswers mlX1_99 q_s1 ⟨by decide, by decide⟩ (Nat.le_of_ble_eq_true rfl) dX1_numberOfMatter_66 ?_
    exact hret _ _ _ _ dX1_numberOfMatter_69 rfl rfl
  · refine q_tabin (off := 69) (tgt := 70) C dX1_numberOfMatter_1 (by decide) (by decide) (by decide) (by decide) ?_
    refine q_aload_n C dX1_numberOfMatter_70 rfl rfl ?_
    refine q_iload_n C dX1_numberOfMatter_71 rfl rfl ?_
    refine q_iconst (v := 2) C dX1_numberOfMatter_72 (by decide) ?_
    refine q_ci2 C (c_X1_countAnswers l S m (by omega) 2) myX1_countAnswers mlX1_99 q_s1 ⟨by decide, by decide⟩ (Nat.le_of_ble_eq_true rfl) dX1_numberOfMatter_73 ?_
    exact hret _ _ _ _ dX1_numberOfMatter_76 rfl rfl
  · refine q_tabin (off := 76) (tgt := 77) C dX1_numberOfMatter_1 (by decide) (by decide) (by decide) (by decide) ?_
    refine q_aload_n C dX1_numberOfMatter_77 rfl rfl ?_
    refine q_iload_n C dX1_numberOfMatter_78 rfl rfl ?_
    refine q_ci1 C (c_X1_countHeard l S m (by omega)) myX1_countHeard mlX1_127 q_s1 ⟨by decide, by decide⟩ (Nat.le_of_ble_eq_true rfl) dX1_numberOfMatter_79 ?_
    exact hret _ _ _ _ dX1_numberOfMatter_82 rfl rfl
  · refine q_tabin (off := 82) (tgt := 83) C dX1_numberOfMatter_1 (by decide) (by decide) (by decide) (by decide) ?_
    refine q_aload_n C dX1_numberOfMatter_83 rfl rfl ?_
    refine q_iload_n C dX1_numberOfMatter_84 rfl rfl ?_
    refine q_ci1 C (c_X1_sumOfAmounts l S m (by omega)) myX1_sumOfAmounts mlX1_130 q_s1 ⟨by decide, by decide⟩ (Nat.le_of_ble_eq_true rfl) dX1_numberOfMatter_85 ?_
    exact hret _ _ _ _ dX1_numberOfMatter_88 rfl rfl
  · refine q_tabout (tgt := 89) C dX1_numberOfMatter_1 (Or.inr (by rw [nI_toInt (by omega)]; omega)) (by decide) ?_
    refine q_aload_n C dX1_numberOfMatter_89 rfl rfl ?_
    refine q_getR C flX1_19 q_s1 rfl dX1_numberOfMatter_90 ?_
    refine q_iload_n C dX1_numberOfMatter_93 rfl rfl ?_
    refine q_ialdN (i := m) (x := S 3 m) C rfl q_s3 (by omega) (by decide) dX1_numberOfMatter_94 rfl ?_
    exact hret _ _ _ _ dX1_numberOfMatter_95 (by have e9 : w = 7 := by {omega}; subst e9; rfl) rfl
theorem c_X1_numberOfGuild (l : Launch) (S : q_St) (M : Nat) (hM : S 1 0 = nI M) (hM8 : M ≤ 8) (g : Nat) (hg : g < 6) (w : Nat) (hw : w < 6) : q_Fi l yX1_numberOfGuild kX1_numberOfGuild 3 [.ref 1, .int (nI g), .int (nI w)] S (uC_nG S M g w) S := by
  refine q_Fi_of (maxL := 3) rfl (by decide +kernel) (fun ad => Nat.le_of_ble_eq_true rfl) rfl ?_
  intro K C hret
  have C : q_Cx K cX1_numberOfGuild RX1 3 3 := C
  show q_V l K 0 [(0, .ref 1), (1, .int (nI g)), (2, .int (nI w))] [] S
  refine q_iload_n C dX1_numberOfGuild_0 rfl rfl ?_
  rcases (show w = 0 ∨ w = 1 ∨ w = 2 ∨ w = 3 ∨ w = 4 ∨ 5 ≤ w by omega) with rfl | rfl | rfl | rfl | rfl | h_1
  · refine q_tabin (off := 35) (tgt := 36) C dX1_numberOfGuild_1 (by decide) (by decide) (by decide) (by decide) ?_
    refine q_aload_n C dX1_numberOfGuild_36 rfl rfl ?_
    refine q_getR C flX1_31 q_s1 rfl dX1_numberOfGuild_37 ?_
    refine q_iload_n C dX1_numberOfGuild_40 rfl rfl ?_
    refine q_ialdN (i := g) (x := S 7 g) C rfl q_s7 (by omega) (by decide) dX1_numberOfGuild_41 rfl ?_
    exact hret _ _ _ _ dX1_numberOfGuild_42 rfl rfl
  · refine q_tabin (off := 42) (tgt := 43) C dX1_numberOfGuild_1 (by decide) (by decide) (by decide) (by decide) ?_
    refine q_aload_n C dX1_numberOfGuild_43 rfl rfl ?_
    refine q_getR C flX1_37 q_s1 rfl dX1_numberOfGuild_44 ?_
    refine q_iload_n C dX1_numberOfGuild_47 rfl rfl ?_
    refine q_zaldN (i := g) (x := S 9 g) C rfl q_s9 (by omega) (by decide) dX1_numberOfGuild_48 rfl ?_
    refine q_if_eq (tgt := 56) C dX1_numberOfGuild_49 (by decide)  (fun c_49 => ?_) (fun c_49 => ?_)
    · refine q_iconst (v := 0) C dX1_numberOfGuild_56 (by decide) ?_
      exact hret _ _ _ _ dX1_numberOfGuild_57 (by simp [uC_nG, c_49]) rfl
    · refine q_iconst (v := 1) C dX1_numberOfGuild_52 (by decide) ?_
      refine q_goto (tgt := 57) C dX1_numberOfGuild_53 (by decide) ?_
      exact hret _ _ _ _ dX1_numberOfGuild_57 (by simp [uC_nG, c_49]) rfl
  · refine q_tabin (off := 57) (tgt := 58) C dX1_numberOfGuild_1 (by decide) (by decide) (by decide) (by decide) ?_
    refine q_aload_n C dX1_numberOfGuild_58 rfl rfl ?_
    refine q_iload_n C dX1_numberOfGuild_59 rfl rfl ?_
    refine q_ci1 C (c_X1_doubtOf l S M hM hM8 g (by omega)) myX1_doubtOf mlX1_79 q_s1 ⟨by decide, by decide⟩ (Nat.le_of_ble_eq_true rfl) dX1_numberOfGuild_60 ?_
    exact hret _ _ _ _ dX1_numberOfGuild_63 rfl rfl
  · refine q_tabin (off := 63) (tgt := 64) C dX1_numberOfGuild_1 (by decide) (by decide) (by decide) (by decide) ?_
    refine q_aload_n C dX1_numberOfGuild_64 rfl rfl ?_
    refine q_getR C flX1_34 q_s1 rfl dX1_numberOfGuild_65 ?_
    refine q_iload_n C dX1_numberOfGuild_68 rfl rfl ?_
    refine q_ialdN (i := g) (x := S 8 g) C rfl q_s8 (by omega) (by decide) dX1_numberOfGuild_69 rfl ?_
    exact hret _ _ _ _ dX1_numberOfGuild_70 rfl rfl
  · refine q_tabin (off := 70) (tgt := 71) C dX1_numberOfGuild_1 (by decide) (by decide) (by decide) (by decide) ?_
    refine q_aload_n C dX1_numberOfGuild_71 rfl rfl ?_
    refine q_iload_n C dX1_numberOfGuild_72 rfl rfl ?_
    refine q_iconst (v := 3) C dX1_numberOfGuild_73 (by decide) ?_
    refine q_ci2 C (c_X1_countMattersOf l S M hM hM8 g (by omega) 3) myX1_countMattersOf mlX1_133 q_s1 ⟨by decide, by decide⟩ (Nat.le_of_ble_eq_true rfl) dX1_numberOfGuild_74 ?_
    exact hret _ _ _ _ dX1_numberOfGuild_77 rfl rfl
  · refine q_tabout (tgt := 78) C dX1_numberOfGuild_1 (Or.inr (by rw [nI_toInt (by omega)]; omega)) (by decide) ?_
    refine q_aload_n C dX1_numberOfGuild_78 rfl rfl ?_
    refine q_iload_n C dX1_numberOfGuild_79 rfl rfl ?_
    refine q_iconst (v := 4) C dX1_numberOfGuild_80 (by decide) ?_
    refine q_ci2 C (c_X1_countMattersOf l S M hM hM8 g (by omega) 4) myX1_countMattersOf mlX1_133 q_s1 ⟨by decide, by decide⟩ (Nat.le_of_ble_eq_true rfl) dX1_numberOfGuild_81 ?_
    exact hret _ _ _ _ dX1_numberOfGuild_84 (by have e9 : w = 5 := by {omega}; subst e9; rfl) rfl
theorem c_X1_numberOfAll (l : Launch) (S : q_St) (M : Nat) (hM : S 1 0 = nI M) (hM8 : M ≤ 8) (w : Nat) (hw : w < 11) : q_Fi l yX1_numberOfAll kX1_numberOfAll 5 [.ref 1, .int (nI w)] S (uC_nA S M w) S := by
  refine q_Fi_of (maxL := 2) rfl (by decide +kernel) (fun ad => Nat.le_of_ble_eq_true rfl) rfl ?_
  intro K C hret
  have C : q_Cx K cX1_numberOfAll RX1 5 2 := C
  show q_V l K 0 [(0, .ref 1), (1, .int (nI w))] [] S
  refine q_iload_n C dX1_numberOfAll_0 rfl rfl ?_
  rcases (show w = 0 ∨ w = 1 ∨ w = 2 ∨ w = 3 ∨ w = 4 ∨ w = 5 ∨ w = 6 ∨ w = 7 ∨ w = 8 ∨ w = 9 ∨ 10 ≤ w by omega) with rfl | rfl | rfl | rfl | rfl | rfl | rfl | rfl | rfl | rfl | h_1
  · refine q_tabin (off := 55) (tgt := 56) C dX1_numberOfAll_1 (by decide) (by decide) (by decide) (by decide) ?_
    refine q_aload_n C dX1_numberOfAll_56 rfl rfl ?_
    refine q_getI (x := nI M) C flX1_41 q_s1 rfl dX1_numberOfAll_57 hM ?_
    exact hret _ _ _ _ dX1_numberOfAll_60 rfl rfl
  · refine q_tabin (off := 60) (tgt := 61) C dX1_numberOfAll_1 (by decide) (by decide) (by decide) (by decide) ?_
    refine q_aload_n C dX1_numberOfAll_61 rfl rfl ?_
    refine q_iconst (v := 0) C dX1_numberOfAll_62 (by decide) ?_
    refine q_ci1 C (c_X1_countMatters l S M hM hM8 0) myX1_countMatters mlX1_105 q_s1 ⟨by decide, by decide⟩ (Nat.le_of_ble_eq_true rfl) dX1_numberOfAll_63 ?_
    exact hret _ _ _ _ dX1_numberOfAll_66 rfl rfl
  · refine q_tabin (off := 66) (tgt := 67) C dX1_numberOfAll_1 (by decide) (by decide) (by decide) (by decide) ?_
    refine q_aload_n C dX1_numberOfAll_67 rfl rfl ?_
    refine q_iconst (v := 1) C dX1_numberOfAll_68 (by decide) ?_
    refine q_ci1 C (c_X1_countMatters l S M hM hM8 1) myX1_countMatters mlX1_105 q_s1 ⟨by decide, by decide⟩ (Nat.le_of_ble_eq_true rfl) dX1_numberOfAll_69 ?_
    exact hret _ _ _ _ dX1_numberOfAll_72 rfl rfl
  · refine q_tabin (off := 72) (tgt := 73) C dX1_numberOfAll_1 (by decide) (by decide) (by decide) (by decide) ?_
    refine q_aload_n C dX1_numberOfAll_73 rfl rfl ?_
    refine q_iconst (v := 2) C dX1_numberOfAll_74 (by decide) ?_
    refine q_ci1 C (c_X1_countMatters l S M hM hM8 2) myX1_countMatters mlX1_105 q_s1 ⟨by decide, by decide⟩ (Nat.le_of_ble_eq_true rfl) dX1_numberOfAll_75 ?_
    exact hret _ _ _ _ dX1_numberOfAll_78 rfl rfl
  · refine q_tabin (off := 78) (tgt := 79) C dX1_numberOfAll_1 (by decide) (by decide) (by decide) (by decide) ?_
    refine q_aload_n C dX1_numberOfAll_79 rfl rfl ?_
    refine q_ci0 C (c_X1_countAwake l S) myX1_countAwake mlX1_111 q_s1 ⟨by decide, by decide⟩ (Nat.le_of_ble_eq_true rfl) dX1_numberOfAll_80 ?_
    exact hret _ _ _ _ dX1_numberOfAll_83 rfl rfl
  · refine q_tabin (off := 83) (tgt := 84) C dX1_numberOfAll_1 (by decide) (by decide) (by decide) (by decide) ?_
    refine q_aload_n C dX1_numberOfAll_84 rfl rfl ?_
    refine q_ci0 C (c_X1_countInDoubt l S M hM hM8) myX1_countInDoubt mlX1_136 q_s1 ⟨by decide, by decide⟩ (Nat.le_of_ble_eq_true rfl) dX1_numberOfAll_85 ?_
    exact hret _ _ _ _ dX1_numberOfAll_88 rfl rfl
  · refine q_tabin (off := 88) (tgt := 89) C dX1_numberOfAll_1 (by decide) (by decide) (by decide) (by decide) ?_
    refine q_aload_n C dX1_numberOfAll_89 rfl rfl ?_
    refine q_getI (x := S 1 2) C flX1_48 q_s1 rfl dX1_numberOfAll_90 rfl ?_
    exact hret _ _ _ _ dX1_numberOfAll_93 rfl rfl
  · refine q_tabin (off := 93) (tgt := 94) C dX1_numberOfAll_1 (by decide) (by decide) (by decide) (by decide) ?_
    refine q_aload_n C dX1_numberOfAll_94 rfl rfl ?_
    refine q_ci0 C (c_X1_allDoubt l S) myX1_allDoubt mlX1_139 q_s1 ⟨by decide, by decide⟩ (Nat.le_of_ble_eq_true rfl) dX1_numberOfAll_95 ?_
    exact hret _ _ _ _ dX1_numberOfAll_98 rfl rfl
  · refine q_tabin (off := 98) (tgt := 99) C dX1_numberOfAll_1 (by decide) (by decide) (by decide) (by decide) ?_
    refine q_aload_n C dX1_numberOfAll_99 rfl rfl ?_
    refine q_getI (x := S 1 3) C flX1_51 q_s1 rfl dX1_numberOfAll_100 rfl ?_
    exact hret _ _ _ _ dX1_numberOfAll_103 rfl rfl
  · refine q_tabin (off := 103) (tgt := 104) C dX1_numberOfAll_1 (by decide) (by decide) (by decide) (by decide) ?_
    refine q_aload_n C dX1_numberOfAll_104 rfl rfl ?_
    refine q_getI (x := S 1 4) C flX1_54 q_s1 rfl dX1_numberOfAll_105 rfl ?_
    exact hret _ _ _ _ dX1_numberOfAll_108 rfl rfl
  · refine q_tabout (tgt := 109) C dX1_numberOfAll_1 (Or.inr (by rw [nI_toInt (by omega)]; omega)) (by decide) ?_
    refine q_aload_n C dX1_numberOfAll_109 rfl rfl ?_
    refine q_ci0 C (c_X1_countHeardByAll l S M hM hM8) myX1_countHeardByAll mlX1_142 q_s1 ⟨by decide, by decide⟩ (Nat.le_of_ble_eq_true rfl) dX1_numberOfAll_110 ?_
    exact hret _ _ _ _ dX1_numberOfAll_113 (by have e9 : w = 10 := by {omega}; subst e9; rfl) rfl
theorem c_X1_letHeraldWake (l : Launch) (S : q_St) (M : Nat) (hM : S 1 0 = nI M) (hM8 : M ≤ 8) (N : Nat) (hN : S 1 1 = nI N) (hW : uC_wkN (q_p S 1 5 1) N M ≤ 8) : q_Fi l yX1_letHeraldWake kX1_letHeraldWake 4 [.ref 1] S (nI (uC_wkN (q_p S 1 5 1) N M) - nI N) (uC_wake S M N) := by
  refine q_Fi_of (maxL := 3) rfl (by decide +kernel) (fun ad => Nat.le_of_ble_eq_true rfl) rfl ?_
  intro K C hret
  have C : q_Cx K cX1_letHeraldWake RX1 4 3 := C
  show q_V l K 0 [(0, .ref 1)] [] S
  refine q_aload_n C dX1_letHeraldWake_0 rfl rfl ?_
  refine q_iconst (v := 1) C dX1_letHeraldWake_1 (by decide) ?_
  refine q_put (ty9 := .boolean) C flX1_9 q_s1 rfl (fun _ _ _ h => by cases h; exact ⟨rfl, by decide +kernel⟩) rfl rfl dX1_letHeraldWake_2 ?_
  refine q_aload_n C dX1_letHeraldWake_5 rfl rfl ?_
  refine q_getI (x := nI N) C flX1_45 q_s1 rfl dX1_letHeraldWake_6 hN ?_
  refine q_istore_n (lv' := [(1, .int (nI N)), (0, .ref 1)]) C dX1_letHeraldWake_9 rfl (by decide) rfl ?_
  refine q_iconst (v := 0) C dX1_letHeraldWake_10 (by decide) ?_
  refine q_istore_n (lv' := [(2, .int 0), (1, .int (nI N)), (0, .ref 1)]) C dX1_letHeraldWake_11 rfl (by decide) rfl ?_
  have loop_12 : ∀ (n_12 i_12 : Nat), i_12 + n_12 = M → q_V l K 12 [(0, .ref 1), (1, .int (nI N)), (2, .int (nI i_12))] [] (uC_wk (q_p S 1 5 1) N i_12) := by
    intro n_12
    induction n_12 with
    | zero =>
      intro i_12 hi_12
      have e_12 : i_12 = M := by omega
      refine q_iload_n C dX1_letHeraldWake_12 rfl rfl ?_
      refine q_aload_n C dX1_letHeraldWake_13 rfl rfl ?_
      refine q_getI (x := nI M) C flX1_41 q_s1 rfl dX1_letHeraldWake_14 ((uC_wk_1 _ _ 0 (by decide) _).trans hM) ?_
      refine q_icmp_geN (a := i_12) (b := M) (tgt := 49) C dX1_letHeraldWake_17 (by decide) rfl rfl (by omega) (by omega) (fun c_17 => ?_) (fun c_17 => absurd c_17 (by omega))
      refine q_aload_n C dX1_letHeraldWake_49 rfl rfl ?_
      refine q_getI (x := nI (uC_wkN (q_p S 1 5 1) N i_12)) C flX1_45 q_s1 rfl dX1_letHeraldWake_50 (uC_wk_11 (q_p S 1 5 1) N hN i_12) ?_
      refine q_iload_n C dX1_letHeraldWake_53 rfl rfl ?_
      refine q_isub C dX1_letHeraldWake_54 ?_
      exact hret _ _ _ _ dX1_letHeraldWake_55 (by rw [e_12]) (by rw [e_12]; rfl)
    | succ n_12 ih_12 =>
      intro i_12 hi_12
      refine q_iload_n C dX1_letHeraldWake_12 rfl rfl ?_
      refine q_aload_n C dX1_letHeraldWake_13 rfl rfl ?_
      refine q_getI (x := nI M) C flX1_41 q_s1 rfl dX1_letHeraldWake_14 ((uC_wk_1 _ _ 0 (by decide) _).trans hM) ?_
      refine q_icmp_geN (a := i_12) (b := M) (tgt := 49) C dX1_letHeraldWake_17 (by decide) rfl rfl (by omega) (by omega) (fun c_17 => absurd c_17 (by omega)) (fun c_17 => ?_)
      refine q_aload_n C dX1_letHeraldWake_20 rfl rfl ?_
      refine q_getR C flX1_15 q_s1 rfl dX1_letHeraldWake_21 ?_
      refine q_iload_n C dX1_letHeraldWake_24 rfl rfl ?_
      have t_25 : uC_wk (q_p S 1 5 1) N i_12 2 i_12 = (q_p S 1 5 1) 2 i_12 := uC_wk_2 _ _ _ _ (Nat.le_refl _)
      have t_31 : uC_answered (uC_wk (q_p S 1 5 1) N i_12) i_12 = uC_answered (q_p S 1 5 1) i_12 := uC_answered_cg (uC_wk_ne _ _ 6 (by decide) (by decide) (by decide) _) (uC_wk_ne _ _ 5 (by decide) (by decide) (by decide) _) _
      refine q_ialdN (i := i_12) (x := (q_p S 1 5 1) 2 i_12) C rfl q_s2 (by omega) (by decide) dX1_letHeraldWake_25 t_25 ?_
      refine q_if_ne (tgt := 43) C dX1_letHeraldWake_26 (by decide)  (fun c_26 => ?_) (fun c_26 => ?_)
      · refine q_iinc (v := nI (i_12 + 1)) (lv' := [(2, .int (nI (i_12 + 1))), (0, .ref 1), (1, .int (nI N))]) C dX1_letHeraldWake_43 rfl (nI_add _ _) (by decide) rfl ?_
        refine q_goto (tgt := 12) C dX1_letHeraldWake_46 (by decide) ?_
        exact q_V_to (ih_12 (i_12 + 1) (by omega)) ⟨rfl, rfl, rfl, trivial⟩ (by simp [uC_wk, uC_wkc, c_17, Nat.not_le.mpr c_17, c_26])
      · refine q_aload_n C dX1_letHeraldWake_29 rfl rfl ?_
        refine q_iload_n C dX1_letHeraldWake_30 rfl rfl ?_
        refine q_ci1 C (q_Fi.cv t_31 (c_X1_countAnswered l (uC_wk (q_p S 1 5 1) N i_12) i_12 (by omega))) myX1_countAnswered mlX1_108 q_s1 ⟨by decide, by decide⟩ (Nat.le_of_ble_eq_true rfl) dX1_letHeraldWake_31 ?_
        refine q_if_le (tgt := 43) C dX1_letHeraldWake_34 (by decide)  (fun c_34 => ?_) (fun c_34 => ?_)
        · refine q_iinc (v := nI (i_12 + 1)) (lv' := [(2, .int (nI (i_12 + 1))), (0, .ref 1), (1, .int (nI N))]) C dX1_letHeraldWake_43 rfl (nI_add _ _) (by decide) rfl ?_
          refine q_goto (tgt := 12) C dX1_letHeraldWake_46 (by decide) ?_
          exact q_V_to (ih_12 (i_12 + 1) (by omega)) ⟨rfl, rfl, rfl, trivial⟩ (by simp [uC_wk, uC_wkc, c_17, Nat.not_le.mpr c_17, c_26, c_34, Int32.not_lt.mpr c_34, if_neg (Int32.not_lt.mpr c_34)])
        · refine q_aload_n C dX1_letHeraldWake_37 rfl rfl ?_
          refine q_iload_n C dX1_letHeraldWake_38 rfl rfl ?_
          refine q_iconst (v := 2) C dX1_letHeraldWake_39 (by decide) ?_
          have t_40 : uC_wkN (q_p S 1 5 1) N i_12 < 8 := uC_wkN_lt (by omega) ⟨c_26, c_34⟩ hW
          refine q_cv2 C (c_X1_enterInBook l (uC_wk (q_p S 1 5 1) N i_12) (uC_wkN (q_p S 1 5 1) N i_12) (uC_wk_11 (q_p S 1 5 1) N hN i_12) t_40 i_12 (by omega) 2) myX1_enterInBook mlX1_95 q_s1 ⟨by decide, by decide⟩ (Nat.le_of_ble_eq_true rfl) dX1_letHeraldWake_40 ?_
          refine q_iinc (v := nI (i_12 + 1)) (lv' := [(2, .int (nI (i_12 + 1))), (0, .ref 1), (1, .int (nI N))]) C dX1_letHeraldWake_43 rfl (nI_add _ _) (by decide) rfl ?_
          refine q_goto (tgt := 12) C dX1_letHeraldWake_46 (by decide) ?_
          exact q_V_to (ih_12 (i_12 + 1) (by omega)) ⟨rfl, rfl, rfl, trivial⟩ (by simp [uC_wk, uC_wkc, c_17, Nat.not_le.mpr c_17, c_26, c_34, Int32.not_le.mpr c_34, if_pos c_34])
  exact q_V_to (loop_12 (M - 0) 0 (by omega)) ⟨rfl, rfl, rfl, trivial⟩ rfl
