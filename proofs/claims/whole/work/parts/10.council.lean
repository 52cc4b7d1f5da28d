theorem c_X1_hasMatter (l : Launch) (S : q_St) (x : Int32) : q_Fi l yX1_hasMatter kX1_hasMatter 1 [.ref 1, .int x] S (if 0 ≤ x ∧ x < S 1 0 then 1 else 0) S := by
  refine q_Fi_of (maxL := 2) rfl (by decide +kernel) (fun ad => Nat.le_of_ble_eq_true rfl) (by split <;> rfl) ?_
  intro K C hret
  have C : q_Cx K cX1_hasMatter RX1 1 2 := C
  show q_V l K 0 [(0, .ref 1), (1, .int x)] [] S
  refine q_iload_n C dX1_hasMatter_0 rfl rfl ?_
  refine q_if_lt (tgt := 16) C dX1_hasMatter_1 (by decide)  (fun c_1 => ?_) (fun c_1 => ?_)
  · refine q_iconst (v := 0) C dX1_hasMatter_16 (by decide) ?_
    exact hret _ _ _ _ dX1_hasMatter_17 (if_neg (fun h => Int32.not_le.mpr c_1 h.1)).symm rfl
  · refine q_iload_n C dX1_hasMatter_4 rfl rfl ?_
    refine q_aload_n C dX1_hasMatter_5 rfl rfl ?_
    refine q_getI (x := S 1 0) C flX1_41 q_s1 rfl dX1_hasMatter_6 rfl ?_
    refine q_icmp_ge (tgt := 16) C dX1_hasMatter_9 (by decide)  (fun c_9 => ?_) (fun c_9 => ?_)
    · refine q_iconst (v := 0) C dX1_hasMatter_16 (by decide) ?_
      exact hret _ _ _ _ dX1_hasMatter_17 (if_neg (fun h => Int32.not_lt.mpr c_9 h.2)).symm rfl
    · refine q_iconst (v := 1) C dX1_hasMatter_12 (by decide) ?_
      refine q_goto (tgt := 17) C dX1_hasMatter_13 (by decide) ?_
      exact hret _ _ _ _ dX1_hasMatter_17 (if_pos ⟨c_1, c_9⟩).symm rfl
theorem c_X1_hasGuild (l : Launch) (S : q_St) (x : Int32) : q_Fi l yX1_hasGuild kX1_hasGuild 1 [.ref 1, .int x] S (if 0 ≤ x ∧ x < 6 then 1 else 0) S := by
  refine q_Fi_of (maxL := 2) rfl (by decide +kernel) (fun ad => Nat.le_of_ble_eq_true rfl) (by split <;> rfl) ?_
  intro K C hret
  have C : q_Cx K cX1_hasGuild RX1 1 2 := C
  show q_V l K 0 [(0, .ref 1), (1, .int x)] [] S
  refine q_iload_n C dX1_hasGuild_0 rfl rfl ?_
  refine q_if_lt (tgt := 14) C dX1_hasGuild_1 (by decide)  (fun c_1 => ?_) (fun c_1 => ?_)
  · refine q_iconst (v := 0) C dX1_hasGuild_14 (by decide) ?_
    exact hret _ _ _ _ dX1_hasGuild_15 (if_neg (fun h => Int32.not_le.mpr c_1 h.1)).symm rfl
  · refine q_iload_n C dX1_hasGuild_4 rfl rfl ?_
    refine q_bipush (v := 6) C dX1_hasGuild_5 (by decide) ?_
    refine q_icmp_ge (tgt := 14) C dX1_hasGuild_7 (by decide)  (fun c_7 => ?_) (fun c_7 => ?_)
    · refine q_iconst (v := 0) C dX1_hasGuild_14 (by decide) ?_
      exact hret _ _ _ _ dX1_hasGuild_15 (if_neg (fun h => Int32.not_lt.mpr c_7 h.2)).symm rfl
    · refine q_iconst (v := 1) C dX1_hasGuild_10 (by decide) ?_
      refine q_goto (tgt := 15) C dX1_hasGuild_11 (by decide) ?_
      exact hret _ _ _ _ dX1_hasGuild_15 (if_pos ⟨c_1, c_7⟩).symm rfl
theorem c_X1_isGuildOf (l : Launch) (S : q_St) (m : Nat) (hm : m < 8) (g : Nat) (hg : g < 6) : q_Fi l yX1_isGuildOf kX1_isGuildOf 1 [.ref 1, .int (nI m), .int (nI g)] S (if S 5 (m * 6 + g) ≠ 0 then 1 else 0) S := by
  refine q_Fi_of (maxL := 3) rfl (by decide +kernel) (fun ad => Nat.le_of_ble_eq_true rfl) (by split <;> rfl) ?_
  intro K C hret
  have C : q_Cx K cX1_isGuildOf RX1 1 3 := C
  show q_V l K 0 [(0, .ref 1), (1, .int (nI m)), (2, .int (nI g))] [] S
  refine q_aload_n C dX1_isGuildOf_0 rfl rfl ?_
  refine q_getR C flX1_25 q_s1 rfl dX1_isGuildOf_1 ?_
  refine q_iload_n C dX1_isGuildOf_4 rfl rfl ?_
  refine q_bipush (v := 6) C dX1_isGuildOf_5 (by decide) ?_
  refine q_imulN (a := m) (b := 6) C dX1_isGuildOf_7 rfl rfl ?_
  refine q_iload_n C dX1_isGuildOf_8 rfl rfl ?_
  refine q_iaddN (a := m * 6) (b := g) C dX1_isGuildOf_9 rfl rfl ?_
  refine q_ialdN (i := m * 6 + g) (x := S 5 (m * 6 + g)) C rfl q_s5 (by omega) (by decide) dX1_isGuildOf_10 rfl ?_
  refine q_if_eq (tgt := 18) C dX1_isGuildOf_11 (by decide)  (fun c_11 => ?_) (fun c_11 => ?_)
  · refine q_iconst (v := 0) C dX1_isGuildOf_18 (by decide) ?_
    exact hret _ _ _ _ dX1_isGuildOf_19 (by simp [c_11]) rfl
  · refine q_iconst (v := 1) C dX1_isGuildOf_14 (by decide) ?_
    refine q_goto (tgt := 19) C dX1_isGuildOf_15 (by decide) ?_
    exact hret _ _ _ _ dX1_isGuildOf_19 (by simp [c_11]) rfl
theorem c_X1_amountOf (l : Launch) (S : q_St) (m : Nat) (hm : m < 8) (g : Nat) (hg : g < 6) : q_Fi l yX1_amountOf kX1_amountOf 1 [.ref 1, .int (nI m), .int (nI g)] S (S 5 (m * 6 + g)) S := by
  refine q_Fi_of (maxL := 3) rfl (by decide +kernel) (fun ad => Nat.le_of_ble_eq_true rfl) rfl ?_
  intro K C hret
  have C : q_Cx K cX1_amountOf RX1 1 3 := C
  show q_V l K 0 [(0, .ref 1), (1, .int (nI m)), (2, .int (nI g))] [] S
  refine q_aload_n C dX1_amountOf_0 rfl rfl ?_
  refine q_getR C flX1_25 q_s1 rfl dX1_amountOf_1 ?_
  refine q_iload_n C dX1_amountOf_4 rfl rfl ?_
  refine q_bipush (v := 6) C dX1_amountOf_5 (by decide) ?_
  refine q_imulN (a := m) (b := 6) C dX1_amountOf_7 rfl rfl ?_
  refine q_iload_n C dX1_amountOf_8 rfl rfl ?_
  refine q_iaddN (a := m * 6) (b := g) C dX1_amountOf_9 rfl rfl ?_
  refine q_ialdN (i := m * 6 + g) (x := S 5 (m * 6 + g)) C rfl q_s5 (by omega) (by decide) dX1_amountOf_10 rfl ?_
  exact hret _ _ _ _ dX1_amountOf_11 rfl rfl
theorem c_X1_answerOf (l : Launch) (S : q_St) (m : Nat) (hm : m < 8) (g : Nat) (hg : g < 6) : q_Fi l yX1_answerOf kX1_answerOf 1 [.ref 1, .int (nI m), .int (nI g)] S (S 6 (m * 6 + g)) S := by
  refine q_Fi_of (maxL := 3) rfl (by decide +kernel) (fun ad => Nat.le_of_ble_eq_true rfl) rfl ?_
  intro K C hret
  have C : q_Cx K cX1_answerOf RX1 1 3 := C
  show q_V l K 0 [(0, .ref 1), (1, .int (nI m)), (2, .int (nI g))] [] S
  refine q_aload_n C dX1_answerOf_0 rfl rfl ?_
  refine q_getR C flX1_28 q_s1 rfl dX1_answerOf_1 ?_
  refine q_iload_n C dX1_answerOf_4 rfl rfl ?_
  refine q_bipush (v := 6) C dX1_answerOf_5 (by decide) ?_
  refine q_imulN (a := m) (b := 6) C dX1_answerOf_7 rfl rfl ?_
  refine q_iload_n C dX1_answerOf_8 rfl rfl ?_
  refine q_iaddN (a := m * 6) (b := g) C dX1_answerOf_9 rfl rfl ?_
  refine q_ialdN (i := m * 6 + g) (x := S 6 (m * 6 + g)) C rfl q_s6 (by omega) (by decide) dX1_answerOf_10 rfl ?_
  exact hret _ _ _ _ dX1_answerOf_11 rfl rfl
theorem c_X1_giveAnswer (l : Launch) (S : q_St) (m : Nat) (hm : m < 8) (g : Nat) (hg : g < 6) (a : Int32) : q_Fv l yX1_giveAnswer kX1_giveAnswer 1 [.ref 1, .int (nI m), .int (nI g), .int a] S (q_p S 6 (m * 6 + g) a) := by
  refine q_Fv_of (maxL := 4) rfl (by decide +kernel) (fun ad => Nat.le_of_ble_eq_true rfl) ?_
  intro K C hret
  have C : q_Cx K cX1_giveAnswer RX1 1 4 := C
  show q_V l K 0 [(0, .ref 1), (1, .int (nI m)), (2, .int (nI g)), (3, .int a)] [] S
  refine q_aload_n C dX1_giveAnswer_0 rfl rfl ?_
  refine q_getR C flX1_28 q_s1 rfl dX1_giveAnswer_1 ?_
  refine q_iload_n C dX1_giveAnswer_4 rfl rfl ?_
  refine q_bipush (v := 6) C dX1_giveAnswer_5 (by decide) ?_
  refine q_imulN (a := m) (b := 6) C dX1_giveAnswer_7 rfl rfl ?_
  refine q_iload_n C dX1_giveAnswer_8 rfl rfl ?_
  refine q_iaddN (a := m * 6) (b := g) C dX1_giveAnswer_9 rfl rfl ?_
  refine q_iload_n C dX1_giveAnswer_10 rfl rfl ?_
  refine q_iastN (i := m * 6 + g) C rfl q_s6 (by omega) (by decide) dX1_giveAnswer_11 ?_
  exact hret _ _ _ dX1_giveAnswer_12 rfl
theorem c_X1_makeMatter (l : Launch) (S : q_St) (M : Nat) (hM : S 1 0 = nI M) (hM8 : M ≤ 8) (hM7 : M < 8) : q_Fi l yX1_makeMatter kX1_makeMatter 1 [.ref 1] S (S 1 0) (q_p (q_p S 3 M (S 1 2)) 1 0 (nI (M + 1))) := by
  refine q_Fi_of (maxL := 2) rfl (by decide +kernel) (fun ad => Nat.le_of_ble_eq_true rfl) rfl ?_
  intro K C hret
  have C : q_Cx K cX1_makeMatter RX1 1 2 := C
  show q_V l K 0 [(0, .ref 1)] [] S
  refine q_aload_n C dX1_makeMatter_0 rfl rfl ?_
  refine q_getI (x := nI M) C flX1_41 q_s1 rfl dX1_makeMatter_1 hM ?_
  refine q_istore_n (lv' := [(1, .int (nI M)), (0, .ref 1)]) C dX1_makeMatter_4 rfl (by decide) rfl ?_
  refine q_aload_n C dX1_makeMatter_5 rfl rfl ?_
  refine q_getR C flX1_19 q_s1 rfl dX1_makeMatter_6 ?_
  refine q_iload_n C dX1_makeMatter_9 rfl rfl ?_
  refine q_aload_n C dX1_makeMatter_10 rfl rfl ?_
  refine q_getI (x := S 1 2) C flX1_48 q_s1 rfl dX1_makeMatter_11 rfl ?_
  refine q_iastN (i := M) C rfl q_s3 (by omega) (by decide) dX1_makeMatter_14 ?_
  refine q_aload_n C dX1_makeMatter_15 rfl rfl ?_
  refine q_dup C rfl dX1_makeMatter_16 ?_
  refine q_getI (x := nI M) C flX1_41 q_s1 rfl dX1_makeMatter_17 hM ?_
  refine q_iconst (v := 1) C dX1_makeMatter_20 (by decide) ?_
  refine q_iaddN (a := M) (b := 1) C dX1_makeMatter_21 rfl rfl ?_
  refine q_put (ty9 := .int) C flX1_41 q_s1 rfl (fun _ _ _ h => by cases h; exact ⟨rfl, by decide +kernel⟩) rfl rfl dX1_makeMatter_22 ?_
  refine q_iload_n C dX1_makeMatter_25 rfl rfl ?_
  exact hret _ _ _ _ dX1_makeMatter_26 hM.symm rfl
theorem c_X1_countGuilds (l : Launch) (S : q_St) (m : Nat) (hm : m < 8) : q_Fi l yX1_countGuilds kX1_countGuilds 2 [.ref 1, .int (nI m)] S (uC_guilds S m) S := by
  refine q_Fi_of (maxL := 4) rfl (by decide +kernel) (fun ad => Nat.le_of_ble_eq_true rfl) rfl ?_
  intro K C hret
  have C : q_Cx K cX1_countGuilds RX1 2 4 := C
  show q_V l K 0 [(0, .ref 1), (1, .int (nI m))] [] S
  refine q_iconst (v := 0) C dX1_countGuilds_0 (by decide) ?_
  refine q_istore_n (lv' := [(2, .int 0), (0, .ref 1), (1, .int (nI m))]) C dX1_countGuilds_1 rfl (by decide) rfl ?_
  refine q_iconst (v := 0) C dX1_countGuilds_2 (by decide) ?_
  refine q_istore_n (lv' := [(3, .int 0), (2, .int 0), (0, .ref 1), (1, .int (nI m))]) C dX1_countGuilds_3 rfl (by decide) rfl ?_
  have loop_4 : ∀ (n_4 i_4 : Nat), i_4 + n_4 = 6 → q_V l K 4 [(0, .ref 1), (1, .int (nI m)), (2, .int (q_sum (uC_fG S m) i_4)), (3, .int (nI i_4))] [] S := by
    intro n_4
    induction n_4 with
    | zero =>
      intro i_4 hi_4
      have e_4 : i_4 = 6 := by omega
      refine q_iload_n C dX1_countGuilds_4 rfl rfl ?_
      refine q_bipush (v := 6) C dX1_countGuilds_5 (by decide) ?_
      refine q_icmp_geN (a := i_4) (b := 6) (tgt := 33) C dX1_countGuilds_7 (by decide) rfl rfl (by omega) (by omega) (fun c_7 => ?_) (fun c_7 => absurd c_7 (by omega))
      refine q_iload_n C dX1_countGuilds_33 rfl rfl ?_
      exact hret _ _ _ _ dX1_countGuilds_34 (by rw [e_4]; rfl) rfl
    | succ n_4 ih_4 =>
      intro i_4 hi_4
      refine q_iload_n C dX1_countGuilds_4 rfl rfl ?_
      refine q_bipush (v := 6) C dX1_countGuilds_5 (by decide) ?_
      refine q_icmp_geN (a := i_4) (b := 6) (tgt := 33) C dX1_countGuilds_7 (by decide) rfl rfl (by omega) (by omega) (fun c_7 => absurd c_7 (by omega)) (fun c_7 => ?_)
      refine q_iload_n C dX1_countGuilds_10 rfl rfl ?_
      refine q_aload_n C dX1_countGuilds_11 rfl rfl ?_
      refine q_iload_n C dX1_countGuilds_12 rfl rfl ?_
      refine q_iload_n C dX1_countGuilds_13 rfl rfl ?_
      by_cases h_14 : S 5 (m * 6 + i_4) ≠ 0
      · refine q_ci2 C (q_Fi.cv (if_pos h_14) (c_X1_isGuildOf l S m (by omega) i_4 (by omega))) myX1_isGuildOf mlX1_85 q_s1 ⟨by decide, by decide⟩ (Nat.le_of_ble_eq_true rfl) dX1_countGuilds_14 ?_
        refine q_if_eq (tgt := 24) C dX1_countGuilds_17 (by decide) (fun h9 => absurd h9 (by decide)) (fun _ => ?_)
        refine q_iconst (v := 1) C dX1_countGuilds_20 (by decide) ?_
        refine q_goto (tgt := 25) C dX1_countGuilds_21 (by decide) ?_
        refine q_iadd C dX1_countGuilds_25 ?_
        refine q_istore_n (lv' := [(2, .int ((q_sum (uC_fG S m) i_4) + 1)), (0, .ref 1), (1, .int (nI m)), (3, .int (nI i_4))]) C dX1_countGuilds_26 rfl (by decide) rfl ?_
        refine q_iinc (v := nI (i_4 + 1)) (lv' := [(3, .int (nI (i_4 + 1))), (2, .int ((q_sum (uC_fG S m) i_4) + 1)), (0, .ref 1), (1, .int (nI m))]) C dX1_countGuilds_27 rfl (nI_add _ _) (by decide) rfl ?_
        refine q_goto (tgt := 4) C dX1_countGuilds_30 (by decide) ?_
        exact q_V_to (ih_4 (i_4 + 1) (by omega)) ⟨rfl, rfl, q_iv (by simp [q_sum, uC_fG, c_7, h_14]), rfl, trivial⟩ rfl
      · refine q_ci2 C (q_Fi.cv (if_neg h_14) (c_X1_isGuildOf l S m (by omega) i_4 (by omega))) myX1_isGuildOf mlX1_85 q_s1 ⟨by decide, by decide⟩ (Nat.le_of_ble_eq_true rfl) dX1_countGuilds_14 ?_
        refine q_if_eq (tgt := 24) C dX1_countGuilds_17 (by decide) (fun _ => ?_) (fun h9 => absurd h9 (by decide))
        refine q_iconst (v := 0) C dX1_countGuilds_24 (by decide) ?_
        refine q_iadd C dX1_countGuilds_25 ?_
        refine q_istore_n (lv' := [(2, .int ((q_sum (uC_fG S m) i_4) + 0)), (0, .ref 1), (1, .int (nI m)), (3, .int (nI i_4))]) C dX1_countGuilds_26 rfl (by decide) rfl ?_
        refine q_iinc (v := nI (i_4 + 1)) (lv' := [(3, .int (nI (i_4 + 1))), (2, .int ((q_sum (uC_fG S m) i_4) + 0)), (0, .ref 1), (1, .int (nI m))]) C dX1_countGuilds_27 rfl (nI_add _ _) (by decide) rfl ?_
        refine q_goto (tgt := 4) C dX1_countGuilds_30 (by decide) ?_
        exact q_V_to (ih_4 (i_4 + 1) (by omega)) ⟨rfl, rfl, q_iv (by simp [q_sum, uC_fG, c_7, h_14]), rfl, trivial⟩ rfl
  exact q_V_to (loop_4 (6 - 0) 0 (by omega)) ⟨rfl, rfl, rfl, rfl, trivial⟩ rfl
theorem c_X1_countAnswers (l : Launch) (S : q_St) (m : Nat) (hm : m < 8) (a : Int32) : q_Fi l yX1_countAnswers kX1_countAnswers 1 [.ref 1, .int (nI m), .int a] S (uC_ans S m a) S := by
  refine q_Fi_of (maxL := 6) rfl (by decide +kernel) (fun ad => Nat.le_of_ble_eq_true rfl) rfl ?_
  intro K C hret
  have C : q_Cx K cX1_countAnswers RX1 1 6 := C
  show q_V l K 0 [(0, .ref 1), (1, .int (nI m)), (2, .int a)] [] S
  refine q_iconst (v := 0) C dX1_countAnswers_0 (by decide) ?_
  refine q_istore_n (lv' := [(3, .int 0), (0, .ref 1), (1, .int (nI m)), (2, .int a)]) C dX1_countAnswers_1 rfl (by decide) rfl ?_
  refine q_iload_n C dX1_countAnswers_2 rfl rfl ?_
  refine q_bipush (v := 6) C dX1_countAnswers_3 (by decide) ?_
  refine q_imulN (a := m) (b := 6) C dX1_countAnswers_5 rfl rfl ?_
  refine q_istore (lv' := [(4, .int (nI (m * 6))), (3, .int 0), (0, .ref 1), (1, .int (nI m)), (2, .int a)]) C dX1_countAnswers_6 (by decide) rfl ?_
  refine q_iload C dX1_countAnswers_8 rfl ?_
  refine q_istore (lv' := [(5, .int (nI (m * 6))), (4, .int (nI (m * 6))), (3, .int 0), (0, .ref 1), (1, .int (nI m)), (2, .int a)]) C dX1_countAnswers_10 (by decide) rfl ?_
  have loop_12 : ∀ (n_12 i_12 : Nat), i_12 + n_12 = 6 → q_V l K 12 [(0, .ref 1), (1, .int (nI m)), (2, .int a), (3, .int (q_sum (uC_fA S m a) i_12)), (4, .int (nI (m * 6))), (5, .int (nI (m * 6 + i_12)))] [] S := by
    intro n_12
    induction n_12 with
    | zero =>
      intro i_12 hi_12
      have e_12 : i_12 = 6 := by omega
      refine q_iload C dX1_countAnswers_12 rfl ?_
      refine q_iload C dX1_countAnswers_14 rfl ?_
      refine q_bipush (v := 6) C dX1_countAnswers_16 (by decide) ?_
      refine q_iaddN (a := m * 6) (b := 6) C dX1_countAnswers_18 rfl rfl ?_
      refine q_icmp_geN (a := m * 6 + i_12) (b := m * 6 + 6) (tgt := 57) C dX1_countAnswers_19 (by decide) rfl rfl (by omega) (by omega) (fun c_19 => ?_) (fun c_19 => absurd c_19 (by omega))
      refine q_iload_n C dX1_countAnswers_57 rfl rfl ?_
      exact hret _ _ _ _ dX1_countAnswers_58 (by rw [e_12]; rfl) rfl
    | succ n_12 ih_12 =>
      intro i_12 hi_12
      refine q_iload C dX1_countAnswers_12 rfl ?_
      refine q_iload C dX1_countAnswers_14 rfl ?_
      refine q_bipush (v := 6) C dX1_countAnswers_16 (by decide) ?_
      refine q_iaddN (a := m * 6) (b := 6) C dX1_countAnswers_18 rfl rfl ?_
      refine q_icmp_geN (a := m * 6 + i_12) (b := m * 6 + 6) (tgt := 57) C dX1_countAnswers_19 (by decide) rfl rfl (by omega) (by omega) (fun c_19 => absurd c_19 (by omega)) (fun c_19 => ?_)
      refine q_iload_n C dX1_countAnswers_22 rfl rfl ?_
      refine q_aload_n C dX1_countAnswers_23 rfl rfl ?_
      refine q_getR C flX1_25 q_s1 rfl dX1_countAnswers_24 ?_
      refine q_iload C dX1_countAnswers_27 rfl ?_
      refine q_ialdN (i := m * 6 + i_12) (x := S 5 (m * 6 + i_12)) C rfl q_s5 (by omega) (by decide) dX1_countAnswers_29 rfl ?_
      refine q_if_eq (tgt := 48) C dX1_countAnswers_30 (by decide)  (fun c_30 => ?_) (fun c_30 => ?_)
      · refine q_iconst (v := 0) C dX1_countAnswers_48 (by decide) ?_
        refine q_iadd C dX1_countAnswers_49 ?_
        refine q_istore_n (lv' := [(3, .int ((q_sum (uC_fA S m a) i_12) + 0)), (0, .ref 1), (1, .int (nI m)), (2, .int a), (4, .int (nI (m * 6))), (5, .int (nI (m * 6 + i_12)))]) C dX1_countAnswers_50 rfl (by decide) rfl ?_
        refine q_iinc (v := nI (m * 6 + i_12 + 1)) (lv' := [(5, .int (nI (m * 6 + i_12 + 1))), (3, .int ((q_sum (uC_fA S m a) i_12) + 0)), (0, .ref 1), (1, .int (nI m)), (2, .int a), (4, .int (nI (m * 6)))]) C dX1_countAnswers_51 rfl (nI_add _ _) (by decide) rfl ?_
        refine q_goto (tgt := 12) C dX1_countAnswers_54 (by decide) ?_
        exact q_V_to (ih_12 (i_12 + 1) (by omega)) ⟨rfl, rfl, rfl, q_iv (by simp [q_sum, uC_fA, c_19, c_30]), rfl, rfl, trivial⟩ rfl
      · refine q_aload_n C dX1_countAnswers_33 rfl rfl ?_
        refine q_getR C flX1_28 q_s1 rfl dX1_countAnswers_34 ?_
        refine q_iload C dX1_countAnswers_37 rfl ?_
        refine q_ialdN (i := m * 6 + i_12) (x := S 6 (m * 6 + i_12)) C rfl q_s6 (by omega) (by decide) dX1_countAnswers_39 rfl ?_
        refine q_iload_n C dX1_countAnswers_40 rfl rfl ?_
        refine q_icmp_ne (tgt := 48) C dX1_countAnswers_41 (by decide)  (fun c_41 => ?_) (fun c_41 => ?_)
        · refine q_iconst (v := 0) C dX1_countAnswers_48 (by decide) ?_
          refine q_iadd C dX1_countAnswers_49 ?_
          refine q_istore_n (lv' := [(3, .int ((q_sum (uC_fA S m a) i_12) + 0)), (0, .ref 1), (1, .int (nI m)), (2, .int a), (4, .int (nI (m * 6))), (5, .int (nI (m * 6 + i_12)))]) C dX1_countAnswers_50 rfl (by decide) rfl ?_
          refine q_iinc (v := nI (m * 6 + i_12 + 1)) (lv' := [(5, .int (nI (m * 6 + i_12 + 1))), (3, .int ((q_sum (uC_fA S m a) i_12) + 0)), (0, .ref 1), (1, .int (nI m)), (2, .int a), (4, .int (nI (m * 6)))]) C dX1_countAnswers_51 rfl (nI_add _ _) (by decide) rfl ?_
          refine q_goto (tgt := 12) C dX1_countAnswers_54 (by decide) ?_
          exact q_V_to (ih_12 (i_12 + 1) (by omega)) ⟨rfl, rfl, rfl, q_iv (by simp [q_sum, uC_fA, c_19, c_30, c_41]), rfl, rfl, trivial⟩ rfl
        · refine q_iconst (v := 1) C dX1_countAnswers_44 (by decide) ?_
          refine q_goto (tgt := 49) C dX1_countAnswers_45 (by decide) ?_
          refine q_iadd C dX1_countAnswers_49 ?_
          refine q_istore_n (lv' := [(3, .int ((q_sum (uC_fA S m a) i_12) + 1)), (0, .ref 1), (1, .int (nI m)), (2, .int a), (4, .int (nI (m * 6))), (5, .int (nI (m * 6 + i_12)))]) C dX1_countAnswers_50 rfl (by decide) rfl ?_
          refine q_iinc (v := nI (m * 6 + i_12 + 1)) (lv' := [(5, .int (nI (m * 6 + i_12 + 1))), (3, .int ((q_sum (uC_fA S m a) i_12) + 1)), (0, .ref 1), (1, .int (nI m)), (2, .int a), (4, .int (nI (m * 6)))]) C dX1_countAnswers_51 rfl (nI_add _ _) (by decide) rfl ?_
          refine q_goto (tgt := 12) C dX1_countAnswers_54 (by decide) ?_
          exact q_V_to (ih_12 (i_12 + 1) (by omega)) ⟨rfl, rfl, rfl, q_iv (by simp [q_sum, uC_fA, c_19, c_30, c_41]), rfl, rfl, trivial⟩ rfl
  exact q_V_to (loop_12 (6 - 0) 0 (by omega)) ⟨rfl, rfl, rfl, rfl, rfl, rfl, trivial⟩ rfl
theorem c_X1_countAnswered (l : Launch) (S : q_St) (m : Nat) (hm : m < 8) : q_Fi l yX1_countAnswered kX1_countAnswered 3 [.ref 1, .int (nI m)] S (uC_answered S m) S := by
  refine q_Fi_of (maxL := 2) rfl (by decide +kernel) (fun ad => Nat.le_of_ble_eq_true rfl) rfl ?_
  intro K C hret
  have C : q_Cx K cX1_countAnswered RX1 3 2 := C
  show q_V l K 0 [(0, .ref 1), (1, .int (nI m))] [] S
  refine q_aload_n C dX1_countAnswered_0 rfl rfl ?_
  refine q_iload_n C dX1_countAnswered_1 rfl rfl ?_
  refine q_ci1 C (c_X1_countGuilds l S m (by omega)) myX1_countGuilds mlX1_63 q_s1 ⟨by decide, by decide⟩ (Nat.le_of_ble_eq_true rfl) dX1_countAnswered_2 ?_
  refine q_aload_n C dX1_countAnswered_5 rfl rfl ?_
  refine q_iload_n C dX1_countAnswered_6 rfl rfl ?_
  refine q_iconst (v := 0) C dX1_countAnswered_7 (by decide) ?_
  refine q_ci2 C (c_X1_countAnswers l S m (by omega) 0) myX1_countAnswers mlX1_99 q_s1 ⟨by decide, by decide⟩ (Nat.le_of_ble_eq_true rfl) dX1_countAnswered_8 ?_
  refine q_isub C dX1_countAnswered_11 ?_
  exact hret _ _ _ _ dX1_countAnswered_12 rfl rfl
theorem c_X1_countHeard (l : Launch) (S : q_St) (m : Nat) (hm : m < 8) : q_Fi l yX1_countHeard kX1_countHeard 3 [.ref 1, .int (nI m)] S (uC_heard S m) S := by
  refine q_Fi_of (maxL := 2) rfl (by decide +kernel) (fun ad => Nat.le_of_ble_eq_true rfl) rfl ?_
  intro K C hret
  have C : q_Cx K cX1_countHeard RX1 3 2 := C
  show q_V l K 0 [(0, .ref 1), (1, .int (nI m))] [] S
  refine q_aload_n C dX1_countHeard_0 rfl rfl ?_
  refine q_iload_n C dX1_countHeard_1 rfl rfl ?_
  refine q_iconst (v := 3) C dX1_countHeard_2 (by decide) ?_
  refine q_ci2 C (c_X1_countAnswers l S m (by omega) 3) myX1_countAnswers mlX1_99 q_s1 ⟨by decide, by decide⟩ (Nat.le_of_ble_eq_true rfl) dX1_countHeard_3 ?_
  refine q_aload_n C dX1_countHeard_6 rfl rfl ?_
  refine q_iload_n C dX1_countHeard_7 rfl rfl ?_
  refine q_iconst (v := 4) C dX1_countHeard_8 (by decide) ?_
  refine q_ci2 C (c_X1_countAnswers l S m (by omega) 4) myX1_countAnswers mlX1_99 q_s1 ⟨by decide, by decide⟩ (Nat.le_of_ble_eq_true rfl) dX1_countHeard_9 ?_
  refine q_iadd C dX1_countHeard_12 ?_
  exact hret _ _ _ _ dX1_countHeard_13 rfl rfl
theorem c_X1_sumOfAmounts (l : Launch) (S : q_St) (m : Nat) (hm : m < 8) : q_Fi l yX1_sumOfAmounts kX1_sumOfAmounts 2 [.ref 1, .int (nI m)] S (uC_sumA S m) S := by
  refine q_Fi_of (maxL := 4) rfl (by decide +kernel) (fun ad => Nat.le_of_ble_eq_true rfl) rfl ?_
  intro K C hret
  have C : q_Cx K cX1_sumOfAmounts RX1 2 4 := C
  show q_V l K 0 [(0, .ref 1), (1, .int (nI m))] [] S
  refine q_iconst (v := 0) C dX1_sumOfAmounts_0 (by decide) ?_
  refine q_istore_n (lv' := [(2, .int 0), (0, .ref 1), (1, .int (nI m))]) C dX1_sumOfAmounts_1 rfl (by decide) rfl ?_
  refine q_iconst (v := 0) C dX1_sumOfAmounts_2 (by decide) ?_
  refine q_istore_n (lv' := [(3, .int 0), (2, .int 0), (0, .ref 1), (1, .int (nI m))]) C dX1_sumOfAmounts_3 rfl (by decide) rfl ?_
  have loop_4 : ∀ (n_4 i_4 : Nat), i_4 + n_4 = 6 → q_V l K 4 [(0, .ref 1), (1, .int (nI m)), (2, .int (q_sum (fun g => S 5 (m * 6 + g)) i_4)), (3, .int (nI i_4))] [] S := by
    intro n_4
    induction n_4 with
    | zero =>
      intro i_4 hi_4
      have e_4 : i_4 = 6 := by omega
      refine q_iload_n C dX1_sumOfAmounts_4 rfl rfl ?_
      refine q_bipush (v := 6) C dX1_sumOfAmounts_5 (by decide) ?_
      refine q_icmp_geN (a := i_4) (b := 6) (tgt := 25) C dX1_sumOfAmounts_7 (by decide) rfl rfl (by omega) (by omega) (fun c_7 => ?_) (fun c_7 => absurd c_7 (by omega))
      refine q_iload_n C dX1_sumOfAmounts_25 rfl rfl ?_
      exact hret _ _ _ _ dX1_sumOfAmounts_26 (by rw [e_4]; rfl) rfl
    | succ n_4 ih_4 =>
      intro i_4 hi_4
      refine q_iload_n C dX1_sumOfAmounts_4 rfl rfl ?_
      refine q_bipush (v := 6) C dX1_sumOfAmounts_5 (by decide) ?_
      refine q_icmp_geN (a := i_4) (b := 6) (tgt := 25) C dX1_sumOfAmounts_7 (by decide) rfl rfl (by omega) (by omega) (fun c_7 => absurd c_7 (by omega)) (fun c_7 => ?_)
      refine q_iload_n C dX1_sumOfAmounts_10 rfl rfl ?_
      refine q_aload_n C dX1_sumOfAmounts_11 rfl rfl ?_
      refine q_iload_n C dX1_sumOfAmounts_12 rfl rfl ?_
      refine q_iload_n C dX1_sumOfAmounts_13 rfl rfl ?_
      refine q_ci2 C (c_X1_amountOf l S m (by omega) i_4 (by omega)) myX1_amountOf mlX1_82 q_s1 ⟨by decide, by decide⟩ (Nat.le_of_ble_eq_true rfl) dX1_sumOfAmounts_14 ?_
      refine q_iadd C dX1_sumOfAmounts_17 ?_
      refine q_istore_n (lv' := [(2, .int ((q_sum (fun g => S 5 (m * 6 + g)) i_4) + (S 5 (m * 6 + i_4)))), (0, .ref 1), (1, .int (nI m)), (3, .int (nI i_4))]) C dX1_sumOfAmounts_18 rfl (by decide) rfl ?_
      refine q_iinc (v := nI (i_4 + 1)) (lv' := [(3, .int (nI (i_4 + 1))), (2, .int ((q_sum (fun g => S 5 (m * 6 + g)) i_4) + (S 5 (m * 6 + i_4)))), (0, .ref 1), (1, .int (nI m))]) C dX1_sumOfAmounts_19 rfl (nI_add _ _) (by decide) rfl ?_
      refine q_goto (tgt := 4) C dX1_sumOfAmounts_22 (by decide) ?_
      exact q_V_to (ih_4 (i_4 + 1) (by omega)) ⟨rfl, rfl, q_iv (by simp [q_sum, q_sum, c_7]), rfl, trivial⟩ rfl
  exact q_V_to (loop_4 (6 - 0) 0 (by omega)) ⟨rfl, rfl, rfl, rfl, trivial⟩ rfl
theorem c_X1_doubtOf (l : Launch) (S : q_St) (M : Nat) (hM : S 1 0 = nI M) (hM8 : M ≤ 8) (g : Nat) (hg : g < 6) : q_Fi l yX1_doubtOf kX1_doubtOf 2 [.ref 1, .int (nI g)] S (uC_doubt S M g) S := by
  refine q_Fi_of (maxL := 3) rfl (by decide +kernel) (fun ad => Nat.le_of_ble_eq_true rfl) rfl ?_
  intro K C hret
  have C : q_Cx K cX1_doubtOf RX1 2 3 := C
  show q_V l K 0 [(0, .ref 1), (1, .int (nI g))] [] S
  refine q_iconst (v := 0) C dX1_doubtOf_0 (by decide) ?_
  refine q_istore_n (lv' := [(2, .int 0), (0, .ref 1), (1, .int (nI g))]) C dX1_doubtOf_1 rfl (by decide) rfl ?_
  have loop_2 : ∀ (n_2 i_2 : Nat), i_2 + n_2 = M → q_find (fun m => decide (S 6 (m * 6 + g) = 1)) n_2 i_2 = uC_doubt S M g → q_V l K 2 [(0, .ref 1), (1, .int (nI g)), (2, .int (nI i_2))] [] S := by
    intro n_2
    induction n_2 with
    | zero =>
      intro i_2 hi_2 hr_2
      have e_2 : i_2 = M := by omega
      refine q_iload_n C dX1_doubtOf_2 rfl rfl ?_
      refine q_aload_n C dX1_doubtOf_3 rfl rfl ?_
      refine q_getI (x := nI M) C flX1_41 q_s1 rfl dX1_doubtOf_4 hM ?_
      refine q_icmp_geN (a := i_2) (b := M) (tgt := 28) C dX1_doubtOf_7 (by decide) rfl rfl (by omega) (by omega) (fun c_7 => ?_) (fun c_7 => absurd c_7 (by omega))
      refine q_iconst (v := (-1)) C dX1_doubtOf_28 (by decide) ?_
      exact hret _ _ _ _ dX1_doubtOf_29 hr_2 rfl
    | succ n_2 ih_2 =>
      intro i_2 hi_2 hr_2
      refine q_iload_n C dX1_doubtOf_2 rfl rfl ?_
      refine q_aload_n C dX1_doubtOf_3 rfl rfl ?_
      refine q_getI (x := nI M) C flX1_41 q_s1 rfl dX1_doubtOf_4 hM ?_
      refine q_icmp_geN (a := i_2) (b := M) (tgt := 28) C dX1_doubtOf_7 (by decide) rfl rfl (by omega) (by omega) (fun c_7 => absurd c_7 (by omega)) (fun c_7 => ?_)
      refine q_aload_n C dX1_doubtOf_10 rfl rfl ?_
      refine q_iload_n C dX1_doubtOf_11 rfl rfl ?_
      refine q_iload_n C dX1_doubtOf_12 rfl rfl ?_
      refine q_ci2 C (c_X1_answerOf l S i_2 (by omega) g (by omega)) myX1_answerOf mlX1_75 q_s1 ⟨by decide, by decide⟩ (Nat.le_of_ble_eq_true rfl) dX1_doubtOf_13 ?_
      refine q_iconst (v := 1) C dX1_doubtOf_16 (by decide) ?_
      refine q_icmp_ne (tgt := 22) C dX1_doubtOf_17 (by decide)  (fun c_17 => ?_) (fun c_17 => ?_)
      · refine q_iinc (v := nI (i_2 + 1)) (lv' := [(2, .int (nI (i_2 + 1))), (0, .ref 1), (1, .int (nI g))]) C dX1_doubtOf_22 rfl (nI_add _ _) (by decide) rfl ?_
        refine q_goto (tgt := 2) C dX1_doubtOf_25 (by decide) ?_
        exact q_V_to (ih_2 (i_2 + 1) (by omega) (by rw [← hr_2, q_find, if_neg (by simp [c_7, c_17])])) ⟨rfl, rfl, rfl, trivial⟩ rfl
      · refine q_iload_n C dX1_doubtOf_20 rfl rfl ?_
        exact hret _ _ _ _ dX1_doubtOf_21 (by rw [← hr_2, q_find, if_pos (by simp [c_7, c_17])]) rfl
  exact q_V_to (loop_2 (M - 0) 0 (by omega) rfl) ⟨rfl, rfl, rfl, trivial⟩ rfl
theorem c_X1_countMatters (l : Launch) (S : q_St) (M : Nat) (hM : S 1 0 = nI M) (hM8 : M ≤ 8) (a : Int32) : q_Fi l yX1_countMatters kX1_countMatters 1 [.ref 1, .int a] S (uC_matters S M a) S := by
  refine q_Fi_of (maxL := 4) rfl (by decide +kernel) (fun ad => Nat.le_of_ble_eq_true rfl) rfl ?_
  intro K C hret
  have C : q_Cx K cX1_countMatters RX1 1 4 := C
  show q_V l K 0 [(0, .ref 1), (1, .int a)] [] S
  refine q_iconst (v := 0) C dX1_countMatters_0 (by decide) ?_
  refine q_istore_n (lv' := [(2, .int 0), (0, .ref 1), (1, .int a)]) C dX1_countMatters_1 rfl (by decide) rfl ?_
  refine q_iconst (v := 0) C dX1_countMatters_2 (by decide) ?_
  refine q_istore_n (lv' := [(3, .int 0), (2, .int 0), (0, .ref 1), (1, .int a)]) C dX1_countMatters_3 rfl (by decide) rfl ?_
  have loop_4 : ∀ (n_4 i_4 : Nat), i_4 + n_4 = M → q_V l K 4 [(0, .ref 1), (1, .int a), (2, .int (q_sum (uC_fM S a) i_4)), (3, .int (nI i_4))] [] S := by
    intro n_4
    induction n_4 with
    | zero =>
      intro i_4 hi_4
      have e_4 : i_4 = M := by omega
      refine q_iload_n C dX1_countMatters_4 rfl rfl ?_
      refine q_aload_n C dX1_countMatters_5 rfl rfl ?_
      refine q_getI (x := nI M) C flX1_41 q_s1 rfl dX1_countMatters_6 hM ?_
      refine q_icmp_geN (a := i_4) (b := M) (tgt := 36) C dX1_countMatters_9 (by decide) rfl rfl (by omega) (by omega) (fun c_9 => ?_) (fun c_9 => absurd c_9 (by omega))
      refine q_iload_n C dX1_countMatters_36 rfl rfl ?_
      exact hret _ _ _ _ dX1_countMatters_37 (by rw [e_4]; rfl) rfl
    | succ n_4 ih_4 =>
      intro i_4 hi_4
      refine q_iload_n C dX1_countMatters_4 rfl rfl ?_
      refine q_aload_n C dX1_countMatters_5 rfl rfl ?_
      refine q_getI (x := nI M) C flX1_41 q_s1 rfl dX1_countMatters_6 hM ?_
      refine q_icmp_geN (a := i_4) (b := M) (tgt := 36) C dX1_countMatters_9 (by decide) rfl rfl (by omega) (by omega) (fun c_9 => absurd c_9 (by omega)) (fun c_9 => ?_)
      refine q_iload_n C dX1_countMatters_12 rfl rfl ?_
      refine q_aload_n C dX1_countMatters_13 rfl rfl ?_
      refine q_getR C flX1_15 q_s1 rfl dX1_countMatters_14 ?_
      refine q_iload_n C dX1_countMatters_17 rfl rfl ?_
      refine q_ialdN (i := i_4) (x := S 2 i_4) C rfl q_s2 (by omega) (by decide) dX1_countMatters_18 rfl ?_
      refine q_iload_n C dX1_countMatters_19 rfl rfl ?_
      refine q_icmp_ne (tgt := 27) C dX1_countMatters_20 (by decide)  (fun c_20 => ?_) (fun c_20 => ?_)
      · refine q_iconst (v := 0) C dX1_countMatters_27 (by decide) ?_
        refine q_iadd C dX1_countMatters_28 ?_
        refine q_istore_n (lv' := [(2, .int ((q_sum (uC_fM S a) i_4) + 0)), (0, .ref 1), (1, .int a), (3, .int (nI i_4))]) C dX1_countMatters_29 rfl (by decide) rfl ?_
        refine q_iinc (v := nI (i_4 + 1)) (lv' := [(3, .int (nI (i_4 + 1))), (2, .int ((q_sum (uC_fM S a) i_4) + 0)), (0, .ref 1), (1, .int a)]) C dX1_countMatters_30 rfl (nI_add _ _) (by decide) rfl ?_
        refine q_goto (tgt := 4) C dX1_countMatters_33 (by decide) ?_
        exact q_V_to (ih_4 (i_4 + 1) (by omega)) ⟨rfl, rfl, q_iv (by simp [q_sum, uC_fM, c_9, c_20]), rfl, trivial⟩ rfl
      · refine q_iconst (v := 1) C dX1_countMatters_23 (by decide) ?_
        refine q_goto (tgt := 28) C dX1_countMatters_24 (by decide) ?_
        refine q_iadd C dX1_countMatters_28 ?_
        refine q_istore_n (lv' := [(2, .int ((q_sum (uC_fM S a) i_4) + 1)), (0, .ref 1), (1, .int a), (3, .int (nI i_4))]) C dX1_countMatters_29 rfl (by decide) rfl ?_
        refine q_iinc (v := nI (i_4 + 1)) (lv' := [(3, .int (nI (i_4 + 1))), (2, .int ((q_sum (uC_fM S a) i_4) + 1)), (0, .ref 1), (1, .int a)]) C dX1_countMatters_30 rfl (nI_add _ _) (by decide) rfl ?_
        refine q_goto (tgt := 4) C dX1_countMatters_33 (by decide) ?_
        exact q_V_to (ih_4 (i_4 + 1) (by omega)) ⟨rfl, rfl, q_iv (by simp [q_sum, uC_fM, c_9, c_20]), rfl, trivial⟩ rfl
  exact q_V_to (loop_4 (M - 0) 0 (by omega)) ⟨rfl, rfl, rfl, rfl, trivial⟩ rfl
theorem c_X1_countMattersOf (l : Launch) (S : q_St) (M : Nat) (hM : S 1 0 = nI M) (hM8 : M ≤ 8) (g : Nat) (hg : g < 6) (a : Int32) : q_Fi l yX1_countMattersOf kX1_countMattersOf 2 [.ref 1, .int (nI g), .int a] S (uC_mattersOf S M g a) S := by
  refine q_Fi_of (maxL := 5) rfl (by decide +kernel) (fun ad => Nat.le_of_ble_eq_true rfl) rfl ?_
  intro K C hret
  have C : q_Cx K cX1_countMattersOf RX1 2 5 := C
  show q_V l K 0 [(0, .ref 1), (1, .int (nI g)), (2, .int a)] [] S
  refine q_iconst (v := 0) C dX1_countMattersOf_0 (by decide) ?_
  refine q_istore_n (lv' := [(3, .int 0), (0, .ref 1), (1, .int (nI g)), (2, .int a)]) C dX1_countMattersOf_1 rfl (by decide) rfl ?_
  refine q_iconst (v := 0) C dX1_countMattersOf_2 (by decide) ?_
  refine q_istore (lv' := [(4, .int 0), (3, .int 0), (0, .ref 1), (1, .int (nI g)), (2, .int a)]) C dX1_countMattersOf_3 (by decide) rfl ?_
  have loop_5 : ∀ (n_5 i_5 : Nat), i_5 + n_5 = M → q_V l K 5 [(0, .ref 1), (1, .int (nI g)), (2, .int a), (3, .int (q_sum (uC_fMo S g a) i_5)), (4, .int (nI i_5))] [] S := by
    intro n_5
    induction n_5 with
    | zero =>
      intro i_5 hi_5
      have e_5 : i_5 = M := by omega
      refine q_iload C dX1_countMattersOf_5 rfl ?_
      refine q_aload_n C dX1_countMattersOf_7 rfl rfl ?_
      refine q_getI (x := nI M) C flX1_41 q_s1 rfl dX1_countMattersOf_8 hM ?_
      refine q_icmp_geN (a := i_5) (b := M) (tgt := 39) C dX1_countMattersOf_11 (by decide) rfl rfl (by omega) (by omega) (fun c_11 => ?_) (fun c_11 => absurd c_11 (by omega))
      refine q_iload_n C dX1_countMattersOf_39 rfl rfl ?_
      exact hret _ _ _ _ dX1_countMattersOf_40 (by rw [e_5]; rfl) rfl
    | succ n_5 ih_5 =>
      intro i_5 hi_5
      refine q_iload C dX1_countMattersOf_5 rfl ?_
      refine q_aload_n C dX1_countMattersOf_7 rfl rfl ?_
      refine q_getI (x := nI M) C flX1_41 q_s1 rfl dX1_countMattersOf_8 hM ?_
      refine q_icmp_geN (a := i_5) (b := M) (tgt := 39) C dX1_countMattersOf_11 (by decide) rfl rfl (by omega) (by omega) (fun c_11 => absurd c_11 (by omega)) (fun c_11 => ?_)
      refine q_iload_n C dX1_countMattersOf_14 rfl rfl ?_
      refine q_aload_n C dX1_countMattersOf_15 rfl rfl ?_
      refine q_iload C dX1_countMattersOf_16 rfl ?_
      refine q_iload_n C dX1_countMattersOf_18 rfl rfl ?_
      refine q_ci2 C (c_X1_answerOf l S i_5 (by omega) g (by omega)) myX1_answerOf mlX1_75 q_s1 ⟨by decide, by decide⟩ (Nat.le_of_ble_eq_true rfl) dX1_countMattersOf_19 ?_
      refine q_iload_n C dX1_countMattersOf_22 rfl rfl ?_
      refine q_icmp_ne (tgt := 30) C dX1_countMattersOf_23 (by decide)  (fun c_23 => ?_) (fun c_23 => ?_)
      · refine q_iconst (v := 0) C dX1_countMattersOf_30 (by decide) ?_
        refine q_iadd C dX1_countMattersOf_31 ?_
        refine q_istore_n (lv' := [(3, .int ((q_sum (uC_fMo S g a) i_5) + 0)), (0, .ref 1), (1, .int (nI g)), (2, .int a), (4, .int (nI i_5))]) C dX1_countMattersOf_32 rfl (by decide) rfl ?_
        refine q_iinc (v := nI (i_5 + 1)) (lv' := [(4, .int (nI (i_5 + 1))), (3, .int ((q_sum (uC_fMo S g a) i_5) + 0)), (0, .ref 1), (1, .int (nI g)), (2, .int a)]) C dX1_countMattersOf_33 rfl (nI_add _ _) (by decide) rfl ?_
        refine q_goto (tgt := 5) C dX1_countMattersOf_36 (by decide) ?_
        exact q_V_to (ih_5 (i_5 + 1) (by omega)) ⟨rfl, rfl, rfl, q_iv (by simp [q_sum, uC_fMo, c_11, c_23]), rfl, trivial⟩ rfl
      · refine q_iconst (v := 1) C dX1_countMattersOf_26 (by decide) ?_
        refine q_goto (tgt := 31) C dX1_countMattersOf_27 (by decide) ?_
        refine q_iadd C dX1_countMattersOf_31 ?_
        refine q_istore_n (lv' := [(3, .int ((q_sum (uC_fMo S g a) i_5) + 1)), (0, .ref 1), (1, .int (nI g)), (2, .int a), (4, .int (nI i_5))]) C dX1_countMattersOf_32 rfl (by decide) rfl ?_
        refine q_iinc (v := nI (i_5 + 1)) (lv' := [(4, .int (nI (i_5 + 1))), (3, .int ((q_sum (uC_fMo S g a) i_5) + 1)), (0, .ref 1), (1, .int (nI g)), (2, .int a)]) C dX1_countMattersOf_33 rfl (nI_add _ _) (by decide) rfl ?_
        refine q_goto (tgt := 5) C dX1_countMattersOf_36 (by decide) ?_
        exact q_V_to (ih_5 (i_5 + 1) (by omega)) ⟨rfl, rfl, rfl, q_iv (by simp [q_sum, uC_fMo, c_11, c_23]), rfl, trivial⟩ rfl
  exact q_V_to (loop_5 (M - 0) 0 (by omega)) ⟨rfl, rfl, rfl, rfl, rfl, trivial⟩ rfl
theorem c_X1_countAwake (l : Launch) (S : q_St) : q_Fi l yX1_countAwake kX1_countAwake 1 [.ref 1] S (uC_awake S) S := by
  refine q_Fi_of (maxL := 3) rfl (by decide +kernel) (fun ad => Nat.le_of_ble_eq_true rfl) rfl ?_
  intro K C hret
  have C : q_Cx K cX1_countAwake RX1 1 3 := C
  show q_V l K 0 [(0, .ref 1)] [] S
  refine q_iconst (v := 0) C dX1_countAwake_0 (by decide) ?_
  refine q_istore_n (lv' := [(1, .int 0), (0, .ref 1)]) C dX1_countAwake_1 rfl (by decide) rfl ?_
  refine q_iconst (v := 0) C dX1_countAwake_2 (by decide) ?_
  refine q_istore_n (lv' := [(2, .int 0), (1, .int 0), (0, .ref 1)]) C dX1_countAwake_3 rfl (by decide) rfl ?_
  have loop_4 : ∀ (n_4 i_4 : Nat), i_4 + n_4 = 6 → q_V l K 4 [(0, .ref 1), (1, .int (q_sum (uC_fW S) i_4)), (2, .int (nI i_4))] [] S := by
    intro n_4
    induction n_4 with
    | zero =>
      intro i_4 hi_4
      have e_4 : i_4 = 6 := by omega
      refine q_iload_n C dX1_countAwake_4 rfl rfl ?_
      refine q_bipush (v := 6) C dX1_countAwake_5 (by decide) ?_
      refine q_icmp_geN (a := i_4) (b := 6) (tgt := 33) C dX1_countAwake_7 (by decide) rfl rfl (by omega) (by omega) (fun c_7 => ?_) (fun c_7 => absurd c_7 (by omega))
      refine q_iload_n C dX1_countAwake_33 rfl rfl ?_
      exact hret _ _ _ _ dX1_countAwake_34 (by rw [e_4]; rfl) rfl
    | succ n_4 ih_4 =>
      intro i_4 hi_4
      refine q_iload_n C dX1_countAwake_4 rfl rfl ?_
      refine q_bipush (v := 6) C dX1_countAwake_5 (by decide) ?_
      refine q_icmp_geN (a := i_4) (b := 6) (tgt := 33) C dX1_countAwake_7 (by decide) rfl rfl (by omega) (by omega) (fun c_7 => absurd c_7 (by omega)) (fun c_7 => ?_)
      refine q_iload_n C dX1_countAwake_10 rfl rfl ?_
      refine q_aload_n C dX1_countAwake_11 rfl rfl ?_
      refine q_getR C flX1_37 q_s1 rfl dX1_countAwake_12 ?_
      refine q_iload_n C dX1_countAwake_15 rfl rfl ?_
      refine q_zaldN (i := i_4) (x := S 9 i_4) C rfl q_s9 (by omega) (by decide) dX1_countAwake_16 rfl ?_
      refine q_if_eq (tgt := 24) C dX1_countAwake_17 (by decide)  (fun c_17 => ?_) (fun c_17 => ?_)
      · refine q_iconst (v := 0) C dX1_countAwake_24 (by decide) ?_
        refine q_iadd C dX1_countAwake_25 ?_
        refine q_istore_n (lv' := [(1, .int ((q_sum (uC_fW S) i_4) + 0)), (0, .ref 1), (2, .int (nI i_4))]) C dX1_countAwake_26 rfl (by decide) rfl ?_
        refine q_iinc (v := nI (i_4 + 1)) (lv' := [(2, .int (nI (i_4 + 1))), (1, .int ((q_sum (uC_fW S) i_4) + 0)), (0, .ref 1)]) C dX1_countAwake_27 rfl (nI_add _ _) (by decide) rfl ?_
        refine q_goto (tgt := 4) C dX1_countAwake_30 (by decide) ?_
        exact q_V_to (ih_4 (i_4 + 1) (by omega)) ⟨rfl, q_iv (by simp [q_sum, uC_fW, c_7, c_17]), rfl, trivial⟩ rfl
      · refine q_iconst (v := 1) C dX1_countAwake_20 (by decide) ?_
        refine q_goto (tgt := 25) C dX1_countAwake_21 (by decide) ?_
        refine q_iadd C dX1_countAwake_25 ?_
        refine q_istore_n (lv' := [(1, .int ((q_sum (uC_fW S) i_4) + 1)), (0, .ref 1), (2, .int (nI i_4))]) C dX1_countAwake_26 rfl (by decide) rfl ?_
        refine q_iinc (v := nI (i_4 + 1)) (lv' := [(2, .int (nI (i_4 + 1))), (1, .int ((q_sum (uC_fW S) i_4) + 1)), (0, .ref 1)]) C dX1_countAwake_27 rfl (nI_add _ _) (by decide) rfl ?_
        refine q_goto (tgt := 4) C dX1_countAwake_30 (by decide) ?_
        exact q_V_to (ih_4 (i_4 + 1) (by omega)) ⟨rfl, q_iv (by simp [q_sum, uC_fW, c_7, c_17]), rfl, trivial⟩ rfl
  exact q_V_to (loop_4 (6 - 0) 0 (by omega)) ⟨rfl, rfl, rfl, trivial⟩ rfl
theorem c_X1_allDoubt (l : Launch) (S : q_St) : q_Fi l yX1_allDoubt kX1_allDoubt 1 [.ref 1] S (uC_allDoubt S) S := by
  refine q_Fi_of (maxL := 3) rfl (by decide +kernel) (fun ad => Nat.le_of_ble_eq_true rfl) rfl ?_
  intro K C hret
  have C : q_Cx K cX1_allDoubt RX1 1 3 := C
  show q_V l K 0 [(0, .ref 1)] [] S
  refine q_iconst (v := 0) C dX1_allDoubt_0 (by decide) ?_
  refine q_istore_n (lv' := [(1, .int 0), (0, .ref 1)]) C dX1_allDoubt_1 rfl (by decide) rfl ?_
  refine q_iconst (v := 0) C dX1_allDoubt_2 (by decide) ?_
  refine q_istore_n (lv' := [(2, .int 0), (1, .int 0), (0, .ref 1)]) C dX1_allDoubt_3 rfl (by decide) rfl ?_
  have loop_4 : ∀ (n_4 i_4 : Nat), i_4 + n_4 = 6 → q_V l K 4 [(0, .ref 1), (1, .int (q_sum (S 8) i_4)), (2, .int (nI i_4))] [] S := by
    intro n_4
    induction n_4 with
    | zero =>
      intro i_4 hi_4
      have e_4 : i_4 = 6 := by omega
      refine q_iload_n C dX1_allDoubt_4 rfl rfl ?_
      refine q_bipush (v := 6) C dX1_allDoubt_5 (by decide) ?_
      refine q_icmp_geN (a := i_4) (b := 6) (tgt := 25) C dX1_allDoubt_7 (by decide) rfl rfl (by omega) (by omega) (fun c_7 => ?_) (fun c_7 => absurd c_7 (by omega))
      refine q_iload_n C dX1_allDoubt_25 rfl rfl ?_
      exact hret _ _ _ _ dX1_allDoubt_26 (by rw [e_4]; rfl) rfl
    | succ n_4 ih_4 =>
      intro i_4 hi_4
      refine q_iload_n C dX1_allDoubt_4 rfl rfl ?_
      refine q_bipush (v := 6) C dX1_allDoubt_5 (by decide) ?_
      refine q_icmp_geN (a := i_4) (b := 6) (tgt := 25) C dX1_allDoubt_7 (by decide) rfl rfl (by omega) (by omega) (fun c_7 => absurd c_7 (by omega)) (fun c_7 => ?_)
      refine q_iload_n C dX1_allDoubt_10 rfl rfl ?_
      refine q_aload_n C dX1_allDoubt_11 rfl rfl ?_
      refine q_getR C flX1_34 q_s1 rfl dX1_allDoubt_12 ?_
      refine q_iload_n C dX1_allDoubt_15 rfl rfl ?_
      refine q_ialdN (i := i_4) (x := S 8 i_4) C rfl q_s8 (by omega) (by decide) dX1_allDoubt_16 rfl ?_
      refine q_iadd C dX1_allDoubt_17 ?_
      refine q_istore_n (lv' := [(1, .int ((q_sum (S 8) i_4) + (S 8 i_4))), (0, .ref 1), (2, .int (nI i_4))]) C dX1_allDoubt_18 rfl (by decide) rfl ?_
      refine q_iinc (v := nI (i_4 + 1)) (lv' := [(2, .int (nI (i_4 + 1))), (1, .int ((q_sum (S 8) i_4) + (S 8 i_4))), (0, .ref 1)]) C dX1_allDoubt_19 rfl (nI_add _ _) (by decide) rfl ?_
      refine q_goto (tgt := 4) C dX1_allDoubt_22 (by decide) ?_
      exact q_V_to (ih_4 (i_4 + 1) (by omega)) ⟨rfl, q_iv (by simp [q_sum, q_sum, c_7]), rfl, trivial⟩ rfl
  exact q_V_to (loop_4 (6 - 0) 0 (by omega)) ⟨rfl, rfl, rfl, trivial⟩ rfl
theorem c_X1_coinsByGuilds (l : Launch) (S : q_St) : q_Fi l yX1_coinsByGuilds kX1_coinsByGuilds 1 [.ref 1] S (uC_coins S) S := by
  refine q_Fi_of (maxL := 3) rfl (by decide +kernel) (fun ad => Nat.le_of_ble_eq_true rfl) rfl ?_
  intro K C hret
  have C : q_Cx K cX1_coinsByGuilds RX1 1 3 := C
  show q_V l K 0 [(0, .ref 1)] [] S
  refine q_iconst (v := 0) C dX1_coinsByGuilds_0 (by decide) ?_
  refine q_istore_n (lv' := [(1, .int 0), (0, .ref 1)]) C dX1_coinsByGuilds_1 rfl (by decide) rfl ?_
  refine q_iconst (v := 0) C dX1_coinsByGuilds_2 (by decide) ?_
  refine q_istore_n (lv' := [(2, .int 0), (1, .int 0), (0, .ref 1)]) C dX1_coinsByGuilds_3 rfl (by decide) rfl ?_
  have loop_4 : ∀ (n_4 i_4 : Nat), i_4 + n_4 = 6 → q_V l K 4 [(0, .ref 1), (1, .int (q_sum (S 7) i_4)), (2, .int (nI i_4))] [] S := by
    intro n_4
    induction n_4 with
    | zero =>
      intro i_4 hi_4
      have e_4 : i_4 = 6 := by omega
      refine q_iload_n C dX1_coinsByGuilds_4 rfl rfl ?_
      refine q_bipush (v := 6) C dX1_coinsByGuilds_5 (by decide) ?_
      refine q_icmp_geN (a := i_4) (b := 6) (tgt := 25) C dX1_coinsByGuilds_7 (by decide) rfl rfl (by omega) (by omega) (fun c_7 => ?_) (fun c_7 => absurd c_7 (by omega))
      refine q_iload_n C dX1_coinsByGuilds_25 rfl rfl ?_
      exact hret _ _ _ _ dX1_coinsByGuilds_26 (by rw [e_4]; rfl) rfl
    | succ n_4 ih_4 =>
      intro i_4 hi_4
      refine q_iload_n C dX1_coinsByGuilds_4 rfl rfl ?_
      refine q_bipush (v := 6) C dX1_coinsByGuilds_5 (by decide) ?_
      refine q_icmp_geN (a := i_4) (b := 6) (tgt := 25) C dX1_coinsByGuilds_7 (by decide) rfl rfl (by omega) (by omega) (fun c_7 => absurd c_7 (by omega)) (fun c_7 => ?_)
      refine q_iload_n C dX1_coinsByGuilds_10 rfl rfl ?_
      refine q_aload_n C dX1_coinsByGuilds_11 rfl rfl ?_
      refine q_getR C flX1_31 q_s1 rfl dX1_coinsByGuilds_12 ?_
      refine q_iload_n C dX1_coinsByGuilds_15 rfl rfl ?_
      refine q_ialdN (i := i_4) (x := S 7 i_4) C rfl q_s7 (by omega) (by decide) dX1_coinsByGuilds_16 rfl ?_
      refine q_iadd C dX1_coinsByGuilds_17 ?_
      refine q_istore_n (lv' := [(1, .int ((q_sum (S 7) i_4) + (S 7 i_4))), (0, .ref 1), (2, .int (nI i_4))]) C dX1_coinsByGuilds_18 rfl (by decide) rfl ?_
      refine q_iinc (v := nI (i_4 + 1)) (lv' := [(2, .int (nI (i_4 + 1))), (1, .int ((q_sum (S 7) i_4) + (S 7 i_4))), (0, .ref 1)]) C dX1_coinsByGuilds_19 rfl (nI_add _ _) (by decide) rfl ?_
      refine q_goto (tgt := 4) C dX1_coinsByGuilds_22 (by decide) ?_
      exact q_V_to (ih_4 (i_4 + 1) (by omega)) ⟨rfl, q_iv (by simp [q_sum, q_sum, c_7]), rfl, trivial⟩ rfl
  exact q_V_to (loop_4 (6 - 0) 0 (by omega)) ⟨rfl, rfl, rfl, trivial⟩ rfl
