theorem c_J0_coder_0 (l : Launch) (S : q_St) : q_Fi l yJ0_coder_7d493 kJ0_coder_7d493 1 [.ref 200] S 0 S := by
  refine q_Fi_of (maxL := 1) rfl (by decide +kernel) (fun ad => Nat.le_of_ble_eq_true rfl) rfl ?_
  intro K C hret
  have C : q_Cx K cJ0_coder_7d493 RJ0 1 1 := C
  show q_V l K 0 [(0, .ref 200)] [] S
  refine q_sCompact C flJ0_38 dJ0_coder_7d493_0 ?_
  refine q_if_eq (tgt := 13) C dJ0_coder_7d493_3 (by decide) (fun h9 => absurd h9 (by decide)) (fun _ => ?_)
  refine q_aload_n C dJ0_coder_7d493_6 rfl rfl ?_
  refine q_sCoder (i := 0) C (by decide) rfl flJ0_15 dJ0_coder_7d493_7 ?_
  refine q_goto (tgt := 14) C dJ0_coder_7d493_10 (by decide) ?_
  exact hret _ _ _ _ dJ0_coder_7d493_14 rfl rfl
theorem c_J0_isLatin1_0 (l : Launch) (S : q_St) : q_Fi l yJ0_isLatin1_aae02 kJ0_isLatin1_aae02 1 [.ref 200] S 1 S := by
  refine q_Fi_of (maxL := 1) rfl (by decide +kernel) (fun ad => Nat.le_of_ble_eq_true rfl) rfl ?_
  intro K C hret
  have C : q_Cx K cJ0_isLatin1_aae02 RJ0 1 1 := C
  show q_V l K 0 [(0, .ref 200)] [] S
  refine q_sCompact C flJ0_38 dJ0_isLatin1_aae02_0 ?_
  refine q_if_eq (tgt := 17) C dJ0_isLatin1_aae02_3 (by decide) (fun h9 => absurd h9 (by decide)) (fun _ => ?_)
  refine q_aload_n C dJ0_isLatin1_aae02_6 rfl rfl ?_
  refine q_sCoder (i := 0) C (by decide) rfl flJ0_15 dJ0_isLatin1_aae02_7 ?_
  refine q_if_ne (tgt := 17) C dJ0_isLatin1_aae02_10 (by decide) (fun h9 => absurd h9 (by decide)) (fun _ => ?_)
  refine q_iconst (v := 1) C dJ0_isLatin1_aae02_13 (by decide) ?_
  refine q_goto (tgt := 18) C dJ0_isLatin1_aae02_14 (by decide) ?_
  exact hret _ _ _ _ dJ0_isLatin1_aae02_18 rfl rfl
theorem c_J0_length_0 (l : Launch) (S : q_St) : q_Fi l yJ0_length_8abf5 kJ0_length_8abf5 2 [.ref 200] S (nI 11) S := by
  refine q_Fi_of (maxL := 1) rfl (by decide +kernel) (fun ad => Nat.le_of_ble_eq_true rfl) rfl ?_
  intro K C hret
  have C : q_Cx K cJ0_length_8abf5 RJ0 2 1 := C
  show q_V l K 0 [(0, .ref 200)] [] S
  refine q_aload_n C dJ0_length_8abf5_0 rfl rfl ?_
  refine q_sValue (i := 0) C (by decide) rfl flJ0_9 dJ0_length_8abf5_1 ?_
  refine q_sLen (i := 0) (n := 11) C (by decide) rfl rfl dJ0_length_8abf5_4 ?_
  refine q_aload_n C dJ0_length_8abf5_5 rfl rfl ?_
  refine q_cj0 (i := 0) C (c_J0_coder_0 l S) myJ0_coder_7d493 rfl mlJ0_335 (by decide) rfl ⟨by decide, by decide⟩ (Nat.le_of_ble_eq_true rfl) dJ0_length_8abf5_6 ?_
  refine q_ishr C (v := nI 11) (by decide) dJ0_length_8abf5_9 ?_
  exact hret _ _ _ _ dJ0_length_8abf5_10 rfl rfl
theorem c_J0_coder_2 (l : Launch) (S : q_St) : q_Fi l yJ0_coder_7d493 kJ0_coder_7d493 1 [.ref 202] S 0 S := by
  refine q_Fi_of (maxL := 1) rfl (by decide +kernel) (fun ad => Nat.le_of_ble_eq_true rfl) rfl ?_
  intro K C hret
  have C : q_Cx K cJ0_coder_7d493 RJ0 1 1 := C
  show q_V l K 0 [(0, .ref 202)] [] S
  refine q_sCompact C flJ0_38 dJ0_coder_7d493_0 ?_
  refine q_if_eq (tgt := 13) C dJ0_coder_7d493_3 (by decide) (fun h9 => absurd h9 (by decide)) (fun _ => ?_)
  refine q_aload_n C dJ0_coder_7d493_6 rfl rfl ?_
  refine q_sCoder (i := 2) C (by decide) rfl flJ0_15 dJ0_coder_7d493_7 ?_
  refine q_goto (tgt := 14) C dJ0_coder_7d493_10 (by decide) ?_
  exact hret _ _ _ _ dJ0_coder_7d493_14 rfl rfl
theorem c_J0_isLatin1_2 (l : Launch) (S : q_St) : q_Fi l yJ0_isLatin1_aae02 kJ0_isLatin1_aae02 1 [.ref 202] S 1 S := by
  refine q_Fi_of (maxL := 1) rfl (by decide +kernel) (fun ad => Nat.le_of_ble_eq_true rfl) rfl ?_
  intro K C hret
  have C : q_Cx K cJ0_isLatin1_aae02 RJ0 1 1 := C
  show q_V l K 0 [(0, .ref 202)] [] S
  refine q_sCompact C flJ0_38 dJ0_isLatin1_aae02_0 ?_
  refine q_if_eq (tgt := 17) C dJ0_isLatin1_aae02_3 (by decide) (fun h9 => absurd h9 (by decide)) (fun _ => ?_)
  refine q_aload_n C dJ0_isLatin1_aae02_6 rfl rfl ?_
  refine q_sCoder (i := 2) C (by decide) rfl flJ0_15 dJ0_isLatin1_aae02_7 ?_
  refine q_if_ne (tgt := 17) C dJ0_isLatin1_aae02_10 (by decide) (fun h9 => absurd h9 (by decide)) (fun _ => ?_)
  refine q_iconst (v := 1) C dJ0_isLatin1_aae02_13 (by decide) ?_
  refine q_goto (tgt := 18) C dJ0_isLatin1_aae02_14 (by decide) ?_
  exact hret _ _ _ _ dJ0_isLatin1_aae02_18 rfl rfl
theorem c_J0_length_2 (l : Launch) (S : q_St) : q_Fi l yJ0_length_8abf5 kJ0_length_8abf5 2 [.ref 202] S (nI 3) S := by
  refine q_Fi_of (maxL := 1) rfl (by decide +kernel) (fun ad => Nat.le_of_ble_eq_true rfl) rfl ?_
  intro K C hret
  have C : q_Cx K cJ0_length_8abf5 RJ0 2 1 := C
  show q_V l K 0 [(0, .ref 202)] [] S
  refine q_aload_n C dJ0_length_8abf5_0 rfl rfl ?_
  refine q_sValue (i := 2) C (by decide) rfl flJ0_9 dJ0_length_8abf5_1 ?_
  refine q_sLen (i := 2) (n := 3) C (by decide) rfl rfl dJ0_length_8abf5_4 ?_
  refine q_aload_n C dJ0_length_8abf5_5 rfl rfl ?_
  refine q_cj0 (i := 2) C (c_J0_coder_2 l S) myJ0_coder_7d493 rfl mlJ0_335 (by decide) rfl ⟨by decide, by decide⟩ (Nat.le_of_ble_eq_true rfl) dJ0_length_8abf5_6 ?_
  refine q_ishr C (v := nI 3) (by decide) dJ0_length_8abf5_9 ?_
  exact hret _ _ _ _ dJ0_length_8abf5_10 rfl rfl
theorem c_J0_coder_6 (l : Launch) (S : q_St) : q_Fi l yJ0_coder_7d493 kJ0_coder_7d493 1 [.ref 206] S 0 S := by
  refine q_Fi_of (maxL := 1) rfl (by decide +kernel) (fun ad => Nat.le_of_ble_eq_true rfl) rfl ?_
  intro K C hret
  have C : q_Cx K cJ0_coder_7d493 RJ0 1 1 := C
  show q_V l K 0 [(0, .ref 206)] [] S
  refine q_sCompact C flJ0_38 dJ0_coder_7d493_0 ?_
  refine q_if_eq (tgt := 13) C dJ0_coder_7d493_3 (by decide) (fun h9 => absurd h9 (by decide)) (fun _ => ?_)
  refine q_aload_n C dJ0_coder_7d493_6 rfl rfl ?_
  refine q_sCoder (i := 6) C (by decide) rfl flJ0_15 dJ0_coder_7d493_7 ?_
  refine q_goto (tgt := 14) C dJ0_coder_7d493_10 (by decide) ?_
  exact hret _ _ _ _ dJ0_coder_7d493_14 rfl rfl
theorem c_J0_isLatin1_6 (l : Launch) (S : q_St) : q_Fi l yJ0_isLatin1_aae02 kJ0_isLatin1_aae02 1 [.ref 206] S 1 S := by
  refine q_Fi_of (maxL := 1) rfl (by decide +kernel) (fun ad => Nat.le_of_ble_eq_true rfl) rfl ?_
  intro K C hret
  have C : q_Cx K cJ0_isLatin1_aae02 RJ0 1 1 := C
  show q_V l K 0 [(0, .ref 206)] [] S
  refine q_sCompact C flJ0_38 dJ0_isLatin1_aae02_0 ?_
  refine q_if_eq (tgt := 17) C dJ0_isLatin1_aae02_3 (by decide) (fun h9 => absurd h9 (by decide)) (fun _ => ?_)
  refine q_aload_n C dJ0_isLatin1_aae02_6 rfl rfl ?_
  refine q_sCoder (i := 6) C (by decide) rfl flJ0_15 dJ0_isLatin1_aae02_7 ?_
  refine q_if_ne (tgt := 17) C dJ0_isLatin1_aae02_10 (by decide) (fun h9 => absurd h9 (by decide)) (fun _ => ?_)
  refine q_iconst (v := 1) C dJ0_isLatin1_aae02_13 (by decide) ?_
  refine q_goto (tgt := 18) C dJ0_isLatin1_aae02_14 (by decide) ?_
  exact hret _ _ _ _ dJ0_isLatin1_aae02_18 rfl rfl
theorem c_J0_length_6 (l : Launch) (S : q_St) : q_Fi l yJ0_length_8abf5 kJ0_length_8abf5 2 [.ref 206] S (nI 5) S := by
  refine q_Fi_of (maxL := 1) rfl (by decide +kernel) (fun ad => Nat.le_of_ble_eq_true rfl) rfl ?_
  intro K C hret
  have C : q_Cx K cJ0_length_8abf5 RJ0 2 1 := C
  show q_V l K 0 [(0, .ref 206)] [] S
  refine q_aload_n C dJ0_length_8abf5_0 rfl rfl ?_
  refine q_sValue (i := 6) C (by decide) rfl flJ0_9 dJ0_length_8abf5_1 ?_
  refine q_sLen (i := 6) (n := 5) C (by decide) rfl rfl dJ0_length_8abf5_4 ?_
  refine q_aload_n C dJ0_length_8abf5_5 rfl rfl ?_
  refine q_cj0 (i := 6) C (c_J0_coder_6 l S) myJ0_coder_7d493 rfl mlJ0_335 (by decide) rfl ⟨by decide, by decide⟩ (Nat.le_of_ble_eq_true rfl) dJ0_length_8abf5_6 ?_
  refine q_ishr C (v := nI 5) (by decide) dJ0_length_8abf5_9 ?_
  exact hret _ _ _ _ dJ0_length_8abf5_10 rfl rfl
theorem c_J1_canEncode (l : Launch) (S : q_St) (c : Int32) : q_Fi l yJ1_canEncode_9a6ad kJ1_canEncode_9a6ad 1 [.int c] S (if ¬ (c < 0 ∨ 255 < c) then 1 else 0) S := by
  refine q_Fi_of (maxL := 1) rfl (by decide +kernel) (fun ad => Nat.le_of_ble_eq_true rfl) (by split <;> rfl) ?_
  intro K C hret
  have C : q_Cx K cJ1_canEncode_9a6ad RJ1 1 1 := C
  show q_V l K 0 [(0, .int c)] [] S
  refine q_iload_n C dJ1_canEncode_9a6ad_0 rfl rfl ?_
  refine q_if_lt (tgt := 15) C dJ1_canEncode_9a6ad_1 (by decide)  (fun c_1 => ?_) (fun c_1 => ?_)
  · refine q_iconst (v := 0) C dJ1_canEncode_9a6ad_15 (by decide) ?_
    exact hret _ _ _ _ dJ1_canEncode_9a6ad_16 (by simp [c_1, Int32.not_le.mpr c_1, if_pos c_1]) rfl
  · refine q_iload_n C dJ1_canEncode_9a6ad_4 rfl rfl ?_
    refine q_sipush (v := 255) C dJ1_canEncode_9a6ad_5 (by decide) ?_
    refine q_icmp_gt (tgt := 15) C dJ1_canEncode_9a6ad_8 (by decide)  (fun c_8 => ?_) (fun c_8 => ?_)
    · refine q_iconst (v := 0) C dJ1_canEncode_9a6ad_15 (by decide) ?_
      exact hret _ _ _ _ dJ1_canEncode_9a6ad_16 (by simp [c_1, Int32.not_lt.mpr c_1, if_neg (Int32.not_lt.mpr c_1), c_8, Int32.not_le.mpr c_8, if_pos c_8]) rfl
    · refine q_iconst (v := 1) C dJ1_canEncode_9a6ad_11 (by decide) ?_
      refine q_goto (tgt := 16) C dJ1_canEncode_9a6ad_12 (by decide) ?_
      exact hret _ _ _ _ dJ1_canEncode_9a6ad_16 (by simp [c_1, Int32.not_lt.mpr c_1, if_neg (Int32.not_lt.mpr c_1), c_8, Int32.not_lt.mpr c_8, if_neg (Int32.not_lt.mpr c_8)]) rfl
theorem c_J1_indexOfChar (l : Launch) (S : q_St) (c : Int32) : q_Fi l yJ1_indexOfChar_4cfef kJ1_indexOfChar_4cfef 1 [.ref 230, .int c, .int 0, .int 11] S (q_find (fun j => decide ((q_byt.getD 0 []).getD j 0 = c.toInt8.toInt32)) 11 0) S := by
  refine q_Fi_of (maxL := 6) rfl (by decide +kernel) (fun ad => Nat.le_of_ble_eq_true rfl) rfl ?_
  intro K C hret
  have C : q_Cx K cJ1_indexOfChar_4cfef RJ1 1 6 := C
  show q_V l K 0 [(0, .ref 230), (1, .int c), (2, .int 0), (3, .int 11)] [] S
  refine q_iload_n C dJ1_indexOfChar_4cfef_0 rfl rfl ?_
  refine q_i2b C rfl dJ1_indexOfChar_4cfef_1 ?_
  refine q_istore (lv' := [(4, .int c.toInt8.toInt32), (0, .ref 230), (1, .int c), (2, .int 0), (3, .int 11)]) C dJ1_indexOfChar_4cfef_2 (by decide) rfl ?_
  refine q_iload_n C dJ1_indexOfChar_4cfef_4 rfl rfl ?_
  refine q_istore (lv' := [(5, .int 0), (4, .int c.toInt8.toInt32), (0, .ref 230), (1, .int c), (2, .int 0), (3, .int 11)]) C dJ1_indexOfChar_4cfef_5 (by decide) rfl ?_
  have loop_7 : ∀ (n_7 i_7 : Nat), i_7 + n_7 = 11 → q_find (fun j => decide ((q_byt.getD 0 []).getD j 0 = c.toInt8.toInt32)) n_7 i_7 = q_find (fun j => decide ((q_byt.getD 0 []).getD j 0 = c.toInt8.toInt32)) 11 0 → q_V l K 7 [(0, .ref 230), (1, .int c), (2, .int 0), (3, .int 11), (4, .int c.toInt8.toInt32), (5, .int (nI i_7))] [] S := by
    intro n_7
    induction n_7 with
    | zero =>
      intro i_7 hi_7 hr_7
      have e_7 : i_7 = 11 := by omega
      refine q_iload C dJ1_indexOfChar_4cfef_7 rfl ?_
      refine q_iload_n C dJ1_indexOfChar_4cfef_9 rfl rfl ?_
      refine q_icmp_geN (a := i_7) (b := 11) (tgt := 31) C dJ1_indexOfChar_4cfef_10 (by decide) rfl rfl (by omega) (by omega) (fun c_10 => ?_) (fun c_10 => absurd c_10 (by omega))
      refine q_iconst (v := (-1)) C dJ1_indexOfChar_4cfef_31 (by decide) ?_
      exact hret _ _ _ _ dJ1_indexOfChar_4cfef_32 (by rw [← hr_7]; rfl) rfl
    | succ n_7 ih_7 =>
      intro i_7 hi_7 hr_7
      refine q_iload C dJ1_indexOfChar_4cfef_7 rfl ?_
      refine q_iload_n C dJ1_indexOfChar_4cfef_9 rfl rfl ?_
      refine q_icmp_geN (a := i_7) (b := 11) (tgt := 31) C dJ1_indexOfChar_4cfef_10 (by decide) rfl rfl (by omega) (by omega) (fun c_10 => absurd c_10 (by omega)) (fun c_10 => ?_)
      refine q_aload_n C dJ1_indexOfChar_4cfef_13 rfl rfl ?_
      refine q_iload C dJ1_indexOfChar_4cfef_14 rfl ?_
      refine q_sByte (i := 0) (n := 11) (j := i_7) (x := (q_byt.getD 0 []).getD i_7 0) C rfl (by decide) rfl rfl (by omega) (by decide) rfl dJ1_indexOfChar_4cfef_16 ?_
      refine q_iload C dJ1_indexOfChar_4cfef_17 rfl ?_
      refine q_icmp_ne (tgt := 25) C dJ1_indexOfChar_4cfef_19 (by decide)  (fun c_19 => ?_) (fun c_19 => ?_)
      · refine q_iinc (v := nI (i_7 + 1)) (lv' := [(5, .int (nI (i_7 + 1))), (0, .ref 230), (1, .int c), (2, .int 0), (3, .int 11), (4, .int c.toInt8.toInt32)]) C dJ1_indexOfChar_4cfef_25 rfl (nI_add _ _) (by decide) rfl ?_
        refine q_goto (tgt := 7) C dJ1_indexOfChar_4cfef_28 (by decide) ?_
        exact q_V_to (ih_7 (i_7 + 1) (by omega) (by rw [← hr_7, q_find, if_neg (by simp only [decide_eq_true_eq]; exact c_19)])) ⟨rfl, rfl, rfl, rfl, rfl, rfl, trivial⟩ rfl
      · refine q_iload C dJ1_indexOfChar_4cfef_22 rfl ?_
        exact hret _ _ _ _ dJ1_indexOfChar_4cfef_24 (by rw [← hr_7, q_find, if_pos (by simp only [decide_eq_true_eq]; exact c_19)]) rfl
  exact q_V_to (loop_7 (11 - 0) 0 (by omega) rfl) ⟨rfl, rfl, rfl, rfl, rfl, rfl, trivial⟩ rfl
theorem c_J1_indexOf (l : Launch) (S : q_St) (c : Int32) : q_Fi l yJ1_indexOf_4cfef kJ1_indexOf_4cfef 2 [.ref 230, .int c, .int 0, .int 11] S (uT_ix c) S := by
  refine q_Fi_of (maxL := 4) rfl (by decide +kernel) (fun ad => Nat.le_of_ble_eq_true rfl) rfl ?_
  intro K C hret
  have C : q_Cx K cJ1_indexOf_4cfef RJ1 2 4 := C
  show q_V l K 0 [(0, .ref 230), (1, .int c), (2, .int 0), (3, .int 11)] [] S
  refine q_iload_n C dJ1_indexOf_4cfef_0 rfl rfl ?_
  by_cases hcan : (c < 0 ∨ 255 < c)
  · refine q_sji1 C (q_Fi.cv (if_neg (fun h => h hcan)) (c_J1_canEncode l S c)) msJ1_canEncode_9a6ad mlJ1_88 ⟨by decide, by decide⟩ (Nat.le_of_ble_eq_true rfl) dJ1_indexOf_4cfef_1 ?_
    refine q_if_ne (tgt := 9) C dJ1_indexOf_4cfef_4 (by decide) (fun h9 => absurd h9 (by decide)) (fun _ => ?_)
    refine q_iconst (v := (-1)) C dJ1_indexOf_4cfef_7 (by decide) ?_
    exact hret _ _ _ _ dJ1_indexOf_4cfef_8 (if_pos hcan).symm rfl
  · refine q_sji1 C (q_Fi.cv (if_pos hcan) (c_J1_canEncode l S c)) msJ1_canEncode_9a6ad mlJ1_88 ⟨by decide, by decide⟩ (Nat.le_of_ble_eq_true rfl) dJ1_indexOf_4cfef_1 ?_
    refine q_if_ne (tgt := 9) C dJ1_indexOf_4cfef_4 (by decide) (fun _ => ?_) (fun h9 => absurd h9 (by decide))
    refine q_iload_n C dJ1_indexOf_4cfef_9 rfl rfl ?_
    refine q_iconst (v := 0) C dJ1_indexOf_4cfef_10 (by decide) ?_
    refine q_max C mlJ1_92 (by decide) (Nat.le_of_ble_eq_true rfl) dJ1_indexOf_4cfef_11 ?_
    refine q_top (y := 0) (by decide) ?_
    refine q_istore_n (lv' := [(2, .int 0), (0, .ref 230), (1, .int c), (3, .int 11)]) C dJ1_indexOf_4cfef_14 rfl (by decide) rfl ?_
    refine q_iload_n C dJ1_indexOf_4cfef_15 rfl rfl ?_
    refine q_aload_n C dJ1_indexOf_4cfef_16 rfl rfl ?_
    refine q_sLen (i := 0) (n := 11) C (by decide) rfl rfl dJ1_indexOf_4cfef_17 ?_
    refine q_min C mlJ1_38 (by decide) (Nat.le_of_ble_eq_true rfl) dJ1_indexOf_4cfef_18 ?_
    refine q_top (y := 11) (by decide) ?_
    refine q_istore_n (lv' := [(3, .int 11), (2, .int 0), (0, .ref 230), (1, .int c)]) C dJ1_indexOf_4cfef_21 rfl (by decide) rfl ?_
    refine q_iload_n C dJ1_indexOf_4cfef_22 rfl rfl ?_
    refine q_iload_n C dJ1_indexOf_4cfef_23 rfl rfl ?_
    refine q_icmp_lt (tgt := 29) C dJ1_indexOf_4cfef_24 (by decide) (fun _ => ?_) (fun h9 => absurd h9 (by decide))
    refine q_aload_n C dJ1_indexOf_4cfef_29 rfl rfl ?_
    refine q_iload_n C dJ1_indexOf_4cfef_30 rfl rfl ?_
    refine q_iload_n C dJ1_indexOf_4cfef_31 rfl rfl ?_
    refine q_iload_n C dJ1_indexOf_4cfef_32 rfl rfl ?_
    refine q_sji4 C (c_J1_indexOfChar l S c) msJ1_indexOfChar_4cfef mlJ1_95 ⟨by decide, by decide⟩ (Nat.le_of_ble_eq_true rfl) dJ1_indexOf_4cfef_33 ?_
    exact hret _ _ _ _ dJ1_indexOf_4cfef_36 (if_neg hcan).symm rfl
theorem c_J0_indexOf2 (l : Launch) (S : q_St) (c : Int32) : q_Fi l yJ0_indexOf_7cf53 kJ0_indexOf_7cf53 3 [.ref 200, .int c, .int 0] S (uT_ix c) S := by
  refine q_Fi_of (maxL := 3) rfl (by decide +kernel) (fun ad => Nat.le_of_ble_eq_true rfl) rfl ?_
  intro K C hret
  have C : q_Cx K cJ0_indexOf_7cf53 RJ0 3 3 := C
  show q_V l K 0 [(0, .ref 200), (1, .int c), (2, .int 0)] [] S
  refine q_aload_n C dJ0_indexOf_7cf53_0 rfl rfl ?_
  refine q_cj0 (i := 0) C (c_J0_isLatin1_0 l S) myJ0_isLatin1_aae02 rfl mlJ0_492 (by decide) rfl ⟨by decide, by decide⟩ (Nat.le_of_ble_eq_true rfl) dJ0_indexOf_7cf53_1 ?_
  refine q_if_eq (tgt := 23) C dJ0_indexOf_7cf53_4 (by decide) (fun h9 => absurd h9 (by decide)) (fun _ => ?_)
  refine q_aload_n C dJ0_indexOf_7cf53_7 rfl rfl ?_
  refine q_sValue (i := 0) C (by decide) rfl flJ0_9 dJ0_indexOf_7cf53_8 ?_
  refine q_iload_n C dJ0_indexOf_7cf53_11 rfl rfl ?_
  refine q_iload_n C dJ0_indexOf_7cf53_12 rfl rfl ?_
  refine q_aload_n C dJ0_indexOf_7cf53_13 rfl rfl ?_
  refine q_cj0 (i := 0) C (c_J0_length_0 l S) myJ0_length_8abf5 rfl mlJ0_505 (by decide) rfl ⟨by decide, by decide⟩ (Nat.le_of_ble_eq_true rfl) dJ0_indexOf_7cf53_14 ?_
  refine q_top (y := 11) (by decide) ?_
  refine q_sji4 C (c_J1_indexOf l S c) msJ1_indexOf_4cfef mlJ0_637 ⟨by decide, by decide⟩ (Nat.le_of_ble_eq_true rfl) dJ0_indexOf_7cf53_17 ?_
  refine q_goto (tgt := 36) C dJ0_indexOf_7cf53_20 (by decide) ?_
  exact hret _ _ _ _ dJ0_indexOf_7cf53_36 rfl rfl
theorem c_J0_indexOf (l : Launch) (S : q_St) (c : Int32) : q_Fi l yJ0_indexOf_0f7a4 kJ0_indexOf_0f7a4 4 [.ref 200, .int c] S (uT_ix c) S := by
  refine q_Fi_of (maxL := 2) rfl (by decide +kernel) (fun ad => Nat.le_of_ble_eq_true rfl) rfl ?_
  intro K C hret
  have C : q_Cx K cJ0_indexOf_0f7a4 RJ0 4 2 := C
  show q_V l K 0 [(0, .ref 200), (1, .int c)] [] S
  refine q_aload_n C dJ0_indexOf_0f7a4_0 rfl rfl ?_
  refine q_iload_n C dJ0_indexOf_0f7a4_1 rfl rfl ?_
  refine q_iconst (v := 0) C dJ0_indexOf_0f7a4_2 (by decide) ?_
  refine q_cj2 (i := 0) C (c_J0_indexOf2 l S c) myJ0_indexOf_7cf53 rfl mlJ0_633 (by decide) rfl ⟨by decide, by decide⟩ (Nat.le_of_ble_eq_true rfl) dJ0_indexOf_0f7a4_3 ?_
  exact hret _ _ _ _ dJ0_indexOf_0f7a4_6 rfl rfl

theorem c_J3_checkIndex (l : Launch) (S : q_St) (j n : Nat) (hj : j < n) (hn : n < 100) (v : Value) (hv : v = .null ∨ v = .ref 299) : q_Fi l yJ3_checkIndex_8e157 kJ3_checkIndex_8e157 1 [.int (nI j), .int (nI n), v] S (nI j) S := by
  refine q_Fi_of (maxL := 3) rfl (by decide +kernel) (fun ad => by rcases hv with rfl | rfl <;> exact Nat.le_of_ble_eq_true rfl) rfl ?_
  intro K C hret
  have C : q_Cx K cJ3_checkIndex_8e157 RJ3 1 3 := C
  have e9 : lv_args 0 [.int (nI j), .int (nI n), v] = [(0, .int (nI j)), (1, .int (nI n)), (2, v)] := rfl
  rw [e9]
  refine q_iload_n C dJ3_checkIndex_8e157_0 rfl rfl ?_
  refine q_if_ltN (a := j) (tgt := 9) C dJ3_checkIndex_8e157_1 (by decide) rfl (by omega) (fun h => h.elim) (fun _ => ?_)
  refine q_iload_n C dJ3_checkIndex_8e157_4 rfl rfl ?_
  refine q_iload_n C dJ3_checkIndex_8e157_5 rfl rfl ?_
  refine q_icmp_ltN (a := j) (b := n) (tgt := 16) C dJ3_checkIndex_8e157_6 (by decide) rfl rfl (by omega) (by omega) (fun _ => ?_) (fun h => absurd h (by omega))
  refine q_iload_n C dJ3_checkIndex_8e157_16 rfl rfl ?_
  exact hret _ _ _ _ dJ3_checkIndex_8e157_17 rfl rfl
theorem c_J0_checkIndex (l : Launch) (S : q_St) (j n : Nat) (hj : j < n) (hn : n < 100) : q_Fv l yJ0_checkIndex_df160 kJ0_checkIndex_df160 2 [.int (nI j), .int (nI n)] S S := by
  refine q_Fv_of (maxL := 2) rfl (by decide +kernel) (fun ad => Nat.le_of_ble_eq_true rfl) ?_
  intro K C hret
  have C : q_Cx K cJ0_checkIndex_df160 RJ0 2 2 := C
  show q_V l K 0 [(0, .int (nI j)), (1, .int (nI n))] [] S
  refine q_iload_n C dJ0_checkIndex_df160_0 rfl rfl ?_
  refine q_iload_n C dJ0_checkIndex_df160_1 rfl rfl ?_
  refine q_sForm C flJ0_1053 dJ0_checkIndex_df160_2 (fun v hv => ?_)
  refine q_sji3 C (c_J3_checkIndex l S j n hj hn v hv) msJ3_checkIndex_8e157 mlJ0_1059 ⟨by decide, by decide⟩ (Nat.le_of_ble_eq_true rfl) dJ0_checkIndex_df160_5 ?_
  refine q_pop C rfl dJ0_checkIndex_df160_8 ?_
  exact hret _ _ _ dJ0_checkIndex_df160_9 rfl

theorem q_chk2 (j : Nat) (hj : j < 3) : (((q_byt.getD 2 []).getD j 0 &&& 255).toUInt32 % 65536).toInt32 = (q_byt.getD 2 []).getD j 0 := by
  rcases (show j = 0 ∨ j = 1 ∨ j = 2 by omega) with rfl | rfl | rfl <;> decide +kernel
theorem q_chn2 (j : Nat) (hj : j < 3) : narrow .char (.int ((q_byt.getD 2 []).getD j 0)) = .int ((q_byt.getD 2 []).getD j 0) := by
  rcases (show j = 0 ∨ j = 1 ∨ j = 2 by omega) with rfl | rfl | rfl <;> rfl
theorem c_J1_charAt_2 (l : Launch) (S : q_St) (j : Nat) (hj : j < 3) : q_Fi l yJ1_charAt_3b067 kJ1_charAt_3b067 3 [.ref 232, .int (nI j)] S ((q_byt.getD 2 []).getD j 0) S := by
  refine q_Fi_of (maxL := 2) rfl (by decide +kernel) (fun ad => Nat.le_of_ble_eq_true rfl) (q_chn2 j hj) ?_
  intro K C hret
  have C : q_Cx K cJ1_charAt_3b067 RJ1 3 2 := C
  show q_V l K 0 [(0, .ref 232), (1, .int (nI j))] [] S
  refine q_iload_n C dJ1_charAt_3b067_0 rfl rfl ?_
  refine q_aload_n C dJ1_charAt_3b067_1 rfl rfl ?_
  refine q_sLen (i := 2) (n := 3) C (by decide) rfl rfl dJ1_charAt_3b067_2 ?_
  refine q_sjv2 C (c_J0_checkIndex l S j 3 (by omega) (by omega)) msJ0_checkIndex_df160 mlJ1_9 ⟨by decide, by decide⟩ (Nat.le_of_ble_eq_true rfl) dJ1_charAt_3b067_3 ?_
  refine q_aload_n C dJ1_charAt_3b067_6 rfl rfl ?_
  refine q_iload_n C dJ1_charAt_3b067_7 rfl rfl ?_
  refine q_sByte (i := 2) (n := 3) (j := j) (x := (q_byt.getD 2 []).getD j 0) C rfl (by decide) rfl rfl (by omega) (by decide) rfl dJ1_charAt_3b067_8 ?_
  refine q_sipush (v := 255) C dJ1_charAt_3b067_9 (by decide) ?_
  refine q_iand C dJ1_charAt_3b067_12 ?_
  refine q_i2c C (v := (q_byt.getD 2 []).getD j 0) (q_chk2 j hj) dJ1_charAt_3b067_13 ?_
  exact hret _ _ _ _ dJ1_charAt_3b067_14 rfl rfl
theorem c_J0_charAt_2 (l : Launch) (S : q_St) (j : Nat) (hj : j < 3) : q_Fi l yJ0_charAt_5068e kJ0_charAt_5068e 4 [.ref 202, .int (nI j)] S ((q_byt.getD 2 []).getD j 0) S := by
  refine q_Fi_of (maxL := 2) rfl (by decide +kernel) (fun ad => Nat.le_of_ble_eq_true rfl) (q_chn2 j hj) ?_
  intro K C hret
  have C : q_Cx K cJ0_charAt_5068e RJ0 4 2 := C
  show q_V l K 0 [(0, .ref 202), (1, .int (nI j))] [] S
  refine q_aload_n C dJ0_charAt_5068e_0 rfl rfl ?_
  refine q_cj0 (i := 2) C (c_J0_isLatin1_2 l S) myJ0_isLatin1_aae02 rfl mlJ0_492 (by decide) rfl ⟨by decide, by decide⟩ (Nat.le_of_ble_eq_true rfl) dJ0_charAt_5068e_1 ?_
  refine q_if_eq (tgt := 16) C dJ0_charAt_5068e_4 (by decide) (fun h9 => absurd h9 (by decide)) (fun _ => ?_)
  refine q_aload_n C dJ0_charAt_5068e_7 rfl rfl ?_
  refine q_sValue (i := 2) C (by decide) rfl flJ0_9 dJ0_charAt_5068e_8 ?_
  refine q_iload_n C dJ0_charAt_5068e_11 rfl rfl ?_
  refine q_sji2 C (c_J1_charAt_2 l S j hj) msJ1_charAt_3b067 mlJ0_495 ⟨by decide, by decide⟩ (Nat.le_of_ble_eq_true rfl) dJ0_charAt_5068e_12 ?_
  exact hret _ _ _ _ dJ0_charAt_5068e_15 rfl rfl
theorem q_chk6 (j : Nat) (hj : j < 5) : (((q_byt.getD 6 []).getD j 0 &&& 255).toUInt32 % 65536).toInt32 = (q_byt.getD 6 []).getD j 0 := by
  rcases (show j = 0 ∨ j = 1 ∨ j = 2 ∨ j = 3 ∨ j = 4 by omega) with rfl | rfl | rfl | rfl | rfl <;> decide +kernel
theorem q_chn6 (j : Nat) (hj : j < 5) : narrow .char (.int ((q_byt.getD 6 []).getD j 0)) = .int ((q_byt.getD 6 []).getD j 0) := by
  rcases (show j = 0 ∨ j = 1 ∨ j = 2 ∨ j = 3 ∨ j = 4 by omega) with rfl | rfl | rfl | rfl | rfl <;> rfl
theorem c_J1_charAt_6 (l : Launch) (S : q_St) (j : Nat) (hj : j < 5) : q_Fi l yJ1_charAt_3b067 kJ1_charAt_3b067 3 [.ref 236, .int (nI j)] S ((q_byt.getD 6 []).getD j 0) S := by
  refine q_Fi_of (maxL := 2) rfl (by decide +kernel) (fun ad => Nat.le_of_ble_eq_true rfl) (q_chn6 j hj) ?_
  intro K C hret
  have C : q_Cx K cJ1_charAt_3b067 RJ1 3 2 := C
  show q_V l K 0 [(0, .ref 236), (1, .int (nI j))] [] S
  refine q_iload_n C dJ1_charAt_3b067_0 rfl rfl ?_
  refine q_aload_n C dJ1_charAt_3b067_1 rfl rfl ?_
  refine q_sLen (i := 6) (n := 5) C (by decide) rfl rfl dJ1_charAt_3b067_2 ?_
  refine q_sjv2 C (c_J0_checkIndex l S j 5 (by omega) (by omega)) msJ0_checkIndex_df160 mlJ1_9 ⟨by decide, by decide⟩ (Nat.le_of_ble_eq_true rfl) dJ1_charAt_3b067_3 ?_
  refine q_aload_n C dJ1_charAt_3b067_6 rfl rfl ?_
  refine q_iload_n C dJ1_charAt_3b067_7 rfl rfl ?_
  refine q_sByte (i := 6) (n := 5) (j := j) (x := (q_byt.getD 6 []).getD j 0) C rfl (by decide) rfl rfl (by omega) (by decide) rfl dJ1_charAt_3b067_8 ?_
  refine q_sipush (v := 255) C dJ1_charAt_3b067_9 (by decide) ?_
  refine q_iand C dJ1_charAt_3b067_12 ?_
  refine q_i2c C (v := (q_byt.getD 6 []).getD j 0) (q_chk6 j hj) dJ1_charAt_3b067_13 ?_
  exact hret _ _ _ _ dJ1_charAt_3b067_14 rfl rfl
theorem c_J0_charAt_6 (l : Launch) (S : q_St) (j : Nat) (hj : j < 5) : q_Fi l yJ0_charAt_5068e kJ0_charAt_5068e 4 [.ref 206, .int (nI j)] S ((q_byt.getD 6 []).getD j 0) S := by
  refine q_Fi_of (maxL := 2) rfl (by decide +kernel) (fun ad => Nat.le_of_ble_eq_true rfl) (q_chn6 j hj) ?_
  intro K C hret
  have C : q_Cx K cJ0_charAt_5068e RJ0 4 2 := C
  show q_V l K 0 [(0, .ref 206), (1, .int (nI j))] [] S
  refine q_aload_n C dJ0_charAt_5068e_0 rfl rfl ?_
  refine q_cj0 (i := 6) C (c_J0_isLatin1_6 l S) myJ0_isLatin1_aae02 rfl mlJ0_492 (by decide) rfl ⟨by decide, by decide⟩ (Nat.le_of_ble_eq_true rfl) dJ0_charAt_5068e_1 ?_
  refine q_if_eq (tgt := 16) C dJ0_charAt_5068e_4 (by decide) (fun h9 => absurd h9 (by decide)) (fun _ => ?_)
  refine q_aload_n C dJ0_charAt_5068e_7 rfl rfl ?_
  refine q_sValue (i := 6) C (by decide) rfl flJ0_9 dJ0_charAt_5068e_8 ?_
  refine q_iload_n C dJ0_charAt_5068e_11 rfl rfl ?_
  refine q_sji2 C (c_J1_charAt_6 l S j hj) msJ1_charAt_3b067 mlJ0_495 ⟨by decide, by decide⟩ (Nat.le_of_ble_eq_true rfl) dJ0_charAt_5068e_12 ?_
  exact hret _ _ _ _ dJ0_charAt_5068e_15 rfl rfl
