theorem c_X3_put (l : Launch) (S : q_St) (q : uL_T) (c : Int32) (hq : q.1 < 39) (hc : ∃ z, z < 65536 ∧ c = nI z) : q_Fv l yX3_put kX3_put 1 [.ref 110, .int c] (uL_at S q) (uL_at S (uL_put c q)) := by
  refine q_Fv_of (maxL := 2) rfl (by decide +kernel) (fun ad => Nat.le_of_ble_eq_true rfl) ?_
  intro K C hret
  have C : q_Cx K cX3_put RX3 1 2 := C
  show q_V l K 0 [(0, .ref 110), (1, .int c)] [] (uL_at S q)
  refine q_aload_n C dX3_put_0 rfl rfl ?_
  refine q_getI (x := nI q.1) C flX3_15 q_s110 rfl dX3_put_1 rfl ?_
  refine q_bipush (v := 39) C dX3_put_4 (by decide) ?_
  refine q_icmp_geN (a := q.1) (b := 39) (tgt := 29) C dX3_put_6 (by decide) rfl rfl (by omega) (by omega) (fun c_6 => absurd c_6 (by omega)) (fun c_6 => ?_)
  refine q_aload_n C dX3_put_9 rfl rfl ?_
  refine q_getR C flX3_9 q_s110 rfl dX3_put_10 ?_
  refine q_aload_n C dX3_put_13 rfl rfl ?_
  refine q_getI (x := nI q.1) C flX3_15 q_s110 rfl dX3_put_14 rfl ?_
  refine q_iload_n C dX3_put_17 rfl rfl ?_
  refine q_castV (i := q.1) (v := c) C rfl q_s111 (by omega) (by decide) dX3_put_18 (q_nar_c hc) ?_
  refine q_aload_n C dX3_put_19 rfl rfl ?_
  refine q_dup C rfl dX3_put_20 ?_
  refine q_getI (x := nI q.1) C flX3_15 q_s110 rfl dX3_put_21 rfl ?_
  refine q_iconst (v := 1) C dX3_put_24 (by decide) ?_
  refine q_iaddN (a := q.1) (b := 1) C dX3_put_25 rfl rfl ?_
  refine q_put (ty9 := .int) C flX3_15 q_s110 rfl (fun _ _ _ h => by cases h; exact ⟨rfl, by decide +kernel⟩) rfl rfl dX3_put_26 ?_
  exact hret _ _ _ dX3_put_29 (uL_at_w S q c)
theorem c_X3_putNumber (l : Launch) (S : q_St) (q : uL_T) (v : Nat) (hv : v < 100) (hq : q.1 + 1 < 39) : q_Fv l yX3_putNumber kX3_putNumber 2 [.ref 110, .int (nI v)] (uL_at S q) (uL_at S (uL_num v q)) := by
  refine q_Fv_of (maxL := 2) rfl (by decide +kernel) (fun ad => Nat.le_of_ble_eq_true rfl) ?_
  intro K C hret
  have C : q_Cx K cX3_putNumber RX3 2 2 := C
  show q_V l K 0 [(0, .ref 110), (1, .int (nI v))] [] (uL_at S q)
  refine q_iload_n C dX3_putNumber_0 rfl rfl ?_
  refine q_bipush (v := 10) C dX3_putNumber_1 (by decide) ?_
  refine q_icmp_ltN (a := v) (b := 10) (tgt := 18) C dX3_putNumber_3 (by decide) rfl rfl (by omega) (by omega) (fun c_3 => ?_) (fun c_3 => ?_)
  · refine q_aload_n C dX3_putNumber_18 rfl rfl ?_
    refine q_bipush (v := 48) C dX3_putNumber_19 (by decide) ?_
    refine q_iload_n C dX3_putNumber_21 rfl rfl ?_
    refine q_bipush (v := 10) C dX3_putNumber_22 (by decide) ?_
    refine q_iremN (a := v) (b := 10) C dX3_putNumber_24 rfl rfl (by omega) (by decide) (by decide) ?_
    refine q_iaddN (a := 48) (b := v % 10) C dX3_putNumber_25 rfl rfl ?_
    refine q_i2cN (a := 48 + (v % 10)) C dX3_putNumber_26 rfl (by omega) ?_
    refine q_cv1 C (c_X3_put l S q (nI (48 + (v % 10))) (by have := True.intro; omega) (q_ch (by omega))) myX3_put mlX3_19 q_s110 ⟨by decide, by decide⟩ (Nat.le_of_ble_eq_true rfl) dX3_putNumber_27 ?_
    exact hret _ _ _ dX3_putNumber_30 (by simp [uL_num, c_3, Nat.not_le.mpr c_3])
  · refine q_aload_n C dX3_putNumber_6 rfl rfl ?_
    refine q_bipush (v := 48) C dX3_putNumber_7 (by decide) ?_
    refine q_iload_n C dX3_putNumber_9 rfl rfl ?_
    refine q_bipush (v := 10) C dX3_putNumber_10 (by decide) ?_
    refine q_idivN (a := v) (b := 10) C dX3_putNumber_12 rfl rfl (by omega) (by decide) (by decide) ?_
    refine q_iaddN (a := 48) (b := v / 10) C dX3_putNumber_13 rfl rfl ?_
    refine q_i2cN (a := 48 + (v / 10)) C dX3_putNumber_14 rfl (by omega) ?_
    refine q_cv1 C (c_X3_put l S q (nI (48 + (v / 10))) (by have := True.intro; omega) (q_ch (by omega))) myX3_put mlX3_19 q_s110 ⟨by decide, by decide⟩ (Nat.le_of_ble_eq_true rfl) dX3_putNumber_15 ?_
    refine q_aload_n C dX3_putNumber_18 rfl rfl ?_
    refine q_bipush (v := 48) C dX3_putNumber_19 (by decide) ?_
    refine q_iload_n C dX3_putNumber_21 rfl rfl ?_
    refine q_bipush (v := 10) C dX3_putNumber_22 (by decide) ?_
    refine q_iremN (a := v) (b := 10) C dX3_putNumber_24 rfl rfl (by omega) (by decide) (by decide) ?_
    refine q_iaddN (a := 48) (b := v % 10) C dX3_putNumber_25 rfl rfl ?_
    refine q_i2cN (a := 48 + (v % 10)) C dX3_putNumber_26 rfl (by omega) ?_
    refine q_cv1 C (c_X3_put l S (uL_put (nI (48 + (v / 10))) q) (nI (48 + (v % 10))) (by have := uL_put_1 (nI (48 + (v / 10))) q; omega) (q_ch (by omega))) myX3_put mlX3_19 q_s110 ⟨by decide, by decide⟩ (Nat.le_of_ble_eq_true rfl) dX3_putNumber_27 ?_
    exact hret _ _ _ dX3_putNumber_30 (by simp [uL_num, c_3, Nat.not_lt.mpr c_3])
theorem c_X3_signOfMatter (l : Launch) (S : q_St) (x : Int32) : q_Fi l yX3_signOfMatter kX3_signOfMatter 1 [.ref 110, .int x] S (uL_how x) S := by
  refine q_Fi_of (maxL := 2) rfl (by decide +kernel) (fun ad => Nat.le_of_ble_eq_true rfl) (q_narrow_c (uL_how_ch x)) ?_
  intro K C hret
  have C : q_Cx K cX3_signOfMatter RX3 1 2 := C
  show q_V l K 0 [(0, .ref 110), (1, .int x)] [] S
  refine q_iload_n C dX3_signOfMatter_0 rfl rfl ?_
  by_cases h_1_1 : x = 1
  · refine q_lookup (off := 27) (tgt := 28) C dX3_signOfMatter_1 (by decide) (by rw [h_1_1]; decide) (by decide) ?_
    refine q_bipush (v := 115) C dX3_signOfMatter_28 (by decide) ?_
    exact hret _ _ _ _ dX3_signOfMatter_30 (by simp [uL_how, h_1_1]) rfl
  by_cases h_1_2 : x = 2
  · refine q_lookup (off := 30) (tgt := 31) C dX3_signOfMatter_1 (by decide) (by rw [h_1_2]; decide) (by decide) ?_
    refine q_bipush (v := 98) C dX3_signOfMatter_31 (by decide) ?_
    exact hret _ _ _ _ dX3_signOfMatter_33 (by simp [uL_how, h_1_2, h_1_1]) rfl
  refine q_lookup (off := 33) (tgt := 34) C dX3_signOfMatter_1 (by decide) (by show Op.lookupswitch.offset [(1, 27), (2, 30)] 33 _ = _; rw [lv_osw (k := 1) (a := 1) h_1_1 (by decide)]; rw [lv_osw (k := 2) (a := 2) h_1_2 (by decide)]; rfl) (by decide) ?_
  refine q_bipush (v := 111) C dX3_signOfMatter_34 (by decide) ?_
  exact hret _ _ _ _ dX3_signOfMatter_36 (by simp [uL_how, h_1_1, h_1_2]) rfl
theorem c_X3_signOfAnswer (l : Launch) (S : q_St) (x : Int32) (hx : x = 0 ∨ x = 1 ∨ x = 2 ∨ x = 3 ∨ x = 4) : q_Fi l yX3_signOfAnswer kX3_signOfAnswer 1 [.ref 110, .int x] S (uL_ans x) S := by
  refine q_Fi_of (maxL := 2) rfl (by decide +kernel) (fun ad => Nat.le_of_ble_eq_true rfl) (q_narrow_c (uL_ans_ch x)) ?_
  intro K C hret
  have C : q_Cx K cX3_signOfAnswer RX3 1 2 := C
  show q_V l K 0 [(0, .ref 110), (1, .int x)] [] S
  refine q_iload_n C dX3_signOfAnswer_0 rfl rfl ?_
  rcases hx with rfl | rfl | rfl | rfl | rfl
  · refine q_tabout (tgt := 44) C dX3_signOfAnswer_1 (by decide) (by decide) ?_
    refine q_bipush (v := 110) C dX3_signOfAnswer_44 (by decide) ?_
    exact hret _ _ _ _ dX3_signOfAnswer_46 (by decide) rfl
  · refine q_tabin (off := 31) (tgt := 32) C dX3_signOfAnswer_1 (by decide) (by decide) (by decide) (by decide) ?_
    refine q_bipush (v := 114) C dX3_signOfAnswer_32 (by decide) ?_
    exact hret _ _ _ _ dX3_signOfAnswer_34 (by decide) rfl
  · refine q_tabin (off := 34) (tgt := 35) C dX3_signOfAnswer_1 (by decide) (by decide) (by decide) (by decide) ?_
    refine q_bipush (v := 117) C dX3_signOfAnswer_35 (by decide) ?_
    exact hret _ _ _ _ dX3_signOfAnswer_37 (by decide) rfl
  · refine q_tabin (off := 37) (tgt := 38) C dX3_signOfAnswer_1 (by decide) (by decide) (by decide) (by decide) ?_
    refine q_bipush (v := 115) C dX3_signOfAnswer_38 (by decide) ?_
    exact hret _ _ _ _ dX3_signOfAnswer_40 (by decide) rfl
  · refine q_tabin (off := 40) (tgt := 41) C dX3_signOfAnswer_1 (by decide) (by decide) (by decide) (by decide) ?_
    refine q_bipush (v := 98) C dX3_signOfAnswer_41 (by decide) ?_
    exact hret _ _ _ _ dX3_signOfAnswer_43 (by decide) rfl
theorem c_X3_writeGuild (l : Launch) (S : q_St) (q : uL_T) (m : Nat) (hm : m < 8) (g : Nat) (hg : g < 6) (ha : -50 ≤ S 5 (m * 6 + g) ∧ S 5 (m * 6 + g) ≤ 50) (hx : S 6 (m * 6 + g) = 0 ∨ S 6 (m * 6 + g) = 1 ∨ S 6 (m * 6 + g) = 2 ∨ S 6 (m * 6 + g) = 3 ∨ S 6 (m * 6 + g) = 4) (hq : q.1 + 6 ≤ 39) : q_Fv l yX3_writeGuild kX3_writeGuild 3 [.ref 110, .ref 1, .int (nI m), .int (nI g)] (uL_at S q) (uL_at S (uL_guild S m g q)) := by
  refine q_Fv_of (maxL := 5) rfl (by decide +kernel) (fun ad => Nat.le_of_ble_eq_true rfl) ?_
  intro K C hret
  have C : q_Cx K cX3_writeGuild RX3 3 5 := C
  show q_V l K 0 [(0, .ref 110), (1, .ref 1), (2, .int (nI m)), (3, .int (nI g))] [] (uL_at S q)
  refine q_aload_n C dX3_writeGuild_0 rfl rfl ?_
  refine q_iload_n C dX3_writeGuild_1 rfl rfl ?_
  refine q_iload_n C dX3_writeGuild_2 rfl rfl ?_
  refine q_ci2 C (q_Fi.cv (v' := S 5 (m * 6 + g)) rfl (c_X1_amountOf l (uL_at S q) m (by omega) g (by omega))) myX1_amountOf mlX3_45 q_s1 ⟨by decide, by decide⟩ (Nat.le_of_ble_eq_true rfl) dX3_writeGuild_3 ?_
  refine q_istore (lv' := [(4, .int (S 5 (m * 6 + g))), (0, .ref 110), (1, .ref 1), (2, .int (nI m)), (3, .int (nI g))]) C dX3_writeGuild_6 (by decide) rfl ?_
  refine q_aload_n C dX3_writeGuild_8 rfl rfl ?_
  refine q_bipush (v := 32) C dX3_writeGuild_9 (by decide) ?_
  refine q_cv1 C (c_X3_put l S q 32 (by have := True.intro; omega) ⟨32, by decide, rfl⟩) myX3_put mlX3_19 q_s110 ⟨by decide, by decide⟩ (Nat.le_of_ble_eq_true rfl) dX3_writeGuild_11 ?_
  refine q_aload_n C dX3_writeGuild_14 rfl rfl ?_
  refine q_iload_n C dX3_writeGuild_15 rfl rfl ?_
  refine q_cv1 C (c_X3_putNumber l S (uL_put 32 q) g (by omega) (by have := uL_put_1 32 q; omega)) myX3_putNumber mlX3_23 q_s110 ⟨by decide, by decide⟩ (Nat.le_of_ble_eq_true rfl) dX3_writeGuild_16 ?_
  refine q_aload_n C dX3_writeGuild_19 rfl rfl ?_
  refine q_iload C dX3_writeGuild_20 rfl ?_
  refine q_if_ge (tgt := 30) C dX3_writeGuild_22 (by decide)  (fun c_22 => ?_) (fun c_22 => ?_)
  · refine q_bipush (v := 43) C dX3_writeGuild_30 (by decide) ?_
    refine q_cv1 C (c_X3_put l S (uL_num g (uL_put 32 q)) 43 (by have := uL_num_1 (show g < 10 by omega) (uL_put 32 q); have := uL_put_1 32 q; omega) ⟨43, by decide, rfl⟩) myX3_put mlX3_19 q_s110 ⟨by decide, by decide⟩ (Nat.le_of_ble_eq_true rfl) dX3_writeGuild_32 ?_
    refine q_aload_n C dX3_writeGuild_35 rfl rfl ?_
    refine q_iload C dX3_writeGuild_36 rfl ?_
    refine q_abs C mlX3_49 (by decide) (Nat.le_of_ble_eq_true rfl) dX3_writeGuild_38 ?_
    refine q_top (y := nI (uL_abs (S 5 (m * 6 + g)))) (uL_absE ha.1 ha.2).1 ?_
    have ha9 := (uL_absE ha.1 ha.2).2
    refine q_cv1 C (c_X3_putNumber l S (uL_put 43 (uL_num g (uL_put 32 q))) (uL_abs (S 5 (m * 6 + g))) (by omega) (by have := uL_put_1 43 (uL_num g (uL_put 32 q)); have := uL_num_1 (show g < 10 by omega) (uL_put 32 q); have := uL_put_1 32 q; omega)) myX3_putNumber mlX3_23 q_s110 ⟨by decide, by decide⟩ (Nat.le_of_ble_eq_true rfl) dX3_writeGuild_41 ?_
    refine q_aload_n C dX3_writeGuild_44 rfl rfl ?_
    refine q_aload_n C dX3_writeGuild_45 rfl rfl ?_
    refine q_aload_n C dX3_writeGuild_46 rfl rfl ?_
    refine q_iload_n C dX3_writeGuild_47 rfl rfl ?_
    refine q_iload_n C dX3_writeGuild_48 rfl rfl ?_
    refine q_ci2 C (q_Fi.cv (v' := S 6 (m * 6 + g)) rfl (c_X1_answerOf l (uL_at S (uL_num (uL_abs (S 5 (m * 6 + g))) (uL_put 43 (uL_num g (uL_put 32 q))))) m (by omega) g (by omega))) myX1_answerOf mlX3_55 q_s1 ⟨by decide, by decide⟩ (Nat.le_of_ble_eq_true rfl) dX3_writeGuild_49 ?_
    refine q_ci1 C (c_X3_signOfAnswer l (uL_at S (uL_num (uL_abs (S 5 (m * 6 + g))) (uL_put 43 (uL_num g (uL_put 32 q))))) (S 6 (m * 6 + g)) hx) myX3_signOfAnswer mlX3_58 q_s110 ⟨by decide, by decide⟩ (Nat.le_of_ble_eq_true rfl) dX3_writeGuild_52 ?_
    refine q_cv1 C (c_X3_put l S (uL_num (uL_abs (S 5 (m * 6 + g))) (uL_put 43 (uL_num g (uL_put 32 q)))) (uL_ans (S 6 (m * 6 + g))) (by have := uL_num_le (uL_abs (S 5 (m * 6 + g))) (uL_put 43 (uL_num g (uL_put 32 q))); have := uL_put_1 43 (uL_num g (uL_put 32 q)); have := uL_num_1 (show g < 10 by omega) (uL_put 32 q); have := uL_put_1 32 q; omega) (uL_ans_ch _)) myX3_put mlX3_19 q_s110 ⟨by decide, by decide⟩ (Nat.le_of_ble_eq_true rfl) dX3_writeGuild_55 ?_
    exact hret _ _ _ dX3_writeGuild_58 (by simp only [uL_guild, if_neg (Int32.not_lt.mpr c_22)])
  · refine q_bipush (v := 45) C dX3_writeGuild_25 (by decide) ?_
    refine q_goto (tgt := 32) C dX3_writeGuild_27 (by decide) ?_
    refine q_cv1 C (c_X3_put l S (uL_num g (uL_put 32 q)) 45 (by have := uL_num_1 (show g < 10 by omega) (uL_put 32 q); have := uL_put_1 32 q; omega) ⟨45, by decide, rfl⟩) myX3_put mlX3_19 q_s110 ⟨by decide, by decide⟩ (Nat.le_of_ble_eq_true rfl) dX3_writeGuild_32 ?_
    refine q_aload_n C dX3_writeGuild_35 rfl rfl ?_
    refine q_iload C dX3_writeGuild_36 rfl ?_
    refine q_abs C mlX3_49 (by decide) (Nat.le_of_ble_eq_true rfl) dX3_writeGuild_38 ?_
    refine q_top (y := nI (uL_abs (S 5 (m * 6 + g)))) (uL_absE ha.1 ha.2).1 ?_
    have ha9 := (uL_absE ha.1 ha.2).2
    refine q_cv1 C (c_X3_putNumber l S (uL_put 45 (uL_num g (uL_put 32 q))) (uL_abs (S 5 (m * 6 + g))) (by omega) (by have := uL_put_1 45 (uL_num g (uL_put 32 q)); have := uL_num_1 (show g < 10 by omega) (uL_put 32 q); have := uL_put_1 32 q; omega)) myX3_putNumber mlX3_23 q_s110 ⟨by decide, by decide⟩ (Nat.le_of_ble_eq_true rfl) dX3_writeGuild_41 ?_
    refine q_aload_n C dX3_writeGuild_44 rfl rfl ?_
    refine q_aload_n C dX3_writeGuild_45 rfl rfl ?_
    refine q_aload_n C dX3_writeGuild_46 rfl rfl ?_
    refine q_iload_n C dX3_writeGuild_47 rfl rfl ?_
    refine q_iload_n C dX3_writeGuild_48 rfl rfl ?_
    refine q_ci2 C (q_Fi.cv (v' := S 6 (m * 6 + g)) rfl (c_X1_answerOf l (uL_at S (uL_num (uL_abs (S 5 (m * 6 + g))) (uL_put 45 (uL_num g (uL_put 32 q))))) m (by omega) g (by omega))) myX1_answerOf mlX3_55 q_s1 ⟨by decide, by decide⟩ (Nat.le_of_ble_eq_true rfl) dX3_writeGuild_49 ?_
    refine q_ci1 C (c_X3_signOfAnswer l (uL_at S (uL_num (uL_abs (S 5 (m * 6 + g))) (uL_put 45 (uL_num g (uL_put 32 q))))) (S 6 (m * 6 + g)) hx) myX3_signOfAnswer mlX3_58 q_s110 ⟨by decide, by decide⟩ (Nat.le_of_ble_eq_true rfl) dX3_writeGuild_52 ?_
    refine q_cv1 C (c_X3_put l S (uL_num (uL_abs (S 5 (m * 6 + g))) (uL_put 45 (uL_num g (uL_put 32 q)))) (uL_ans (S 6 (m * 6 + g))) (by have := uL_num_le (uL_abs (S 5 (m * 6 + g))) (uL_put 45 (uL_num g (uL_put 32 q))); have := uL_put_1 45 (uL_num g (uL_put 32 q)); have := uL_num_1 (show g < 10 by omega) (uL_put 32 q); have := uL_put_1 32 q; omega) (uL_ans_ch _)) myX3_put mlX3_19 q_s110 ⟨by decide, by decide⟩ (Nat.le_of_ble_eq_true rfl) dX3_writeGuild_55 ?_
    exact hret _ _ _ dX3_writeGuild_58 (by simp only [uL_guild, if_pos c_22])
theorem c_X3_write (l : Launch) (S : q_St) (m : Nat) (hm : m < 8) (hA : ∀ g, g < 6 → -50 ≤ S 5 (m * 6 + g) ∧ S 5 (m * 6 + g) ≤ 50) (hB : ∀ g, g < 6 → (S 6 (m * 6 + g) = 0 ∨ S 6 (m * 6 + g) = 1 ∨ S 6 (m * 6 + g) = 2 ∨ S 6 (m * 6 + g) = 3 ∨ S 6 (m * 6 + g) = 4)) : q_Fv l yX3_write kX3_write 4 [.ref 110, .ref 1, .int (nI m)] S (uL_at S (uL_gs S m 6)) := by
  refine q_Fv_of (maxL := 4) rfl (by decide +kernel) (fun ad => Nat.le_of_ble_eq_true rfl) ?_
  intro K C hret
  have C : q_Cx K cX3_write RX3 4 4 := C
  show q_V l K 0 [(0, .ref 110), (1, .ref 1), (2, .int (nI m))] [] S
  refine q_aload_n C dX3_write_0 rfl rfl ?_
  refine q_iconst (v := 0) C dX3_write_1 (by decide) ?_
  refine q_put (ty9 := .int) C flX3_15 q_s110 rfl (fun _ _ _ h => by cases h; exact ⟨rfl, by decide +kernel⟩) rfl rfl dX3_write_2 ?_
  refine q_st (uL_start S) ?_
  refine q_aload_n C dX3_write_5 rfl rfl ?_
  refine q_bipush (v := 35) C dX3_write_6 (by decide) ?_
  refine q_cv1 C (c_X3_put l S (0, S 111) 35 (by have := True.intro; omega) ⟨35, by decide, rfl⟩) myX3_put mlX3_19 q_s110 ⟨by decide, by decide⟩ (Nat.le_of_ble_eq_true rfl) dX3_write_8 ?_
  refine q_aload_n C dX3_write_11 rfl rfl ?_
  refine q_iload_n C dX3_write_12 rfl rfl ?_
  refine q_cv1 C (c_X3_putNumber l S (uL_put 35 (0, S 111)) m (by omega) (by have := uL_put_1 35 (0, S 111); omega)) myX3_putNumber mlX3_23 q_s110 ⟨by decide, by decide⟩ (Nat.le_of_ble_eq_true rfl) dX3_write_13 ?_
  refine q_aload_n C dX3_write_16 rfl rfl ?_
  refine q_aload_n C dX3_write_17 rfl rfl ?_
  refine q_aload_n C dX3_write_18 rfl rfl ?_
  refine q_getR C flX3_27 q_s1 rfl dX3_write_19 ?_
  refine q_iload_n C dX3_write_22 rfl rfl ?_
  refine q_ialdN (i := m) (x := S 2 m) C rfl q_s2 (by omega) (by decide) dX3_write_23 rfl ?_
  refine q_ci1 C (c_X3_signOfMatter l (uL_at S (uL_num m (uL_put 35 (0, S 111)))) (S 2 m)) myX3_signOfMatter mlX3_33 q_s110 ⟨by decide, by decide⟩ (Nat.le_of_ble_eq_true rfl) dX3_write_24 ?_
  refine q_cv1 C (c_X3_put l S (uL_num m (uL_put 35 (0, S 111))) (uL_how (S 2 m)) (by have := uL_num_1 (show m < 10 by omega) (uL_put 35 (0, S 111)); have := uL_put_1 35 (0, S 111); omega) (uL_how_ch _)) myX3_put mlX3_19 q_s110 ⟨by decide, by decide⟩ (Nat.le_of_ble_eq_true rfl) dX3_write_27 ?_
  refine q_iconst (v := 0) C dX3_write_30 (by decide) ?_
  refine q_istore_n (lv' := [(3, .int 0), (0, .ref 110), (1, .ref 1), (2, .int (nI m))]) C dX3_write_31 rfl (by decide) rfl ?_
  have loop_32 : ∀ (n_32 i_32 : Nat), i_32 + n_32 = 6 → q_V l K 32 [(0, .ref 110), (1, .ref 1), (2, .int (nI m)), (3, .int (nI i_32))] [] (uL_at S (uL_gs S m i_32)) := by
    intro n_32
    induction n_32 with
    | zero =>
      intro i_32 hi_32
      have e_32 : i_32 = 6 := by omega
      refine q_iload_n C dX3_write_32 rfl rfl ?_
      refine q_bipush (v := 6) C dX3_write_33 (by decide) ?_
      refine q_icmp_geN (a := i_32) (b := 6) (tgt := 60) C dX3_write_35 (by decide) rfl rfl (by omega) (by omega) (fun c_35 => ?_) (fun c_35 => absurd c_35 (by omega))
      exact hret _ _ _ dX3_write_60 (by rw [e_32])
    | succ n_32 ih_32 =>
      intro i_32 hi_32
      refine q_iload_n C dX3_write_32 rfl rfl ?_
      refine q_bipush (v := 6) C dX3_write_33 (by decide) ?_
      refine q_icmp_geN (a := i_32) (b := 6) (tgt := 60) C dX3_write_35 (by decide) rfl rfl (by omega) (by omega) (fun c_35 => absurd c_35 (by omega)) (fun c_35 => ?_)
      refine q_aload_n C dX3_write_38 rfl rfl ?_
      refine q_iload_n C dX3_write_39 rfl rfl ?_
      refine q_iload_n C dX3_write_40 rfl rfl ?_
      by_cases h_41 : S 5 (m * 6 + i_32) ≠ 0
      · refine q_ci2 C (q_Fi.cv (if_pos h_41) (c_X1_isGuildOf l (uL_at S (uL_gs S m i_32)) m (by omega) i_32 (by omega))) myX1_isGuildOf mlX3_37 q_s1 ⟨by decide, by decide⟩ (Nat.le_of_ble_eq_true rfl) dX3_write_41 ?_
        refine q_if_eq (tgt := 54) C dX3_write_44 (by decide) (fun h9 => absurd h9 (by decide)) (fun _ => ?_)
        refine q_aload_n C dX3_write_47 rfl rfl ?_
        refine q_aload_n C dX3_write_48 rfl rfl ?_
        refine q_iload_n C dX3_write_49 rfl rfl ?_
        refine q_iload_n C dX3_write_50 rfl rfl ?_
        refine q_cv3 C (c_X3_writeGuild l S (uL_gs S m i_32) m (by omega) i_32 (by omega) (hA _ (by omega)) (hB _ (by omega)) (by have := uL_gs_le S m hm i_32 (by omega); omega)) myX3_writeGuild mlX3_41 q_s110 ⟨by decide, by decide⟩ (Nat.le_of_ble_eq_true rfl) dX3_write_51 ?_
        refine q_iinc (v := nI (i_32 + 1)) (lv' := [(3, .int (nI (i_32 + 1))), (0, .ref 110), (1, .ref 1), (2, .int (nI m))]) C dX3_write_54 rfl (nI_add _ _) (by decide) rfl ?_
        refine q_goto (tgt := 32) C dX3_write_57 (by decide) ?_
        exact q_V_to (ih_32 (i_32 + 1) (by omega)) ⟨rfl, rfl, rfl, rfl, trivial⟩ (by rw [uL_gs, if_pos h_41])
      · refine q_ci2 C (q_Fi.cv (if_neg h_41) (c_X1_isGuildOf l (uL_at S (uL_gs S m i_32)) m (by omega) i_32 (by omega))) myX1_isGuildOf mlX3_37 q_s1 ⟨by decide, by decide⟩ (Nat.le_of_ble_eq_true rfl) dX3_write_41 ?_
        refine q_if_eq (tgt := 54) C dX3_write_44 (by decide) (fun _ => ?_) (fun h9 => absurd h9 (by decide))
        refine q_iinc (v := nI (i_32 + 1)) (lv' := [(3, .int (nI (i_32 + 1))), (0, .ref 110), (1, .ref 1), (2, .int (nI m))]) C dX3_write_54 rfl (nI_add _ _) (by decide) rfl ?_
        refine q_goto (tgt := 32) C dX3_write_57 (by decide) ?_
        exact q_V_to (ih_32 (i_32 + 1) (by omega)) ⟨rfl, rfl, rfl, rfl, trivial⟩ (by rw [uL_gs, if_neg h_41])
  exact q_V_to (loop_32 (6 - 0) 0 (by omega)) ⟨rfl, rfl, rfl, rfl, trivial⟩ rfl
