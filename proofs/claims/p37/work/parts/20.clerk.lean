theorem c_X0_lacks (l : Launch) (S : q_St) (m : Int32) (g : Int32) : q_Fi l yX0_lacks kX0_lacks 2 [.ref 109, .int m, .int g] S (if uK_lacks S m g then 1 else 0) S := by
  refine q_Fi_of (maxL := 3) rfl (by decide +kernel) (fun ad => Nat.le_of_ble_eq_true rfl) (by split <;> rfl) ?_
  intro K C hret
  have C : q_Cx K cX0_lacks RX0 2 3 := C
  show q_V l K 0 [(0, .ref 109), (1, .int m), (2, .int g)] [] S
  refine q_aload_n C dX0_lacks_0 rfl rfl ?_
  refine q_getR C flX0_9 q_s109 rfl dX0_lacks_1 ?_
  refine q_iload_n C dX0_lacks_4 rfl rfl ?_
  by_cases h_5 : 0 ≤ m ∧ m < S 1 0
  · refine q_ci1 C (q_Fi.cv (if_pos h_5) (c_X1_hasMatter l S m)) myX1_hasMatter mlX0_59 q_s1 ⟨by decide, by decide⟩ (Nat.le_of_ble_eq_true rfl) dX0_lacks_5 ?_
    refine q_if_eq (tgt := 22) C dX0_lacks_8 (by decide) (fun h9 => absurd h9 (by decide)) (fun _ => ?_)
    refine q_aload_n C dX0_lacks_11 rfl rfl ?_
    refine q_getR C flX0_9 q_s109 rfl dX0_lacks_12 ?_
    refine q_iload_n C dX0_lacks_15 rfl rfl ?_
    by_cases h_16 : 0 ≤ g ∧ g < 6
    · refine q_ci1 C (q_Fi.cv (if_pos h_16) (c_X1_hasGuild l S g)) myX1_hasGuild mlX0_53 q_s1 ⟨by decide, by decide⟩ (Nat.le_of_ble_eq_true rfl) dX0_lacks_16 ?_
      refine q_if_ne (tgt := 26) C dX0_lacks_19 (by decide) (fun _ => ?_) (fun h9 => absurd h9 (by decide))
      refine q_iconst (v := 0) C dX0_lacks_26 (by decide) ?_
      exact hret _ _ _ _ dX0_lacks_27 (by simp [if_pos h_5, h_5, if_pos h_16, h_16]) rfl
    · refine q_ci1 C (q_Fi.cv (if_neg h_16) (c_X1_hasGuild l S g)) myX1_hasGuild mlX0_53 q_s1 ⟨by decide, by decide⟩ (Nat.le_of_ble_eq_true rfl) dX0_lacks_16 ?_
      refine q_if_ne (tgt := 26) C dX0_lacks_19 (by decide) (fun h9 => absurd h9 (by decide)) (fun _ => ?_)
      refine q_iconst (v := 1) C dX0_lacks_22 (by decide) ?_
      refine q_goto (tgt := 27) C dX0_lacks_23 (by decide) ?_
      exact hret _ _ _ _ dX0_lacks_27 (by simp [if_pos h_5, h_5, if_neg h_16, h_16]) rfl
  · refine q_ci1 C (q_Fi.cv (if_neg h_5) (c_X1_hasMatter l S m)) myX1_hasMatter mlX0_59 q_s1 ⟨by decide, by decide⟩ (Nat.le_of_ble_eq_true rfl) dX0_lacks_5 ?_
    refine q_if_eq (tgt := 22) C dX0_lacks_8 (by decide) (fun _ => ?_) (fun h9 => absurd h9 (by decide))
    refine q_iconst (v := 1) C dX0_lacks_22 (by decide) ?_
    refine q_goto (tgt := 27) C dX0_lacks_23 (by decide) ?_
    exact hret _ _ _ _ dX0_lacks_27 (by simp [if_neg h_5, h_5]) rfl
theorem c_X0_isWrong_110 (l : Launch) (S : q_St) (m : Int32) (g : Int32) (v : Int32) : q_Fi l yX0_isWrong kX0_isWrong 3 [.ref 109, .int 110, .int m, .int g, .int v] S (if uK_wrong S 110 m g v = true then 1 else 0) S := by
  refine q_Fi_of (maxL := 5) rfl (by decide +kernel) (fun ad => Nat.le_of_ble_eq_true rfl) (by split <;> rfl) ?_
  intro K C hret
  have C : q_Cx K cX0_isWrong RX0 3 5 := C
  show q_V l K 0 [(0, .ref 109), (1, .int 110), (2, .int m), (3, .int g), (4, .int v)] [] S
  refine q_iload_n C dX0_isWrong_0 rfl rfl ?_
  refine q_tabin (off := 211) (tgt := 212) C dX0_isWrong_1 (by decide) (by decide) (by decide) (by decide) ?_
  refine q_iconst (v := 0) C dX0_isWrong_212 (by decide) ?_
  exact hret _ _ _ _ dX0_isWrong_213 (by simp [uK_wrong, q_sum]) rfl
theorem c_X0_isWrong_97 (l : Launch) (S : q_St) (m : Int32) (g : Int32) (v : Int32) : q_Fi l yX0_isWrong kX0_isWrong 3 [.ref 109, .int 97, .int m, .int g, .int v] S (if uK_wrong S 97 m g v = true then 1 else 0) S := by
  refine q_Fi_of (maxL := 5) rfl (by decide +kernel) (fun ad => Nat.le_of_ble_eq_true rfl) (by split <;> rfl) ?_
  intro K C hret
  have C : q_Cx K cX0_isWrong RX0 3 5 := C
  show q_V l K 0 [(0, .ref 109), (1, .int 97), (2, .int m), (3, .int g), (4, .int v)] [] S
  refine q_iload_n C dX0_isWrong_0 rfl rfl ?_
  refine q_tabin (off := 95) (tgt := 96) C dX0_isWrong_1 (by decide) (by decide) (by decide) (by decide) ?_
  refine q_aload_n C dX0_isWrong_96 rfl rfl ?_
  refine q_iload_n C dX0_isWrong_97 rfl rfl ?_
  refine q_iload_n C dX0_isWrong_98 rfl rfl ?_
  by_cases h_99 : uK_lacks S m g
  · refine q_ci2 C (q_Fi.cv (if_pos h_99) (c_X0_lacks l S m g)) myX0_lacks mlX0_49 q_s109 ⟨by decide, by decide⟩ (Nat.le_of_ble_eq_true rfl) dX0_isWrong_99 ?_
    refine q_if_ne (tgt := 119) C dX0_isWrong_102 (by decide) (fun _ => ?_) (fun h9 => absurd h9 (by decide))
    refine q_iconst (v := 1) C dX0_isWrong_119 (by decide) ?_
    refine q_goto (tgt := 124) C dX0_isWrong_120 (by decide) ?_
    exact hret _ _ _ _ dX0_isWrong_124 (by simp [uK_wrong, if_pos h_99, h_99]) rfl
  · refine q_ci2 C (q_Fi.cv (if_neg h_99) (c_X0_lacks l S m g)) myX0_lacks mlX0_49 q_s109 ⟨by decide, by decide⟩ (Nat.le_of_ble_eq_true rfl) dX0_isWrong_99 ?_
    refine q_if_ne (tgt := 119) C dX0_isWrong_102 (by decide) (fun h9 => absurd h9 (by decide)) (fun _ => ?_)
    refine q_iload C dX0_isWrong_105 rfl ?_
    refine q_bipush (v := (-50)) C dX0_isWrong_107 (by decide) ?_
    refine q_icmp_lt (tgt := 119) C dX0_isWrong_109 (by decide)  (fun c_109 => ?_) (fun c_109 => ?_)
    · refine q_iconst (v := 1) C dX0_isWrong_119 (by decide) ?_
      refine q_goto (tgt := 124) C dX0_isWrong_120 (by decide) ?_
      exact hret _ _ _ _ dX0_isWrong_124 (by simp [uK_wrong, if_neg h_99, h_99, c_109, Int32.not_le.mpr c_109, if_pos c_109]) rfl
    · refine q_iload C dX0_isWrong_112 rfl ?_
      refine q_bipush (v := 50) C dX0_isWrong_114 (by decide) ?_
      refine q_icmp_le (tgt := 123) C dX0_isWrong_116 (by decide)  (fun c_116 => ?_) (fun c_116 => ?_)
      · refine q_iconst (v := 0) C dX0_isWrong_123 (by decide) ?_
        exact hret _ _ _ _ dX0_isWrong_124 (by simp [uK_wrong, if_neg h_99, h_99, c_109, Int32.not_lt.mpr c_109, if_neg (Int32.not_lt.mpr c_109), c_116, Int32.not_lt.mpr c_116, if_neg (Int32.not_lt.mpr c_116)]) rfl
      · refine q_iconst (v := 1) C dX0_isWrong_119 (by decide) ?_
        refine q_goto (tgt := 124) C dX0_isWrong_120 (by decide) ?_
        exact hret _ _ _ _ dX0_isWrong_124 (by simp [uK_wrong, if_neg h_99, h_99, c_109, Int32.not_lt.mpr c_109, if_neg (Int32.not_lt.mpr c_109), c_116, Int32.not_le.mpr c_116, if_pos c_116]) rfl
theorem c_X0_isWrong_113 (l : Launch) (S : q_St) (m : Int32) (g : Int32) (v : Int32) : q_Fi l yX0_isWrong kX0_isWrong 3 [.ref 109, .int 113, .int m, .int g, .int v] S (if uK_wrong S 113 m g v = true then 1 else 0) S := by
  refine q_Fi_of (maxL := 5) rfl (by decide +kernel) (fun ad => Nat.le_of_ble_eq_true rfl) (by split <;> rfl) ?_
  intro K C hret
  have C : q_Cx K cX0_isWrong RX0 3 5 := C
  show q_V l K 0 [(0, .ref 109), (1, .int 113), (2, .int m), (3, .int g), (4, .int v)] [] S
  refine q_iload_n C dX0_isWrong_0 rfl rfl ?_
  refine q_tabin (off := 124) (tgt := 125) C dX0_isWrong_1 (by decide) (by decide) (by decide) (by decide) ?_
  refine q_aload_n C dX0_isWrong_125 rfl rfl ?_
  refine q_iload_n C dX0_isWrong_126 rfl rfl ?_
  refine q_iload_n C dX0_isWrong_127 rfl rfl ?_
  by_cases h_128 : uK_lacks S m g
  · refine q_ci2 C (q_Fi.cv (if_pos h_128) (c_X0_lacks l S m g)) myX0_lacks mlX0_49 q_s109 ⟨by decide, by decide⟩ (Nat.le_of_ble_eq_true rfl) dX0_isWrong_128 ?_
    exact hret _ _ _ _ dX0_isWrong_131 (by simp [uK_wrong, if_pos h_128, h_128]) rfl
  · refine q_ci2 C (q_Fi.cv (if_neg h_128) (c_X0_lacks l S m g)) myX0_lacks mlX0_49 q_s109 ⟨by decide, by decide⟩ (Nat.le_of_ble_eq_true rfl) dX0_isWrong_128 ?_
    exact hret _ _ _ _ dX0_isWrong_131 (by simp [uK_wrong, if_neg h_128, h_128]) rfl
theorem c_X0_isWrong_100 (l : Launch) (S : q_St) (m : Int32) (g : Int32) (v : Int32) : q_Fi l yX0_isWrong kX0_isWrong 3 [.ref 109, .int 100, .int m, .int g, .int v] S (if uK_wrong S 100 m g v = true then 1 else 0) S := by
  refine q_Fi_of (maxL := 5) rfl (by decide +kernel) (fun ad => Nat.le_of_ble_eq_true rfl) (by split <;> rfl) ?_
  intro K C hret
  have C : q_Cx K cX0_isWrong RX0 3 5 := C
  show q_V l K 0 [(0, .ref 109), (1, .int 100), (2, .int m), (3, .int g), (4, .int v)] [] S
  refine q_iload_n C dX0_isWrong_0 rfl rfl ?_
  refine q_tabin (off := 158) (tgt := 159) C dX0_isWrong_1 (by decide) (by decide) (by decide) (by decide) ?_
  refine q_aload_n C dX0_isWrong_159 rfl rfl ?_
  refine q_getR C flX0_9 q_s109 rfl dX0_isWrong_160 ?_
  refine q_iload_n C dX0_isWrong_163 rfl rfl ?_
  by_cases h_164 : 0 ≤ m ∧ m < S 1 0
  · refine q_ci1 C (q_Fi.cv (if_pos h_164) (c_X1_hasMatter l S m)) myX1_hasMatter mlX0_59 q_s1 ⟨by decide, by decide⟩ (Nat.le_of_ble_eq_true rfl) dX0_isWrong_164 ?_
    refine q_if_ne (tgt := 174) C dX0_isWrong_167 (by decide) (fun _ => ?_) (fun h9 => absurd h9 (by decide))
    refine q_iconst (v := 0) C dX0_isWrong_174 (by decide) ?_
    exact hret _ _ _ _ dX0_isWrong_175 (by simp [uK_wrong, if_pos h_164, h_164]) rfl
  · refine q_ci1 C (q_Fi.cv (if_neg h_164) (c_X1_hasMatter l S m)) myX1_hasMatter mlX0_59 q_s1 ⟨by decide, by decide⟩ (Nat.le_of_ble_eq_true rfl) dX0_isWrong_164 ?_
    refine q_if_ne (tgt := 174) C dX0_isWrong_167 (by decide) (fun h9 => absurd h9 (by decide)) (fun _ => ?_)
    refine q_iconst (v := 1) C dX0_isWrong_170 (by decide) ?_
    refine q_goto (tgt := 175) C dX0_isWrong_171 (by decide) ?_
    exact hret _ _ _ _ dX0_isWrong_175 (by simp [uK_wrong, if_neg h_164, h_164]) rfl
theorem c_X0_isWrong_116 (l : Launch) (S : q_St) (m : Int32) (g : Int32) (v : Int32) : q_Fi l yX0_isWrong kX0_isWrong 3 [.ref 109, .int 116, .int m, .int g, .int v] S (if uK_wrong S 116 m g v = true then 1 else 0) S := by
  refine q_Fi_of (maxL := 5) rfl (by decide +kernel) (fun ad => Nat.le_of_ble_eq_true rfl) (by split <;> rfl) ?_
  intro K C hret
  have C : q_Cx K cX0_isWrong RX0 3 5 := C
  show q_V l K 0 [(0, .ref 109), (1, .int 116), (2, .int m), (3, .int g), (4, .int v)] [] S
  refine q_iload_n C dX0_isWrong_0 rfl rfl ?_
  refine q_tabin (off := 124) (tgt := 125) C dX0_isWrong_1 (by decide) (by decide) (by decide) (by decide) ?_
  refine q_aload_n C dX0_isWrong_125 rfl rfl ?_
  refine q_iload_n C dX0_isWrong_126 rfl rfl ?_
  refine q_iload_n C dX0_isWrong_127 rfl rfl ?_
  by_cases h_128 : uK_lacks S m g
  · refine q_ci2 C (q_Fi.cv (if_pos h_128) (c_X0_lacks l S m g)) myX0_lacks mlX0_49 q_s109 ⟨by decide, by decide⟩ (Nat.le_of_ble_eq_true rfl) dX0_isWrong_128 ?_
    exact hret _ _ _ _ dX0_isWrong_131 (by simp [uK_wrong, if_pos h_128, h_128]) rfl
  · refine q_ci2 C (q_Fi.cv (if_neg h_128) (c_X0_lacks l S m g)) myX0_lacks mlX0_49 q_s109 ⟨by decide, by decide⟩ (Nat.le_of_ble_eq_true rfl) dX0_isWrong_128 ?_
    exact hret _ _ _ _ dX0_isWrong_131 (by simp [uK_wrong, if_neg h_128, h_128]) rfl
theorem c_X0_isWrong_102 (l : Launch) (S : q_St) (m : Int32) (g : Int32) (v : Int32) : q_Fi l yX0_isWrong kX0_isWrong 3 [.ref 109, .int 102, .int m, .int g, .int v] S (if uK_wrong S 102 m g v = true then 1 else 0) S := by
  refine q_Fi_of (maxL := 5) rfl (by decide +kernel) (fun ad => Nat.le_of_ble_eq_true rfl) (by split <;> rfl) ?_
  intro K C hret
  have C : q_Cx K cX0_isWrong RX0 3 5 := C
  show q_V l K 0 [(0, .ref 109), (1, .int 102), (2, .int m), (3, .int g), (4, .int v)] [] S
  refine q_iload_n C dX0_isWrong_0 rfl rfl ?_
  refine q_tabin (off := 211) (tgt := 212) C dX0_isWrong_1 (by decide) (by decide) (by decide) (by decide) ?_
  refine q_iconst (v := 0) C dX0_isWrong_212 (by decide) ?_
  exact hret _ _ _ _ dX0_isWrong_213 (by simp [uK_wrong, q_sum]) rfl
theorem c_X0_isWrong_119 (l : Launch) (S : q_St) (m : Int32) (g : Int32) (v : Int32) : q_Fi l yX0_isWrong kX0_isWrong 3 [.ref 109, .int 119, .int m, .int g, .int v] S (if uK_wrong S 119 m g v = true then 1 else 0) S := by
  refine q_Fi_of (maxL := 5) rfl (by decide +kernel) (fun ad => Nat.le_of_ble_eq_true rfl) (by split <;> rfl) ?_
  intro K C hret
  have C : q_Cx K cX0_isWrong RX0 3 5 := C
  show q_V l K 0 [(0, .ref 109), (1, .int 119), (2, .int m), (3, .int g), (4, .int v)] [] S
  refine q_iload_n C dX0_isWrong_0 rfl rfl ?_
  refine q_tabout (tgt := 212) C dX0_isWrong_1 (by decide) (by decide) ?_
  refine q_iconst (v := 0) C dX0_isWrong_212 (by decide) ?_
  exact hret _ _ _ _ dX0_isWrong_213 (by simp [uK_wrong, q_sum]) rfl
theorem c_X0_isWrong_115 (l : Launch) (S : q_St) (m : Int32) (g : Int32) (v : Int32) : q_Fi l yX0_isWrong kX0_isWrong 3 [.ref 109, .int 115, .int m, .int g, .int v] S (if uK_wrong S 115 m g v = true then 1 else 0) S := by
  refine q_Fi_of (maxL := 5) rfl (by decide +kernel) (fun ad => Nat.le_of_ble_eq_true rfl) (by split <;> rfl) ?_
  intro K C hret
  have C : q_Cx K cX0_isWrong RX0 3 5 := C
  show q_V l K 0 [(0, .ref 109), (1, .int 115), (2, .int m), (3, .int g), (4, .int v)] [] S
  refine q_iload_n C dX0_isWrong_0 rfl rfl ?_
  refine q_tabin (off := 175) (tgt := 176) C dX0_isWrong_1 (by decide) (by decide) (by decide) (by decide) ?_
  refine q_aload_n C dX0_isWrong_176 rfl rfl ?_
  refine q_getR C flX0_9 q_s109 rfl dX0_isWrong_177 ?_
  refine q_iload_n C dX0_isWrong_180 rfl rfl ?_
  by_cases h_181 : 0 ≤ g ∧ g < 6
  · refine q_ci1 C (q_Fi.cv (if_pos h_181) (c_X1_hasGuild l S g)) myX1_hasGuild mlX0_53 q_s1 ⟨by decide, by decide⟩ (Nat.le_of_ble_eq_true rfl) dX0_isWrong_181 ?_
    refine q_if_ne (tgt := 191) C dX0_isWrong_184 (by decide) (fun _ => ?_) (fun h9 => absurd h9 (by decide))
    refine q_iconst (v := 0) C dX0_isWrong_191 (by decide) ?_
    exact hret _ _ _ _ dX0_isWrong_192 (by simp [uK_wrong, if_pos h_181, h_181]) rfl
  · refine q_ci1 C (q_Fi.cv (if_neg h_181) (c_X1_hasGuild l S g)) myX1_hasGuild mlX0_53 q_s1 ⟨by decide, by decide⟩ (Nat.le_of_ble_eq_true rfl) dX0_isWrong_181 ?_
    refine q_if_ne (tgt := 191) C dX0_isWrong_184 (by decide) (fun h9 => absurd h9 (by decide)) (fun _ => ?_)
    refine q_iconst (v := 1) C dX0_isWrong_187 (by decide) ?_
    refine q_goto (tgt := 192) C dX0_isWrong_188 (by decide) ?_
    exact hret _ _ _ _ dX0_isWrong_192 (by simp [uK_wrong, if_neg h_181, h_181]) rfl
theorem c_X0_isWrong_114 (l : Launch) (S : q_St) (m : Int32) (g : Int32) (v : Int32) : q_Fi l yX0_isWrong kX0_isWrong 3 [.ref 109, .int 114, .int m, .int g, .int v] S (if uK_wrong S 114 m g v = true then 1 else 0) S := by
  refine q_Fi_of (maxL := 5) rfl (by decide +kernel) (fun ad => Nat.le_of_ble_eq_true rfl) (by split <;> rfl) ?_
  intro K C hret
  have C : q_Cx K cX0_isWrong RX0 3 5 := C
  show q_V l K 0 [(0, .ref 109), (1, .int 114), (2, .int m), (3, .int g), (4, .int v)] [] S
  refine q_iload_n C dX0_isWrong_0 rfl rfl ?_
  refine q_tabin (off := 175) (tgt := 176) C dX0_isWrong_1 (by decide) (by decide) (by decide) (by decide) ?_
  refine q_aload_n C dX0_isWrong_176 rfl rfl ?_
  refine q_getR C flX0_9 q_s109 rfl dX0_isWrong_177 ?_
  refine q_iload_n C dX0_isWrong_180 rfl rfl ?_
  by_cases h_181 : 0 ≤ g ∧ g < 6
  · refine q_ci1 C (q_Fi.cv (if_pos h_181) (c_X1_hasGuild l S g)) myX1_hasGuild mlX0_53 q_s1 ⟨by decide, by decide⟩ (Nat.le_of_ble_eq_true rfl) dX0_isWrong_181 ?_
    refine q_if_ne (tgt := 191) C dX0_isWrong_184 (by decide) (fun _ => ?_) (fun h9 => absurd h9 (by decide))
    refine q_iconst (v := 0) C dX0_isWrong_191 (by decide) ?_
    exact hret _ _ _ _ dX0_isWrong_192 (by simp [uK_wrong, if_pos h_181, h_181]) rfl
  · refine q_ci1 C (q_Fi.cv (if_neg h_181) (c_X1_hasGuild l S g)) myX1_hasGuild mlX0_53 q_s1 ⟨by decide, by decide⟩ (Nat.le_of_ble_eq_true rfl) dX0_isWrong_181 ?_
    refine q_if_ne (tgt := 191) C dX0_isWrong_184 (by decide) (fun h9 => absurd h9 (by decide)) (fun _ => ?_)
    refine q_iconst (v := 1) C dX0_isWrong_187 (by decide) ?_
    refine q_goto (tgt := 192) C dX0_isWrong_188 (by decide) ?_
    exact hret _ _ _ _ dX0_isWrong_192 (by simp [uK_wrong, if_neg h_181, h_181]) rfl
theorem c_X0_isWrong_105 (l : Launch) (S : q_St) (m : Int32) (g : Int32) (v : Int32) : q_Fi l yX0_isWrong kX0_isWrong 3 [.ref 109, .int 105, .int m, .int g, .int v] S (if uK_wrong S 105 m g v = true then 1 else 0) S := by
  refine q_Fi_of (maxL := 5) rfl (by decide +kernel) (fun ad => Nat.le_of_ble_eq_true rfl) (by split <;> rfl) ?_
  intro K C hret
  have C : q_Cx K cX0_isWrong RX0 3 5 := C
  show q_V l K 0 [(0, .ref 109), (1, .int 105), (2, .int m), (3, .int g), (4, .int v)] [] S
  refine q_iload_n C dX0_isWrong_0 rfl rfl ?_
  refine q_tabin (off := 131) (tgt := 132) C dX0_isWrong_1 (by decide) (by decide) (by decide) (by decide) ?_
  refine q_aload_n C dX0_isWrong_132 rfl rfl ?_
  refine q_iload_n C dX0_isWrong_133 rfl rfl ?_
  refine q_iload_n C dX0_isWrong_134 rfl rfl ?_
  by_cases h_135 : uK_lacks S m g
  · refine q_ci2 C (q_Fi.cv (if_pos h_135) (c_X0_lacks l S m g)) myX0_lacks mlX0_49 q_s109 ⟨by decide, by decide⟩ (Nat.le_of_ble_eq_true rfl) dX0_isWrong_135 ?_
    refine q_if_ne (tgt := 153) C dX0_isWrong_138 (by decide) (fun _ => ?_) (fun h9 => absurd h9 (by decide))
    refine q_iconst (v := 1) C dX0_isWrong_153 (by decide) ?_
    refine q_goto (tgt := 158) C dX0_isWrong_154 (by decide) ?_
    exact hret _ _ _ _ dX0_isWrong_158 (by simp [uK_wrong, if_pos h_135, h_135]) rfl
  · refine q_ci2 C (q_Fi.cv (if_neg h_135) (c_X0_lacks l S m g)) myX0_lacks mlX0_49 q_s109 ⟨by decide, by decide⟩ (Nat.le_of_ble_eq_true rfl) dX0_isWrong_135 ?_
    refine q_if_ne (tgt := 153) C dX0_isWrong_138 (by decide) (fun h9 => absurd h9 (by decide)) (fun _ => ?_)
    refine q_aload_n C dX0_isWrong_141 rfl rfl ?_
    refine q_getR C flX0_9 q_s109 rfl dX0_isWrong_142 ?_
    refine q_iload C dX0_isWrong_145 rfl ?_
    by_cases h_147 : 0 ≤ v ∧ v < 6
    · refine q_ci1 C (q_Fi.cv (if_pos h_147) (c_X1_hasGuild l S v)) myX1_hasGuild mlX0_53 q_s1 ⟨by decide, by decide⟩ (Nat.le_of_ble_eq_true rfl) dX0_isWrong_147 ?_
      refine q_if_ne (tgt := 157) C dX0_isWrong_150 (by decide) (fun _ => ?_) (fun h9 => absurd h9 (by decide))
      refine q_iconst (v := 0) C dX0_isWrong_157 (by decide) ?_
      exact hret _ _ _ _ dX0_isWrong_158 (by simp [uK_wrong, if_neg h_135, h_135, if_pos h_147, h_147]) rfl
    · refine q_ci1 C (q_Fi.cv (if_neg h_147) (c_X1_hasGuild l S v)) myX1_hasGuild mlX0_53 q_s1 ⟨by decide, by decide⟩ (Nat.le_of_ble_eq_true rfl) dX0_isWrong_147 ?_
      refine q_if_ne (tgt := 157) C dX0_isWrong_150 (by decide) (fun h9 => absurd h9 (by decide)) (fun _ => ?_)
      refine q_iconst (v := 1) C dX0_isWrong_153 (by decide) ?_
      refine q_goto (tgt := 158) C dX0_isWrong_154 (by decide) ?_
      exact hret _ _ _ _ dX0_isWrong_158 (by simp [uK_wrong, if_neg h_135, h_135, if_neg h_147, h_147]) rfl
theorem c_X0_isWrong_104 (l : Launch) (S : q_St) (m : Int32) (g : Int32) (v : Int32) : q_Fi l yX0_isWrong kX0_isWrong 3 [.ref 109, .int 104, .int m, .int g, .int v] S (if uK_wrong S 104 m g v = true then 1 else 0) S := by
  refine q_Fi_of (maxL := 5) rfl (by decide +kernel) (fun ad => Nat.le_of_ble_eq_true rfl) (by split <;> rfl) ?_
  intro K C hret
  have C : q_Cx K cX0_isWrong RX0 3 5 := C
  show q_V l K 0 [(0, .ref 109), (1, .int 104), (2, .int m), (3, .int g), (4, .int v)] [] S
  refine q_iload_n C dX0_isWrong_0 rfl rfl ?_
  refine q_tabin (off := 192) (tgt := 193) C dX0_isWrong_1 (by decide) (by decide) (by decide) (by decide) ?_
  refine q_iload C dX0_isWrong_193 rfl ?_
  refine q_iconst (v := 1) C dX0_isWrong_195 (by decide) ?_
  refine q_icmp_lt (tgt := 206) C dX0_isWrong_196 (by decide)  (fun c_196 => ?_) (fun c_196 => ?_)
  · refine q_iconst (v := 1) C dX0_isWrong_206 (by decide) ?_
    refine q_goto (tgt := 211) C dX0_isWrong_207 (by decide) ?_
    exact hret _ _ _ _ dX0_isWrong_211 (by simp [uK_wrong, c_196, Int32.not_le.mpr c_196, if_pos c_196]) rfl
  · refine q_iload C dX0_isWrong_199 rfl ?_
    refine q_bipush (v := 24) C dX0_isWrong_201 (by decide) ?_
    refine q_icmp_le (tgt := 210) C dX0_isWrong_203 (by decide)  (fun c_203 => ?_) (fun c_203 => ?_)
    · refine q_iconst (v := 0) C dX0_isWrong_210 (by decide) ?_
      exact hret _ _ _ _ dX0_isWrong_211 (by simp [uK_wrong, c_196, Int32.not_lt.mpr c_196, if_neg (Int32.not_lt.mpr c_196), c_203, Int32.not_lt.mpr c_203, if_neg (Int32.not_lt.mpr c_203)]) rfl
    · refine q_iconst (v := 1) C dX0_isWrong_206 (by decide) ?_
      refine q_goto (tgt := 211) C dX0_isWrong_207 (by decide) ?_
      exact hret _ _ _ _ dX0_isWrong_211 (by simp [uK_wrong, c_196, Int32.not_lt.mpr c_196, if_neg (Int32.not_lt.mpr c_196), c_203, Int32.not_le.mpr c_203, if_pos c_203]) rfl
theorem c_X0_isRefused_110 (l : Launch) (S : q_St) (M : Nat) (hM : S 1 0 = nI M) (hM8 : M ≤ 8) (m : Int32) (g : Int32) (v : Int32) : q_Fi l yX0_isRefused kX0_isRefused 6 [.ref 109, .int 110, .int m, .int g, .int v] S (uR_v (uR_matter M)) (uR_st S (uR_matter M)) := by
  refine q_Fi_of (maxL := 5) rfl (by decide +kernel) (fun ad => Nat.le_of_ble_eq_true rfl) (uR_nb _) ?_
  intro K C hret
  have C : q_Cx K cX0_isRefused RX0 6 5 := C
  show q_V l K 0 [(0, .ref 109), (1, .int 110), (2, .int m), (3, .int g), (4, .int v)] [] S
  refine q_iload_n C dX0_isRefused_0 rfl rfl ?_
  refine q_tabin (off := 107) (tgt := 108) C dX0_isRefused_1 (by decide) (by decide) (by decide) (by decide) ?_
  refine q_aload_n C dX0_isRefused_108 rfl rfl ?_
  refine q_getR C flX0_15 q_s109 rfl dX0_isRefused_109 ?_
  refine q_ci0 C (c_X5_refusesMatter l S M hM hM8) myX5_refusesMatter mlX0_62 q_s102 ⟨by decide, by decide⟩ (Nat.le_of_ble_eq_true rfl) dX0_isRefused_112 ?_
  exact hret _ _ _ _ dX0_isRefused_115 rfl rfl
theorem c_X0_isRefused_97 (l : Launch) (S : q_St) (m : Nat) (hm : m < 8) (g : Nat) (hg : g < 6) (v : Int32) : q_Fi l yX0_isRefused kX0_isRefused 6 [.ref 109, .int 97, .int (nI m), .int (nI g), .int v] S (uR_v (uR_setA S m g v)) (uR_st S (uR_setA S m g v)) := by
  refine q_Fi_of (maxL := 5) rfl (by decide +kernel) (fun ad => Nat.le_of_ble_eq_true rfl) (uR_nb _) ?_
  intro K C hret
  have C : q_Cx K cX0_isRefused RX0 6 5 := C
  show q_V l K 0 [(0, .ref 109), (1, .int 97), (2, .int (nI m)), (3, .int (nI g)), (4, .int v)] [] S
  refine q_iload_n C dX0_isRefused_0 rfl rfl ?_
  refine q_tabin (off := 115) (tgt := 116) C dX0_isRefused_1 (by decide) (by decide) (by decide) (by decide) ?_
  refine q_aload_n C dX0_isRefused_116 rfl rfl ?_
  refine q_getR C flX0_15 q_s109 rfl dX0_isRefused_117 ?_
  refine q_iload_n C dX0_isRefused_120 rfl rfl ?_
  refine q_iload_n C dX0_isRefused_121 rfl rfl ?_
  refine q_iload C dX0_isRefused_122 rfl ?_
  refine q_ci3 C (c_X5_refusesSet l S m (by omega) g (by omega) v) myX5_refusesSet mlX0_68 q_s102 ⟨by decide, by decide⟩ (Nat.le_of_ble_eq_true rfl) dX0_isRefused_124 ?_
  exact hret _ _ _ _ dX0_isRefused_127 rfl rfl
theorem c_X0_isRefused_113 (l : Launch) (S : q_St) (M : Nat) (hM : S 1 0 = nI M) (hM8 : M ≤ 8) (m : Nat) (hm : m < 8) (g : Nat) (hg : g < 6) (v : Int32) : q_Fi l yX0_isRefused kX0_isRefused 6 [.ref 109, .int 113, .int (nI m), .int (nI g), .int v] S (uR_v (uR_ask S M m g)) (uR_st S (uR_ask S M m g)) := by
  refine q_Fi_of (maxL := 5) rfl (by decide +kernel) (fun ad => Nat.le_of_ble_eq_true rfl) (uR_nb _) ?_
  intro K C hret
  have C : q_Cx K cX0_isRefused RX0 6 5 := C
  show q_V l K 0 [(0, .ref 109), (1, .int 113), (2, .int (nI m)), (3, .int (nI g)), (4, .int v)] [] S
  refine q_iload_n C dX0_isRefused_0 rfl rfl ?_
  refine q_tabin (off := 127) (tgt := 128) C dX0_isRefused_1 (by decide) (by decide) (by decide) (by decide) ?_
  refine q_aload_n C dX0_isRefused_128 rfl rfl ?_
  refine q_getR C flX0_15 q_s109 rfl dX0_isRefused_129 ?_
  refine q_iload_n C dX0_isRefused_132 rfl rfl ?_
  refine q_iload_n C dX0_isRefused_133 rfl rfl ?_
  refine q_ci2 C (c_X5_refusesAsk l S M hM hM8 m (by omega) g (by omega)) myX5_refusesAsk mlX0_72 q_s102 ⟨by decide, by decide⟩ (Nat.le_of_ble_eq_true rfl) dX0_isRefused_134 ?_
  exact hret _ _ _ _ dX0_isRefused_137 rfl rfl
theorem c_X0_isRefused_100 (l : Launch) (S : q_St) (M : Nat) (hM : S 1 0 = nI M) (hM8 : M ≤ 8) (m : Nat) (hm : m < 8) (g : Int32) (v : Int32) : q_Fi l yX0_isRefused kX0_isRefused 6 [.ref 109, .int 100, .int (nI m), .int g, .int v] S (uR_v (uR_decide S M m)) (uR_st S (uR_decide S M m)) := by
  refine q_Fi_of (maxL := 5) rfl (by decide +kernel) (fun ad => Nat.le_of_ble_eq_true rfl) (uR_nb _) ?_
  intro K C hret
  have C : q_Cx K cX0_isRefused RX0 6 5 := C
  show q_V l K 0 [(0, .ref 109), (1, .int 100), (2, .int (nI m)), (3, .int g), (4, .int v)] [] S
  refine q_iload_n C dX0_isRefused_0 rfl rfl ?_
  refine q_tabin (off := 137) (tgt := 138) C dX0_isRefused_1 (by decide) (by decide) (by decide) (by decide) ?_
  refine q_aload_n C dX0_isRefused_138 rfl rfl ?_
  refine q_getR C flX0_15 q_s109 rfl dX0_isRefused_139 ?_
  refine q_iload_n C dX0_isRefused_142 rfl rfl ?_
  refine q_ci1 C (c_X5_refusesDecide l S M hM hM8 m (by omega)) myX5_refusesDecide mlX0_75 q_s102 ⟨by decide, by decide⟩ (Nat.le_of_ble_eq_true rfl) dX0_isRefused_143 ?_
  exact hret _ _ _ _ dX0_isRefused_146 rfl rfl
theorem c_X0_isRefused_116 (l : Launch) (S : q_St) (M : Nat) (hM : S 1 0 = nI M) (hM8 : M ≤ 8) (m : Nat) (hm : m < 8) (g : Nat) (hg : g < 6) (v : Int32) : q_Fi l yX0_isRefused kX0_isRefused 6 [.ref 109, .int 116, .int (nI m), .int (nI g), .int v] S (uR_v (uR_tell S M m g)) (uR_st S (uR_tell S M m g)) := by
  refine q_Fi_of (maxL := 5) rfl (by decide +kernel) (fun ad => Nat.le_of_ble_eq_true rfl) (uR_nb _) ?_
  intro K C hret
  have C : q_Cx K cX0_isRefused RX0 6 5 := C
  show q_V l K 0 [(0, .ref 109), (1, .int 116), (2, .int (nI m)), (3, .int (nI g)), (4, .int v)] [] S
  refine q_iload_n C dX0_isRefused_0 rfl rfl ?_
  refine q_tabin (off := 146) (tgt := 147) C dX0_isRefused_1 (by decide) (by decide) (by decide) (by decide) ?_
  refine q_aload_n C dX0_isRefused_147 rfl rfl ?_
  refine q_getR C flX0_15 q_s109 rfl dX0_isRefused_148 ?_
  refine q_iload_n C dX0_isRefused_151 rfl rfl ?_
  refine q_iload_n C dX0_isRefused_152 rfl rfl ?_
  refine q_ci2 C (c_X5_refusesTell l S M hM hM8 m (by omega) g (by omega)) myX5_refusesTell mlX0_78 q_s102 ⟨by decide, by decide⟩ (Nat.le_of_ble_eq_true rfl) dX0_isRefused_153 ?_
  exact hret _ _ _ _ dX0_isRefused_156 rfl rfl
theorem c_X0_isRefused_102 (l : Launch) (S : q_St) (M : Nat) (hM : S 1 0 = nI M) (hM8 : M ≤ 8) (m : Int32) (g : Int32) (v : Int32) : q_Fi l yX0_isRefused kX0_isRefused 6 [.ref 109, .int 102, .int m, .int g, .int v] S (uR_v (uR_fainted S M)) (uR_st S (uR_fainted S M)) := by
  refine q_Fi_of (maxL := 5) rfl (by decide +kernel) (fun ad => Nat.le_of_ble_eq_true rfl) (uR_nb _) ?_
  intro K C hret
  have C : q_Cx K cX0_isRefused RX0 6 5 := C
  show q_V l K 0 [(0, .ref 109), (1, .int 102), (2, .int m), (3, .int g), (4, .int v)] [] S
  refine q_iload_n C dX0_isRefused_0 rfl rfl ?_
  refine q_tabin (off := 156) (tgt := 157) C dX0_isRefused_1 (by decide) (by decide) (by decide) (by decide) ?_
  refine q_aload_n C dX0_isRefused_157 rfl rfl ?_
  refine q_getR C flX0_15 q_s109 rfl dX0_isRefused_158 ?_
  refine q_ci0 C (c_X5_refusesFaint l S M hM hM8) myX5_refusesFaint mlX0_81 q_s102 ⟨by decide, by decide⟩ (Nat.le_of_ble_eq_true rfl) dX0_isRefused_161 ?_
  exact hret _ _ _ _ dX0_isRefused_164 rfl rfl
theorem c_X0_isRefused_119 (l : Launch) (S : q_St) (m : Int32) (g : Int32) (v : Int32) (hz : q_bool S 1) : q_Fi l yX0_isRefused kX0_isRefused 6 [.ref 109, .int 119, .int m, .int g, .int v] S (uR_v (uR_wake S)) (uR_st S (uR_wake S)) := by
  refine q_Fi_of (maxL := 5) rfl (by decide +kernel) (fun ad => Nat.le_of_ble_eq_true rfl) (uR_nb _) ?_
  intro K C hret
  have C : q_Cx K cX0_isRefused RX0 6 5 := C
  show q_V l K 0 [(0, .ref 109), (1, .int 119), (2, .int m), (3, .int g), (4, .int v)] [] S
  refine q_iload_n C dX0_isRefused_0 rfl rfl ?_
  refine q_tabin (off := 164) (tgt := 165) C dX0_isRefused_1 (by decide) (by decide) (by decide) (by decide) ?_
  refine q_aload_n C dX0_isRefused_165 rfl rfl ?_
  refine q_getR C flX0_15 q_s109 rfl dX0_isRefused_166 ?_
  refine q_ci0 C (c_X5_refusesWake l S hz) myX5_refusesWake mlX0_84 q_s102 ⟨by decide, by decide⟩ (Nat.le_of_ble_eq_true rfl) dX0_isRefused_169 ?_
  exact hret _ _ _ _ dX0_isRefused_172 rfl rfl
theorem c_X0_isRefused_115 (l : Launch) (S : q_St) (m : Int32) (g : Nat) (hg : g < 6) (v : Int32) : q_Fi l yX0_isRefused kX0_isRefused 6 [.ref 109, .int 115, .int m, .int (nI g), .int v] S (uR_v (uR_sleep S g)) (uR_st S (uR_sleep S g)) := by
  refine q_Fi_of (maxL := 5) rfl (by decide +kernel) (fun ad => Nat.le_of_ble_eq_true rfl) (uR_nb _) ?_
  intro K C hret
  have C : q_Cx K cX0_isRefused RX0 6 5 := C
  show q_V l K 0 [(0, .ref 109), (1, .int 115), (2, .int m), (3, .int (nI g)), (4, .int v)] [] S
  refine q_iload_n C dX0_isRefused_0 rfl rfl ?_
  refine q_tabin (off := 172) (tgt := 173) C dX0_isRefused_1 (by decide) (by decide) (by decide) (by decide) ?_
  refine q_aload_n C dX0_isRefused_173 rfl rfl ?_
  refine q_getR C flX0_15 q_s109 rfl dX0_isRefused_174 ?_
  refine q_iload_n C dX0_isRefused_177 rfl rfl ?_
  refine q_ci1 C (c_X5_refusesSleep l S g (by omega)) myX5_refusesSleep mlX0_87 q_s102 ⟨by decide, by decide⟩ (Nat.le_of_ble_eq_true rfl) dX0_isRefused_178 ?_
  exact hret _ _ _ _ dX0_isRefused_181 rfl rfl
theorem c_X0_isRefused_114 (l : Launch) (S : q_St) (m : Int32) (g : Nat) (hg : g < 6) (v : Int32) (hz : q_bool S 1) : q_Fi l yX0_isRefused kX0_isRefused 6 [.ref 109, .int 114, .int m, .int (nI g), .int v] S (uR_v (uR_rouse S g)) (uR_st S (uR_rouse S g)) := by
  refine q_Fi_of (maxL := 5) rfl (by decide +kernel) (fun ad => Nat.le_of_ble_eq_true rfl) (uR_nb _) ?_
  intro K C hret
  have C : q_Cx K cX0_isRefused RX0 6 5 := C
  show q_V l K 0 [(0, .ref 109), (1, .int 114), (2, .int m), (3, .int (nI g)), (4, .int v)] [] S
  refine q_iload_n C dX0_isRefused_0 rfl rfl ?_
  refine q_tabin (off := 181) (tgt := 182) C dX0_isRefused_1 (by decide) (by decide) (by decide) (by decide) ?_
  refine q_aload_n C dX0_isRefused_182 rfl rfl ?_
  refine q_getR C flX0_15 q_s109 rfl dX0_isRefused_183 ?_
  refine q_iload_n C dX0_isRefused_186 rfl rfl ?_
  refine q_ci1 C (c_X5_refusesRouse l S g (by omega) hz) myX5_refusesRouse mlX0_90 q_s102 ⟨by decide, by decide⟩ (Nat.le_of_ble_eq_true rfl) dX0_isRefused_187 ?_
  exact hret _ _ _ _ dX0_isRefused_190 rfl rfl
theorem c_X0_isRefused_105 (l : Launch) (S : q_St) (m : Nat) (hm : m < 8) (g : Nat) (hg : g < 6) (v : Nat) (hv : v < 6) : q_Fi l yX0_isRefused kX0_isRefused 6 [.ref 109, .int 105, .int (nI m), .int (nI g), .int (nI v)] S (uR_v (uR_inq S m g v)) (uR_st S (uR_inq S m g v)) := by
  refine q_Fi_of (maxL := 5) rfl (by decide +kernel) (fun ad => Nat.le_of_ble_eq_true rfl) (uR_nb _) ?_
  intro K C hret
  have C : q_Cx K cX0_isRefused RX0 6 5 := C
  show q_V l K 0 [(0, .ref 109), (1, .int 105), (2, .int (nI m)), (3, .int (nI g)), (4, .int (nI v))] [] S
  refine q_iload_n C dX0_isRefused_0 rfl rfl ?_
  refine q_tabin (off := 190) (tgt := 191) C dX0_isRefused_1 (by decide) (by decide) (by decide) (by decide) ?_
  refine q_aload_n C dX0_isRefused_191 rfl rfl ?_
  refine q_getR C flX0_15 q_s109 rfl dX0_isRefused_192 ?_
  refine q_iload_n C dX0_isRefused_195 rfl rfl ?_
  refine q_iload_n C dX0_isRefused_196 rfl rfl ?_
  refine q_iload C dX0_isRefused_197 rfl ?_
  refine q_ci3 C (c_X5_refusesInquire l S m (by omega) g (by omega) v (by omega)) myX5_refusesInquire mlX0_93 q_s102 ⟨by decide, by decide⟩ (Nat.le_of_ble_eq_true rfl) dX0_isRefused_199 ?_
  exact hret _ _ _ _ dX0_isRefused_202 rfl rfl
theorem c_X0_isRefused_104 (l : Launch) (S : q_St) (m : Int32) (g : Int32) (v : Int32) : q_Fi l yX0_isRefused kX0_isRefused 6 [.ref 109, .int 104, .int m, .int g, .int v] S 0 S := by
  refine q_Fi_of (maxL := 5) rfl (by decide +kernel) (fun ad => Nat.le_of_ble_eq_true rfl) rfl ?_
  intro K C hret
  have C : q_Cx K cX0_isRefused RX0 6 5 := C
  show q_V l K 0 [(0, .ref 109), (1, .int 104), (2, .int m), (3, .int g), (4, .int v)] [] S
  refine q_iload_n C dX0_isRefused_0 rfl rfl ?_
  refine q_tabin (off := 202) (tgt := 203) C dX0_isRefused_1 (by decide) (by decide) (by decide) (by decide) ?_
  refine q_iconst (v := 0) C dX0_isRefused_203 (by decide) ?_
  exact hret _ _ _ _ dX0_isRefused_204 rfl rfl
theorem c_X0_perform_110 (l : Launch) (S : q_St) (M : Nat) (hM : S 1 0 = nI M) (hM8 : M ≤ 8) (m : Int32) (g : Int32) (v : Int32) (hM7 : M < 8) : q_Fi l yX0_perform kX0_perform 6 [.ref 109, .int 110, .int m, .int g, .int v] S (nI M) (q_p (q_p S 3 M (S 1 2)) 1 0 (nI (M + 1))) := by
  refine q_Fi_of (maxL := 5) rfl (by decide +kernel) (fun ad => Nat.le_of_ble_eq_true rfl) rfl ?_
  intro K C hret
  have C : q_Cx K cX0_perform RX0 6 5 := C
  show q_V l K 0 [(0, .ref 109), (1, .int 110), (2, .int m), (3, .int g), (4, .int v)] [] S
  refine q_iload_n C dX0_perform_0 rfl rfl ?_
  refine q_tabin (off := 107) (tgt := 108) C dX0_perform_1 (by decide) (by decide) (by decide) (by decide) ?_
  refine q_aload_n C dX0_perform_108 rfl rfl ?_
  refine q_getR C flX0_9 q_s109 rfl dX0_perform_109 ?_
  refine q_ci0 C (q_Fi.cv hM (c_X1_makeMatter l S M hM hM8 hM7)) myX1_makeMatter mlX0_96 q_s1 ⟨by decide, by decide⟩ (Nat.le_of_ble_eq_true rfl) dX0_perform_112 ?_
  exact hret _ _ _ _ dX0_perform_115 rfl rfl
theorem c_X0_perform_97 (l : Launch) (S : q_St) (m : Nat) (hm : m < 8) (g : Nat) (hg : g < 6) (v : Int32) : q_Fi l yX0_perform kX0_perform 6 [.ref 109, .int 97, .int (nI m), .int (nI g), .int v] S (uC_guilds (q_p S 5 (m * 6 + g) v) m) (q_p S 5 (m * 6 + g) v) := by
  refine q_Fi_of (maxL := 5) rfl (by decide +kernel) (fun ad => Nat.le_of_ble_eq_true rfl) rfl ?_
  intro K C hret
  have C : q_Cx K cX0_perform RX0 6 5 := C
  show q_V l K 0 [(0, .ref 109), (1, .int 97), (2, .int (nI m)), (3, .int (nI g)), (4, .int v)] [] S
  refine q_iload_n C dX0_perform_0 rfl rfl ?_
  refine q_tabin (off := 115) (tgt := 116) C dX0_perform_1 (by decide) (by decide) (by decide) (by decide) ?_
  refine q_aload_n C dX0_perform_116 rfl rfl ?_
  refine q_getR C flX0_9 q_s109 rfl dX0_perform_117 ?_
  refine q_iload_n C dX0_perform_120 rfl rfl ?_
  refine q_iload_n C dX0_perform_121 rfl rfl ?_
  refine q_iload C dX0_perform_122 rfl ?_
  refine q_ci3 C (c_X1_setAmount l S m (by omega) g (by omega) v) myX1_setAmount mlX0_100 q_s1 ⟨by decide, by decide⟩ (Nat.le_of_ble_eq_true rfl) dX0_perform_124 ?_
  exact hret _ _ _ _ dX0_perform_127 rfl rfl
theorem c_X0_perform_113 (l : Launch) (S : q_St) (M : Nat) (hM : S 1 0 = nI M) (hM8 : M ≤ 8) (m : Nat) (hm : m < 8) (g : Nat) (hg : g < 6) (v : Int32) : q_Fi l yX0_perform kX0_perform 6 [.ref 109, .int 113, .int (nI m), .int (nI g), .int v] S (if uC_would S M m g then 1 else 2) (uC_ask S M m g) := by
  refine q_Fi_of (maxL := 5) rfl (by decide +kernel) (fun ad => Nat.le_of_ble_eq_true rfl) rfl ?_
  intro K C hret
  have C : q_Cx K cX0_perform RX0 6 5 := C
  show q_V l K 0 [(0, .ref 109), (1, .int 113), (2, .int (nI m)), (3, .int (nI g)), (4, .int v)] [] S
  refine q_iload_n C dX0_perform_0 rfl rfl ?_
  refine q_tabin (off := 127) (tgt := 128) C dX0_perform_1 (by decide) (by decide) (by decide) (by decide) ?_
  refine q_aload_n C dX0_perform_128 rfl rfl ?_
  refine q_getR C flX0_9 q_s109 rfl dX0_perform_129 ?_
  refine q_iload_n C dX0_perform_132 rfl rfl ?_
  refine q_iload_n C dX0_perform_133 rfl rfl ?_
  refine q_ci2 C (c_X1_askGuild l S M hM hM8 m (by omega) g (by omega)) myX1_askGuild mlX0_104 q_s1 ⟨by decide, by decide⟩ (Nat.le_of_ble_eq_true rfl) dX0_perform_134 ?_
  exact hret _ _ _ _ dX0_perform_137 rfl rfl
theorem c_X0_perform_100 (l : Launch) (S : q_St) (N : Nat) (hN : S 1 1 = nI N) (hN8 : N < 8) (m : Nat) (hm : m < 8) (g : Int32) (v : Int32) : q_Fi l yX0_perform kX0_perform 6 [.ref 109, .int 100, .int (nI m), .int g, .int v] S (if uC_opposed S m then 2 else 1) (uC_decide S N m) := by
  refine q_Fi_of (maxL := 5) rfl (by decide +kernel) (fun ad => Nat.le_of_ble_eq_true rfl) rfl ?_
  intro K C hret
  have C : q_Cx K cX0_perform RX0 6 5 := C
  show q_V l K 0 [(0, .ref 109), (1, .int 100), (2, .int (nI m)), (3, .int g), (4, .int v)] [] S
  refine q_iload_n C dX0_perform_0 rfl rfl ?_
  refine q_tabin (off := 137) (tgt := 138) C dX0_perform_1 (by decide) (by decide) (by decide) (by decide) ?_
  refine q_aload_n C dX0_perform_138 rfl rfl ?_
  refine q_getR C flX0_9 q_s109 rfl dX0_perform_139 ?_
  refine q_iload_n C dX0_perform_142 rfl rfl ?_
  refine q_ci1 C (c_X1_decideMatter l S N hN hN8 m (by omega)) myX1_decideMatter mlX0_108 q_s1 ⟨by decide, by decide⟩ (Nat.le_of_ble_eq_true rfl) dX0_perform_143 ?_
  exact hret _ _ _ _ dX0_perform_146 rfl rfl
theorem c_X0_perform_116 (l : Launch) (S : q_St) (m : Nat) (hm : m < 8) (g : Nat) (hg : g < 6) (v : Int32) : q_Fi l yX0_perform kX0_perform 6 [.ref 109, .int 116, .int (nI m), .int (nI g), .int v] S (uC_tell S m g 7 g) (uC_tell S m g) := by
  refine q_Fi_of (maxL := 5) rfl (by decide +kernel) (fun ad => Nat.le_of_ble_eq_true rfl) rfl ?_
  intro K C hret
  have C : q_Cx K cX0_perform RX0 6 5 := C
  show q_V l K 0 [(0, .ref 109), (1, .int 116), (2, .int (nI m)), (3, .int (nI g)), (4, .int v)] [] S
  refine q_iload_n C dX0_perform_0 rfl rfl ?_
  refine q_tabin (off := 146) (tgt := 147) C dX0_perform_1 (by decide) (by decide) (by decide) (by decide) ?_
  refine q_aload_n C dX0_perform_147 rfl rfl ?_
  refine q_getR C flX0_9 q_s109 rfl dX0_perform_148 ?_
  refine q_iload_n C dX0_perform_151 rfl rfl ?_
  refine q_iload_n C dX0_perform_152 rfl rfl ?_
  refine q_ci2 C (c_X1_tellGuild l S m (by omega) g (by omega)) myX1_tellGuild mlX0_112 q_s1 ⟨by decide, by decide⟩ (Nat.le_of_ble_eq_true rfl) dX0_perform_153 ?_
  exact hret _ _ _ _ dX0_perform_156 rfl rfl
theorem c_X0_perform_102 (l : Launch) (S : q_St) (M : Nat) (hM : S 1 0 = nI M) (hM8 : M ≤ 8) (m : Int32) (g : Int32) (v : Int32) : q_Fi l yX0_perform kX0_perform 6 [.ref 109, .int 102, .int m, .int g, .int v] S (uC_matters S M 0) (uC_faint S) := by
  refine q_Fi_of (maxL := 5) rfl (by decide +kernel) (fun ad => Nat.le_of_ble_eq_true rfl) rfl ?_
  intro K C hret
  have C : q_Cx K cX0_perform RX0 6 5 := C
  show q_V l K 0 [(0, .ref 109), (1, .int 102), (2, .int m), (3, .int g), (4, .int v)] [] S
  refine q_iload_n C dX0_perform_0 rfl rfl ?_
  refine q_tabin (off := 156) (tgt := 157) C dX0_perform_1 (by decide) (by decide) (by decide) (by decide) ?_
  refine q_aload_n C dX0_perform_157 rfl rfl ?_
  refine q_getR C flX0_9 q_s109 rfl dX0_perform_158 ?_
  refine q_ci0 C (c_X1_letHeraldFaint l S M hM hM8) myX1_letHeraldFaint mlX0_115 q_s1 ⟨by decide, by decide⟩ (Nat.le_of_ble_eq_true rfl) dX0_perform_161 ?_
  exact hret _ _ _ _ dX0_perform_164 rfl rfl
theorem c_X0_perform_119 (l : Launch) (S : q_St) (M : Nat) (hM : S 1 0 = nI M) (hM8 : M ≤ 8) (N : Nat) (hN : S 1 1 = nI N) (hW : uC_wkN (q_p S 1 5 1) N M ≤ 8) (m : Int32) (g : Int32) (v : Int32) : q_Fi l yX0_perform kX0_perform 6 [.ref 109, .int 119, .int m, .int g, .int v] S (nI (uC_wkN (q_p S 1 5 1) N M) - nI N) (uC_wake S M N) := by
  refine q_Fi_of (maxL := 5) rfl (by decide +kernel) (fun ad => Nat.le_of_ble_eq_true rfl) rfl ?_
  intro K C hret
  have C : q_Cx K cX0_perform RX0 6 5 := C
  show q_V l K 0 [(0, .ref 109), (1, .int 119), (2, .int m), (3, .int g), (4, .int v)] [] S
  refine q_iload_n C dX0_perform_0 rfl rfl ?_
  refine q_tabin (off := 164) (tgt := 165) C dX0_perform_1 (by decide) (by decide) (by decide) (by decide) ?_
  refine q_aload_n C dX0_perform_165 rfl rfl ?_
  refine q_getR C flX0_9 q_s109 rfl dX0_perform_166 ?_
  refine q_ci0 C (c_X1_letHeraldWake l S M hM hM8 N hN hW) myX1_letHeraldWake mlX0_118 q_s1 ⟨by decide, by decide⟩ (Nat.le_of_ble_eq_true rfl) dX0_perform_169 ?_
  exact hret _ _ _ _ dX0_perform_172 rfl rfl
theorem c_X0_perform_115 (l : Launch) (S : q_St) (m : Int32) (g : Nat) (hg : g < 6) (v : Int32) : q_Fi l yX0_perform kX0_perform 6 [.ref 109, .int 115, .int m, .int (nI g), .int v] S (uC_awake (q_p S 9 g 0)) (q_p S 9 g 0) := by
  refine q_Fi_of (maxL := 5) rfl (by decide +kernel) (fun ad => Nat.le_of_ble_eq_true rfl) rfl ?_
  intro K C hret
  have C : q_Cx K cX0_perform RX0 6 5 := C
  show q_V l K 0 [(0, .ref 109), (1, .int 115), (2, .int m), (3, .int (nI g)), (4, .int v)] [] S
  refine q_iload_n C dX0_perform_0 rfl rfl ?_
  refine q_tabin (off := 172) (tgt := 173) C dX0_perform_1 (by decide) (by decide) (by decide) (by decide) ?_
  refine q_aload_n C dX0_perform_173 rfl rfl ?_
  refine q_getR C flX0_9 q_s109 rfl dX0_perform_174 ?_
  refine q_iload_n C dX0_perform_177 rfl rfl ?_
  refine q_iconst (v := 0) C dX0_perform_178 (by decide) ?_
  refine q_ci2 C (c_X1_makeAwake0 l S g (by omega)) myX1_makeAwake mlX0_121 q_s1 ⟨by decide, by decide⟩ (Nat.le_of_ble_eq_true rfl) dX0_perform_179 ?_
  exact hret _ _ _ _ dX0_perform_182 rfl rfl
theorem c_X0_perform_114 (l : Launch) (S : q_St) (m : Int32) (g : Nat) (hg : g < 6) (v : Int32) : q_Fi l yX0_perform kX0_perform 6 [.ref 109, .int 114, .int m, .int (nI g), .int v] S (uC_awake (q_p S 9 g 1)) (q_p S 9 g 1) := by
  refine q_Fi_of (maxL := 5) rfl (by decide +kernel) (fun ad => Nat.le_of_ble_eq_true rfl) rfl ?_
  intro K C hret
  have C : q_Cx K cX0_perform RX0 6 5 := C
  show q_V l K 0 [(0, .ref 109), (1, .int 114), (2, .int m), (3, .int (nI g)), (4, .int v)] [] S
  refine q_iload_n C dX0_perform_0 rfl rfl ?_
  refine q_tabin (off := 182) (tgt := 183) C dX0_perform_1 (by decide) (by decide) (by decide) (by decide) ?_
  refine q_aload_n C dX0_perform_183 rfl rfl ?_
  refine q_getR C flX0_9 q_s109 rfl dX0_perform_184 ?_
  refine q_iload_n C dX0_perform_187 rfl rfl ?_
  refine q_iconst (v := 1) C dX0_perform_188 (by decide) ?_
  refine q_ci2 C (c_X1_makeAwake1 l S g (by omega)) myX1_makeAwake mlX0_121 q_s1 ⟨by decide, by decide⟩ (Nat.le_of_ble_eq_true rfl) dX0_perform_189 ?_
  exact hret _ _ _ _ dX0_perform_192 rfl rfl
theorem c_X0_perform_105 (l : Launch) (S : q_St) (m : Nat) (hm : m < 8) (g : Nat) (hg : g < 6) (v : Nat) (hv : v < 6) : q_Fi l yX0_perform kX0_perform 6 [.ref 109, .int 105, .int (nI m), .int (nI g), .int (nI v)] S (uC_inq S m g v 6 (m * 6 + g)) (uC_inq S m g v) := by
  refine q_Fi_of (maxL := 5) rfl (by decide +kernel) (fun ad => Nat.le_of_ble_eq_true rfl) rfl ?_
  intro K C hret
  have C : q_Cx K cX0_perform RX0 6 5 := C
  show q_V l K 0 [(0, .ref 109), (1, .int 105), (2, .int (nI m)), (3, .int (nI g)), (4, .int (nI v))] [] S
  refine q_iload_n C dX0_perform_0 rfl rfl ?_
  refine q_tabin (off := 192) (tgt := 193) C dX0_perform_1 (by decide) (by decide) (by decide) (by decide) ?_
  refine q_aload_n C dX0_perform_193 rfl rfl ?_
  refine q_getR C flX0_9 q_s109 rfl dX0_perform_194 ?_
  refine q_iload_n C dX0_perform_197 rfl rfl ?_
  refine q_iload_n C dX0_perform_198 rfl rfl ?_
  refine q_iload C dX0_perform_199 rfl ?_
  refine q_ci3 C (c_X1_inquireOf l S m (by omega) g (by omega) v (by omega)) myX1_inquireOf mlX0_125 q_s1 ⟨by decide, by decide⟩ (Nat.le_of_ble_eq_true rfl) dX0_perform_201 ?_
  exact hret _ _ _ _ dX0_perform_204 rfl rfl
theorem c_X0_perform_104 (l : Launch) (S : q_St) (M : Nat) (hM : S 1 0 = nI M) (hM8 : M ≤ 8) (m : Int32) (g : Int32) (v : Int32) : q_Fi l yX0_perform kX0_perform 6 [.ref 109, .int 104, .int m, .int g, .int v] S (q_sum (uC_psf (q_p S 1 2 (S 1 2 + v)) M v) 6) (uC_pass S M v) := by
  refine q_Fi_of (maxL := 5) rfl (by decide +kernel) (fun ad => Nat.le_of_ble_eq_true rfl) rfl ?_
  intro K C hret
  have C : q_Cx K cX0_perform RX0 6 5 := C
  show q_V l K 0 [(0, .ref 109), (1, .int 104), (2, .int m), (3, .int g), (4, .int v)] [] S
  refine q_iload_n C dX0_perform_0 rfl rfl ?_
  refine q_tabin (off := 204) (tgt := 205) C dX0_perform_1 (by decide) (by decide) (by decide) (by decide) ?_
  refine q_aload_n C dX0_perform_205 rfl rfl ?_
  refine q_getR C flX0_9 q_s109 rfl dX0_perform_206 ?_
  refine q_iload C dX0_perform_209 rfl ?_
  refine q_ci1 C (c_X1_letHoursPass l S M hM hM8 v) myX1_letHoursPass mlX0_128 q_s1 ⟨by decide, by decide⟩ (Nat.le_of_ble_eq_true rfl) dX0_perform_211 ?_
  exact hret _ _ _ _ dX0_perform_214 rfl rfl
