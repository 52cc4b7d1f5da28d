def q_mj (y : MethodName) (cd : Cond) (bytes : ByteArray) (maxL : Nat) (ret : Option FieldType) (n : Nat) : Prop := cd = .code y bytes maxL ret ∧ y.cls ≠ "java/lang/invoke/MethodHandle" ∧ y.cls ≠ "java/lang/invoke/VarHandle" ∧ (parseMethodDescriptor y.desc).map (fun d => d.parameters.length) = some n ∧ Cond.instanceMethod y ∈ q_WS ∧ Cond.selects y.cls y y ∈ q_WS ∧ Cond.initialized y.cls ∈ q_WS ∧ cd ∈ q_WS
theorem dJ0_length_8abf5_0 : decode cJ0_length_8abf5 0 = .ok (.aload_n 0, 1) := by decide +kernel
theorem dJ0_length_8abf5_1 : decode cJ0_length_8abf5 1 = .ok (.getfield 9, 3) := by decide +kernel
theorem dJ0_length_8abf5_4 : decode cJ0_length_8abf5 4 = .ok (.arraylength, 1) := by decide +kernel
theorem dJ0_length_8abf5_5 : decode cJ0_length_8abf5 5 = .ok (.aload_n 0, 1) := by decide +kernel
theorem dJ0_length_8abf5_6 : decode cJ0_length_8abf5 6 = .ok (.invokevirtual 335, 3) := by decide +kernel
theorem dJ0_length_8abf5_9 : decode cJ0_length_8abf5 9 = .ok (.ishr, 1) := by decide +kernel
theorem dJ0_length_8abf5_10 : decode cJ0_length_8abf5 10 = .ok (.ireturn, 1) := by decide +kernel
theorem dJ0_charAt_5068e_0 : decode cJ0_charAt_5068e 0 = .ok (.aload_n 0, 1) := by decide +kernel
theorem dJ0_charAt_5068e_1 : decode cJ0_charAt_5068e 1 = .ok (.invokevirtual 492, 3) := by decide +kernel
theorem dJ0_charAt_5068e_4 : decode cJ0_charAt_5068e 4 = .ok (.ifCond .eq 12, 3) := by decide +kernel
theorem dJ0_charAt_5068e_7 : decode cJ0_charAt_5068e 7 = .ok (.aload_n 0, 1) := by decide +kernel
theorem dJ0_charAt_5068e_8 : decode cJ0_charAt_5068e 8 = .ok (.getfield 9, 3) := by decide +kernel
theorem dJ0_charAt_5068e_11 : decode cJ0_charAt_5068e 11 = .ok (.iload_n 1, 1) := by decide +kernel
theorem dJ0_charAt_5068e_12 : decode cJ0_charAt_5068e 12 = .ok (.invokestatic 495, 3) := by decide +kernel
theorem dJ0_charAt_5068e_15 : decode cJ0_charAt_5068e 15 = .ok (.ireturn, 1) := by decide +kernel
theorem dJ0_charAt_5068e_16 : decode cJ0_charAt_5068e 16 = .ok (.aload_n 0, 1) := by decide +kernel
theorem dJ0_charAt_5068e_17 : decode cJ0_charAt_5068e 17 = .ok (.getfield 9, 3) := by decide +kernel
theorem dJ0_charAt_5068e_20 : decode cJ0_charAt_5068e 20 = .ok (.iload_n 1, 1) := by decide +kernel
theorem dJ0_charAt_5068e_21 : decode cJ0_charAt_5068e 21 = .ok (.invokestatic 498, 3) := by decide +kernel
theorem dJ0_charAt_5068e_24 : decode cJ0_charAt_5068e 24 = .ok (.ireturn, 1) := by decide +kernel
theorem dJ0_indexOf_0f7a4_0 : decode cJ0_indexOf_0f7a4 0 = .ok (.aload_n 0, 1) := by decide +kernel
theorem dJ0_indexOf_0f7a4_1 : decode cJ0_indexOf_0f7a4 1 = .ok (.iload_n 1, 1) := by decide +kernel
theorem dJ0_indexOf_0f7a4_2 : decode cJ0_indexOf_0f7a4 2 = .ok (.iconst 0, 1) := by decide +kernel
theorem dJ0_indexOf_0f7a4_3 : decode cJ0_indexOf_0f7a4 3 = .ok (.invokevirtual 633, 3) := by decide +kernel
theorem dJ0_indexOf_0f7a4_6 : decode cJ0_indexOf_0f7a4 6 = .ok (.ireturn, 1) := by decide +kernel
theorem dJ0_indexOf_7cf53_0 : decode cJ0_indexOf_7cf53 0 = .ok (.aload_n 0, 1) := by decide +kernel
theorem dJ0_indexOf_7cf53_1 : decode cJ0_indexOf_7cf53 1 = .ok (.invokevirtual 492, 3) := by decide +kernel
theorem dJ0_indexOf_7cf53_4 : decode cJ0_indexOf_7cf53 4 = .ok (.ifCond .eq 19, 3) := by decide +kernel
theorem dJ0_indexOf_7cf53_7 : decode cJ0_indexOf_7cf53 7 = .ok (.aload_n 0, 1) := by decide +kernel
theorem dJ0_indexOf_7cf53_8 : decode cJ0_indexOf_7cf53 8 = .ok (.getfield 9, 3) := by decide +kernel
theorem dJ0_indexOf_7cf53_11 : decode cJ0_indexOf_7cf53 11 = .ok (.iload_n 1, 1) := by decide +kernel
theorem dJ0_indexOf_7cf53_12 : decode cJ0_indexOf_7cf53 12 = .ok (.iload_n 2, 1) := by decide +kernel
theorem dJ0_indexOf_7cf53_13 : decode cJ0_indexOf_7cf53 13 = .ok (.aload_n 0, 1) := by decide +kernel
theorem dJ0_indexOf_7cf53_14 : decode cJ0_indexOf_7cf53 14 = .ok (.invokevirtual 505, 3) := by decide +kernel
theorem dJ0_indexOf_7cf53_17 : decode cJ0_indexOf_7cf53 17 = .ok (.invokestatic 637, 3) := by decide +kernel
theorem dJ0_indexOf_7cf53_20 : decode cJ0_indexOf_7cf53 20 = .ok (.goto 16, 3) := by decide +kernel
theorem dJ0_indexOf_7cf53_23 : decode cJ0_indexOf_7cf53 23 = .ok (.aload_n 0, 1) := by decide +kernel
theorem dJ0_indexOf_7cf53_24 : decode cJ0_indexOf_7cf53 24 = .ok (.getfield 9, 3) := by decide +kernel
theorem dJ0_indexOf_7cf53_27 : decode cJ0_indexOf_7cf53 27 = .ok (.iload_n 1, 1) := by decide +kernel
theorem dJ0_indexOf_7cf53_28 : decode cJ0_indexOf_7cf53 28 = .ok (.iload_n 2, 1) := by decide +kernel
theorem dJ0_indexOf_7cf53_29 : decode cJ0_indexOf_7cf53 29 = .ok (.aload_n 0, 1) := by decide +kernel
theorem dJ0_indexOf_7cf53_30 : decode cJ0_indexOf_7cf53 30 = .ok (.invokevirtual 505, 3) := by decide +kernel
theorem dJ0_indexOf_7cf53_33 : decode cJ0_indexOf_7cf53 33 = .ok (.invokestatic 640, 3) := by decide +kernel
theorem dJ0_indexOf_7cf53_36 : decode cJ0_indexOf_7cf53 36 = .ok (.ireturn, 1) := by decide +kernel
theorem dJ0_coder_7d493_0 : decode cJ0_coder_7d493 0 = .ok (.getstatic 38, 3) := by decide +kernel
theorem dJ0_coder_7d493_3 : decode cJ0_coder_7d493 3 = .ok (.ifCond .eq 10, 3) := by decide +kernel
theorem dJ0_coder_7d493_6 : decode cJ0_coder_7d493 6 = .ok (.aload_n 0, 1) := by decide +kernel
theorem dJ0_coder_7d493_7 : decode cJ0_coder_7d493 7 = .ok (.getfield 15, 3) := by decide +kernel
theorem dJ0_coder_7d493_10 : decode cJ0_coder_7d493 10 = .ok (.goto 4, 3) := by decide +kernel
theorem dJ0_coder_7d493_13 : decode cJ0_coder_7d493 13 = .ok (.iconst 1, 1) := by decide +kernel
theorem dJ0_coder_7d493_14 : decode cJ0_coder_7d493 14 = .ok (.ireturn, 1) := by decide +kernel
theorem dJ0_isLatin1_aae02_0 : decode cJ0_isLatin1_aae02 0 = .ok (.getstatic 38, 3) := by decide +kernel
theorem dJ0_isLatin1_aae02_3 : decode cJ0_isLatin1_aae02 3 = .ok (.ifCond .eq 14, 3) := by decide +kernel
theorem dJ0_isLatin1_aae02_6 : decode cJ0_isLatin1_aae02 6 = .ok (.aload_n 0, 1) := by decide +kernel
theorem dJ0_isLatin1_aae02_7 : decode cJ0_isLatin1_aae02 7 = .ok (.getfield 15, 3) := by decide +kernel
theorem dJ0_isLatin1_aae02_10 : decode cJ0_isLatin1_aae02 10 = .ok (.ifCond .ne 7, 3) := by decide +kernel
theorem dJ0_isLatin1_aae02_13 : decode cJ0_isLatin1_aae02 13 = .ok (.iconst 1, 1) := by decide +kernel
theorem dJ0_isLatin1_aae02_14 : decode cJ0_isLatin1_aae02 14 = .ok (.goto 4, 3) := by decide +kernel
theorem dJ0_isLatin1_aae02_17 : decode cJ0_isLatin1_aae02 17 = .ok (.iconst 0, 1) := by decide +kernel
theorem dJ0_isLatin1_aae02_18 : decode cJ0_isLatin1_aae02 18 = .ok (.ireturn, 1) := by decide +kernel
theorem dJ0_checkIndex_df160_0 : decode cJ0_checkIndex_df160 0 = .ok (.iload_n 0, 1) := by decide +kernel
theorem dJ0_checkIndex_df160_1 : decode cJ0_checkIndex_df160 1 = .ok (.iload_n 1, 1) := by decide +kernel
theorem dJ0_checkIndex_df160_2 : decode cJ0_checkIndex_df160 2 = .ok (.getstatic 1053, 3) := by decide +kernel
theorem dJ0_checkIndex_df160_5 : decode cJ0_checkIndex_df160 5 = .ok (.invokestatic 1059, 3) := by decide +kernel
theorem dJ0_checkIndex_df160_8 : decode cJ0_checkIndex_df160 8 = .ok (.pop, 1) := by decide +kernel
theorem dJ0_checkIndex_df160_9 : decode cJ0_checkIndex_df160 9 = .ok (.return_, 1) := by decide +kernel
theorem dJ1_charAt_3b067_0 : decode cJ1_charAt_3b067 0 = .ok (.iload_n 1, 1) := by decide +kernel
theorem dJ1_charAt_3b067_1 : decode cJ1_charAt_3b067 1 = .ok (.aload_n 0, 1) := by decide +kernel
theorem dJ1_charAt_3b067_2 : decode cJ1_charAt_3b067 2 = .ok (.arraylength, 1) := by decide +kernel
theorem dJ1_charAt_3b067_3 : decode cJ1_charAt_3b067 3 = .ok (.invokestatic 9, 3) := by decide +kernel
theorem dJ1_charAt_3b067_6 : decode cJ1_charAt_3b067 6 = .ok (.aload_n 0, 1) := by decide +kernel
theorem dJ1_charAt_3b067_7 : decode cJ1_charAt_3b067 7 = .ok (.iload_n 1, 1) := by decide +kernel
theorem dJ1_charAt_3b067_8 : decode cJ1_charAt_3b067 8 = .ok (.baload, 1) := by decide +kernel
theorem dJ1_charAt_3b067_9 : decode cJ1_charAt_3b067 9 = .ok (.sipush 255, 3) := by decide +kernel
theorem dJ1_charAt_3b067_12 : decode cJ1_charAt_3b067 12 = .ok (.iand, 1) := by decide +kernel
theorem dJ1_charAt_3b067_13 : decode cJ1_charAt_3b067 13 = .ok (.i2c, 1) := by decide +kernel
theorem dJ1_charAt_3b067_14 : decode cJ1_charAt_3b067 14 = .ok (.ireturn, 1) := by decide +kernel
theorem dJ1_canEncode_9a6ad_0 : decode cJ1_canEncode_9a6ad 0 = .ok (.iload_n 0, 1) := by decide +kernel
theorem dJ1_canEncode_9a6ad_1 : decode cJ1_canEncode_9a6ad 1 = .ok (.ifCond .lt 14, 3) := by decide +kernel
theorem dJ1_canEncode_9a6ad_4 : decode cJ1_canEncode_9a6ad 4 = .ok (.iload_n 0, 1) := by decide +kernel
theorem dJ1_canEncode_9a6ad_5 : decode cJ1_canEncode_9a6ad 5 = .ok (.sipush 255, 3) := by decide +kernel
theorem dJ1_canEncode_9a6ad_8 : decode cJ1_canEncode_9a6ad 8 = .ok (.if_icmp .gt 7, 3) := by decide +kernel
theorem dJ1_canEncode_9a6ad_11 : decode cJ1_canEncode_9a6ad 11 = .ok (.iconst 1, 1) := by decide +kernel
theorem dJ1_canEncode_9a6ad_12 : decode cJ1_canEncode_9a6ad 12 = .ok (.goto 4, 3) := by decide +kernel
theorem dJ1_canEncode_9a6ad_15 : decode cJ1_canEncode_9a6ad 15 = .ok (.iconst 0, 1) := by decide +kernel
theorem dJ1_canEncode_9a6ad_16 : decode cJ1_canEncode_9a6ad 16 = .ok (.ireturn, 1) := by decide +kernel
theorem dJ1_indexOf_4cfef_0 : decode cJ1_indexOf_4cfef 0 = .ok (.iload_n 1, 1) := by decide +kernel
theorem dJ1_indexOf_4cfef_1 : decode cJ1_indexOf_4cfef 1 = .ok (.invokestatic 88, 3) := by decide +kernel
theorem dJ1_indexOf_4cfef_4 : decode cJ1_indexOf_4cfef 4 = .ok (.ifCond .ne 5, 3) := by decide +kernel
theorem dJ1_indexOf_4cfef_7 : decode cJ1_indexOf_4cfef 7 = .ok (.iconst (-1), 1) := by decide +kernel
theorem dJ1_indexOf_4cfef_8 : decode cJ1_indexOf_4cfef 8 = .ok (.ireturn, 1) := by decide +kernel
theorem dJ1_indexOf_4cfef_9 : decode cJ1_indexOf_4cfef 9 = .ok (.iload_n 2, 1) := by decide +kernel
theorem dJ1_indexOf_4cfef_10 : decode cJ1_indexOf_4cfef 10 = .ok (.iconst 0, 1) := by decide +kernel
theorem dJ1_indexOf_4cfef_11 : decode cJ1_indexOf_4cfef 11 = .ok (.invokestatic 92, 3) := by decide +kernel
theorem dJ1_indexOf_4cfef_14 : decode cJ1_indexOf_4cfef 14 = .ok (.istore_n 2, 1) := by decide +kernel
theorem dJ1_indexOf_4cfef_15 : decode cJ1_indexOf_4cfef 15 = .ok (.iload_n 3, 1) := by decide +kernel
theorem dJ1_indexOf_4cfef_16 : decode cJ1_indexOf_4cfef 16 = .ok (.aload_n 0, 1) := by decide +kernel
theorem dJ1_indexOf_4cfef_17 : decode cJ1_indexOf_4cfef 17 = .ok (.arraylength, 1) := by decide +kernel
theorem dJ1_indexOf_4cfef_18 : decode cJ1_indexOf_4cfef 18 = .ok (.invokestatic 38, 3) := by decide +kernel
theorem dJ1_indexOf_4cfef_21 : decode cJ1_indexOf_4cfef 21 = .ok (.istore_n 3, 1) := by decide +kernel
theorem dJ1_indexOf_4cfef_22 : decode cJ1_indexOf_4cfef 22 = .ok (.iload_n 2, 1) := by decide +kernel
theorem dJ1_indexOf_4cfef_23 : decode cJ1_indexOf_4cfef 23 = .ok (.iload_n 3, 1) := by decide +kernel
theorem dJ1_indexOf_4cfef_24 : decode cJ1_indexOf_4cfef 24 = .ok (.if_icmp .lt 5, 3) := by decide +kernel
theorem dJ1_indexOf_4cfef_27 : decode cJ1_indexOf_4cfef 27 = .ok (.iconst (-1), 1) := by decide +kernel
theorem dJ1_indexOf_4cfef_28 : decode cJ1_indexOf_4cfef 28 = .ok (.ireturn, 1) := by decide +kernel
theorem dJ1_indexOf_4cfef_29 : decode cJ1_indexOf_4cfef 29 = .ok (.aload_n 0, 1) := by decide +kernel
theorem dJ1_indexOf_4cfef_30 : decode cJ1_indexOf_4cfef 30 = .ok (.iload_n 1, 1) := by decide +kernel
theorem dJ1_indexOf_4cfef_31 : decode cJ1_indexOf_4cfef 31 = .ok (.iload_n 2, 1) := by decide +kernel
theorem dJ1_indexOf_4cfef_32 : decode cJ1_indexOf_4cfef 32 = .ok (.iload_n 3, 1) := by decide +kernel
theorem dJ1_indexOf_4cfef_33 : decode cJ1_indexOf_4cfef 33 = .ok (.invokestatic 95, 3) := by decide +kernel
theorem dJ1_indexOf_4cfef_36 : decode cJ1_indexOf_4cfef 36 = .ok (.ireturn, 1) := by decide +kernel
theorem dJ1_indexOfChar_4cfef_0 : decode cJ1_indexOfChar_4cfef 0 = .ok (.iload_n 1, 1) := by decide +kernel
theorem dJ1_indexOfChar_4cfef_1 : decode cJ1_indexOfChar_4cfef 1 = .ok (.i2b, 1) := by decide +kernel
theorem dJ1_indexOfChar_4cfef_2 : decode cJ1_indexOfChar_4cfef 2 = .ok (.istore 4, 2) := by decide +kernel
theorem dJ1_indexOfChar_4cfef_4 : decode cJ1_indexOfChar_4cfef 4 = .ok (.iload_n 2, 1) := by decide +kernel
theorem dJ1_indexOfChar_4cfef_5 : decode cJ1_indexOfChar_4cfef 5 = .ok (.istore 5, 2) := by decide +kernel
theorem dJ1_indexOfChar_4cfef_7 : decode cJ1_indexOfChar_4cfef 7 = .ok (.iload 5, 2) := by decide +kernel
theorem dJ1_indexOfChar_4cfef_9 : decode cJ1_indexOfChar_4cfef 9 = .ok (.iload_n 3, 1) := by decide +kernel
theorem dJ1_indexOfChar_4cfef_10 : decode cJ1_indexOfChar_4cfef 10 = .ok (.if_icmp .ge 21, 3) := by decide +kernel
theorem dJ1_indexOfChar_4cfef_13 : decode cJ1_indexOfChar_4cfef 13 = .ok (.aload_n 0, 1) := by decide +kernel
theorem dJ1_indexOfChar_4cfef_14 : decode cJ1_indexOfChar_4cfef 14 = .ok (.iload 5, 2) := by decide +kernel
theorem dJ1_indexOfChar_4cfef_16 : decode cJ1_indexOfChar_4cfef 16 = .ok (.baload, 1) := by decide +kernel
theorem dJ1_indexOfChar_4cfef_17 : decode cJ1_indexOfChar_4cfef 17 = .ok (.iload 4, 2) := by decide +kernel
theorem dJ1_indexOfChar_4cfef_19 : decode cJ1_indexOfChar_4cfef 19 = .ok (.if_icmp .ne 6, 3) := by decide +kernel
theorem dJ1_indexOfChar_4cfef_22 : decode cJ1_indexOfChar_4cfef 22 = .ok (.iload 5, 2) := by decide +kernel
theorem dJ1_indexOfChar_4cfef_24 : decode cJ1_indexOfChar_4cfef 24 = .ok (.ireturn, 1) := by decide +kernel
theorem dJ1_indexOfChar_4cfef_25 : decode cJ1_indexOfChar_4cfef 25 = .ok (.iinc 5 1, 3) := by decide +kernel
theorem dJ1_indexOfChar_4cfef_28 : decode cJ1_indexOfChar_4cfef 28 = .ok (.goto (-21), 3) := by decide +kernel
theorem dJ1_indexOfChar_4cfef_31 : decode cJ1_indexOfChar_4cfef 31 = .ok (.iconst (-1), 1) := by decide +kernel
theorem dJ1_indexOfChar_4cfef_32 : decode cJ1_indexOfChar_4cfef 32 = .ok (.ireturn, 1) := by decide +kernel
theorem dJ3_checkIndex_8e157_0 : decode cJ3_checkIndex_8e157 0 = .ok (.iload_n 0, 1) := by decide +kernel
theorem dJ3_checkIndex_8e157_1 : decode cJ3_checkIndex_8e157 1 = .ok (.ifCond .lt 8, 3) := by decide +kernel
theorem dJ3_checkIndex_8e157_4 : decode cJ3_checkIndex_8e157 4 = .ok (.iload_n 0, 1) := by decide +kernel
theorem dJ3_checkIndex_8e157_5 : decode cJ3_checkIndex_8e157 5 = .ok (.iload_n 1, 1) := by decide +kernel
theorem dJ3_checkIndex_8e157_6 : decode cJ3_checkIndex_8e157 6 = .ok (.if_icmp .lt 10, 3) := by decide +kernel
theorem dJ3_checkIndex_8e157_9 : decode cJ3_checkIndex_8e157 9 = .ok (.aload_n 2, 1) := by decide +kernel
theorem dJ3_checkIndex_8e157_10 : decode cJ3_checkIndex_8e157 10 = .ok (.iload_n 0, 1) := by decide +kernel
theorem dJ3_checkIndex_8e157_11 : decode cJ3_checkIndex_8e157 11 = .ok (.iload_n 1, 1) := by decide +kernel
theorem dJ3_checkIndex_8e157_12 : decode cJ3_checkIndex_8e157 12 = .ok (.invokestatic 95, 3) := by decide +kernel
theorem dJ3_checkIndex_8e157_15 : decode cJ3_checkIndex_8e157 15 = .ok (.athrow, 1) := by decide +kernel
theorem dJ3_checkIndex_8e157_16 : decode cJ3_checkIndex_8e157 16 = .ok (.iload_n 0, 1) := by decide +kernel
theorem dJ3_checkIndex_8e157_17 : decode cJ3_checkIndex_8e157 17 = .ok (.ireturn, 1) := by decide +kernel
abbrev kJ0_charAt_5068e : Cond := .code yJ0_charAt_5068e cJ0_charAt_5068e 2 (some .char)
theorem myJ0_charAt_5068e : q_mj yJ0_charAt_5068e kJ0_charAt_5068e cJ0_charAt_5068e 2 (some .char) 1 := ⟨rfl, by decide +kernel, by decide +kernel, by decide +kernel, q_in 1132 (by decide +kernel) rfl, q_in 1133 (by decide +kernel) rfl, q_in 65 (by decide +kernel) rfl, q_in 1134 (by decide +kernel) rfl⟩
abbrev kJ0_checkIndex_df160 : Cond := .code yJ0_checkIndex_df160 cJ0_checkIndex_df160 2 none
theorem msJ0_checkIndex_df160 : q_ms yJ0_checkIndex_df160 kJ0_checkIndex_df160 cJ0_checkIndex_df160 2 none 2 := ⟨rfl, by decide +kernel, by decide +kernel, by decide +kernel, q_in 1143 (by decide +kernel) rfl, q_in 65 (by decide +kernel) rfl, q_in 1144 (by decide +kernel) rfl⟩
abbrev kJ0_coder_7d493 : Cond := .code yJ0_coder_7d493 cJ0_coder_7d493 1 (some .byte)
theorem myJ0_coder_7d493 : q_mj yJ0_coder_7d493 kJ0_coder_7d493 cJ0_coder_7d493 1 (some .byte) 0 := ⟨rfl, by decide +kernel, by decide +kernel, by decide +kernel, q_in 1067 (by decide +kernel) rfl, q_in 1068 (by decide +kernel) rfl, q_in 65 (by decide +kernel) rfl, q_in 1069 (by decide +kernel) rfl⟩
abbrev kJ0_indexOf_0f7a4 : Cond := .code yJ0_indexOf_0f7a4 cJ0_indexOf_0f7a4 2 (some .int)
theorem myJ0_indexOf_0f7a4 : q_mj yJ0_indexOf_0f7a4 kJ0_indexOf_0f7a4 cJ0_indexOf_0f7a4 2 (some .int) 1 := ⟨rfl, by decide +kernel, by decide +kernel, by decide +kernel, q_in 1343 (by decide +kernel) rfl, q_in 1344 (by decide +kernel) rfl, q_in 65 (by decide +kernel) rfl, q_in 1345 (by decide +kernel) rfl⟩
abbrev kJ0_indexOf_7cf53 : Cond := .code yJ0_indexOf_7cf53 cJ0_indexOf_7cf53 3 (some .int)
theorem myJ0_indexOf_7cf53 : q_mj yJ0_indexOf_7cf53 kJ0_indexOf_7cf53 cJ0_indexOf_7cf53 3 (some .int) 2 := ⟨rfl, by decide +kernel, by decide +kernel, by decide +kernel, q_in 1347 (by decide +kernel) rfl, q_in 1348 (by decide +kernel) rfl, q_in 65 (by decide +kernel) rfl, q_in 1349 (by decide +kernel) rfl⟩
abbrev kJ0_isLatin1_aae02 : Cond := .code yJ0_isLatin1_aae02 cJ0_isLatin1_aae02 1 (some .boolean)
theorem myJ0_isLatin1_aae02 : q_mj yJ0_isLatin1_aae02 kJ0_isLatin1_aae02 cJ0_isLatin1_aae02 1 (some .boolean) 0 := ⟨rfl, by decide +kernel, by decide +kernel, by decide +kernel, q_in 1136 (by decide +kernel) rfl, q_in 1137 (by decide +kernel) rfl, q_in 65 (by decide +kernel) rfl, q_in 1138 (by decide +kernel) rfl⟩
abbrev kJ0_length_8abf5 : Cond := .code yJ0_length_8abf5 cJ0_length_8abf5 1 (some .int)
theorem myJ0_length_8abf5 : q_mj yJ0_length_8abf5 kJ0_length_8abf5 cJ0_length_8abf5 1 (some .int) 0 := ⟨rfl, by decide +kernel, by decide +kernel, by decide +kernel, q_in 1063 (by decide +kernel) rfl, q_in 1064 (by decide +kernel) rfl, q_in 65 (by decide +kernel) rfl, q_in 1065 (by decide +kernel) rfl⟩
abbrev kJ1_canEncode_9a6ad : Cond := .code yJ1_canEncode_9a6ad cJ1_canEncode_9a6ad 1 (some .boolean)
theorem msJ1_canEncode_9a6ad : q_ms yJ1_canEncode_9a6ad kJ1_canEncode_9a6ad cJ1_canEncode_9a6ad 1 (some .boolean) 1 := ⟨rfl, by decide +kernel, by decide +kernel, by decide +kernel, q_in 1355 (by decide +kernel) rfl, q_in 74 (by decide +kernel) rfl, q_in 1356 (by decide +kernel) rfl⟩
abbrev kJ1_charAt_3b067 : Cond := .code yJ1_charAt_3b067 cJ1_charAt_3b067 2 (some .char)
theorem msJ1_charAt_3b067 : q_ms yJ1_charAt_3b067 kJ1_charAt_3b067 cJ1_charAt_3b067 2 (some .char) 2 := ⟨rfl, by decide +kernel, by decide +kernel, by decide +kernel, q_in 1140 (by decide +kernel) rfl, q_in 74 (by decide +kernel) rfl, q_in 1141 (by decide +kernel) rfl⟩
abbrev kJ1_indexOfChar_4cfef : Cond := .code yJ1_indexOfChar_4cfef cJ1_indexOfChar_4cfef 6 (some .int)
theorem msJ1_indexOfChar_4cfef : q_ms yJ1_indexOfChar_4cfef kJ1_indexOfChar_4cfef cJ1_indexOfChar_4cfef 6 (some .int) 4 := ⟨rfl, by decide +kernel, by decide +kernel, by decide +kernel, q_in 1360 (by decide +kernel) rfl, q_in 74 (by decide +kernel) rfl, q_in 1361 (by decide +kernel) rfl⟩
abbrev kJ1_indexOf_4cfef : Cond := .code yJ1_indexOf_4cfef cJ1_indexOf_4cfef 4 (some .int)
theorem msJ1_indexOf_4cfef : q_ms yJ1_indexOf_4cfef kJ1_indexOf_4cfef cJ1_indexOf_4cfef 4 (some .int) 4 := ⟨rfl, by decide +kernel, by decide +kernel, by decide +kernel, q_in 1352 (by decide +kernel) rfl, q_in 74 (by decide +kernel) rfl, q_in 1353 (by decide +kernel) rfl⟩
abbrev kJ3_checkIndex_8e157 : Cond := .code yJ3_checkIndex_8e157 cJ3_checkIndex_8e157 3 (some .int)
theorem msJ3_checkIndex_8e157 : q_ms yJ3_checkIndex_8e157 kJ3_checkIndex_8e157 cJ3_checkIndex_8e157 3 (some .int) 3 := ⟨rfl, by decide +kernel, by decide +kernel, by decide +kernel, q_in 1146 (by decide +kernel) rfl, q_in 73 (by decide +kernel) rfl, q_in 1147 (by decide +kernel) rfl⟩
theorem mlX4_82 : Cond.methodLink RX4 82 yJ0_indexOf_0f7a4 ∈ q_WS := q_in 1342 (by decide +kernel) rfl
theorem mlL_97 : Cond.methodLink RL 97 yJ0_length_8abf5 ∈ q_WS := q_in 1272 (by decide +kernel) rfl
theorem mlL_102 : Cond.methodLink RL 102 yJ0_charAt_5068e ∈ q_WS := q_in 1131 (by decide +kernel) rfl
theorem mlJ5_32 : Cond.methodLink RJ5 32 yJ0_length_8abf5 ∈ q_WS := q_in 1062 (by decide +kernel) rfl
theorem mlJ5_40 : Cond.methodLink RJ5 40 yJ0_coder_7d493 ∈ q_WS := q_in 1079 (by decide +kernel) rfl
theorem mlJ0_335 : Cond.methodLink RJ0 335 yJ0_coder_7d493 ∈ q_WS := q_in 1066 (by decide +kernel) rfl
theorem mlJ0_492 : Cond.methodLink RJ0 492 yJ0_isLatin1_aae02 ∈ q_WS := q_in 1135 (by decide +kernel) rfl
theorem mlJ0_495 : Cond.methodLink RJ0 495 yJ1_charAt_3b067 ∈ q_WS := q_in 1139 (by decide +kernel) rfl
theorem mlJ0_505 : Cond.methodLink RJ0 505 yJ0_length_8abf5 ∈ q_WS := q_in 1350 (by decide +kernel) rfl
theorem mlJ0_633 : Cond.methodLink RJ0 633 yJ0_indexOf_7cf53 ∈ q_WS := q_in 1346 (by decide +kernel) rfl
theorem mlJ0_637 : Cond.methodLink RJ0 637 yJ1_indexOf_4cfef ∈ q_WS := q_in 1351 (by decide +kernel) rfl
theorem mlJ0_1059 : Cond.methodLink RJ0 1059 yJ3_checkIndex_8e157 ∈ q_WS := q_in 1145 (by decide +kernel) rfl
theorem mlJ1_9 : Cond.methodLink RJ1 9 yJ0_checkIndex_df160 ∈ q_WS := q_in 1142 (by decide +kernel) rfl
theorem mlJ1_38 : Cond.methodLink RJ1 38 Lib.Math.min.name ∈ q_WS := q_in 1358 (by decide +kernel) rfl
theorem mlJ1_88 : Cond.methodLink RJ1 88 yJ1_canEncode_9a6ad ∈ q_WS := q_in 1354 (by decide +kernel) rfl
theorem mlJ1_92 : Cond.methodLink RJ1 92 Lib.Math.max.name ∈ q_WS := q_in 1357 (by decide +kernel) rfl
theorem mlJ1_95 : Cond.methodLink RJ1 95 yJ1_indexOfChar_4cfef ∈ q_WS := q_in 1359 (by decide +kernel) rfl
theorem mlJ2_414 : Cond.methodLink RJ2 414 yJ0_checkIndex_df160 ∈ q_WS := q_in 1154 (by decide +kernel) rfl
theorem flJ0_9 : Cond.fieldLink RJ0 9 "java/lang/String" "value" "[B" ∈ q_WS := q_in 1224 (by decide +kernel) rfl
theorem flJ0_15 : Cond.fieldLink RJ0 15 "java/lang/String" "coder" "B" ∈ q_WS := q_in 1225 (by decide +kernel) rfl
theorem flJ0_38 : Cond.fieldLink RJ0 38 "java/lang/String" "COMPACT_STRINGS" "Z" ∈ q_WS := q_in 1070 (by decide +kernel) rfl
theorem flJ0_1048 : Cond.fieldLink RJ0 1048 "java/lang/AbstractStringBuilder" "maybeLatin1" "Z" ∈ q_WS := q_in 977 (by decide +kernel) rfl
theorem flJ0_1053 : Cond.fieldLink RJ0 1053 "jdk/internal/util/Preconditions" "SIOOBE_FORMATTER" "Ljava/util/function/BiFunction;" ∈ q_WS := q_in 1048 (by decide +kernel) rfl
theorem w_maxS : Cond.static Lib.Math.max.name ∈ q_WS := q_in 1012 (by decide +kernel) rfl
theorem w_maxC : Cond.code Lib.Math.max.name Lib.Math.max.code 2 (some .int) ∈ q_WS := q_in 1013 (by decide +kernel) rfl
def q_strs : List (String × Nat × String) := [(RX4, 80, "naqdtfwsrih"), (RL, 221, "#"), (RL, 229, "osb"), (RL, 238, ""), (RL, 240, " "), (RL, 242, "+"), (RL, 244, "nrusb"), (RL, 274, "q"), (RL, 276, "."), (RL, 278, ";n;h2;q"), (RL, 280, ";d"), (RL, 282, ";a"), (RL, 284, ".0=-7"), (RX6, 83, "no such guild"), (RX6, 156, "no such place in the book"), (RX6, 170, "not open, or without guilds"), (RX6, 206, "no such place"), (RX6, 225, "no such index in the line"), (RX6, 232, "the input is full"), (RX6, 243, "the text has an error"), (RX6, 255, "an order is refused"), (RX6, 258, "an order names what is not there"), (RX6, 299, "none was decided"), (RX6, 305, "no change can be undone"), (RX6, 321, "refused"), (RX6, 326, "no such matter"), (RX6, 328, "out of range"), (RJ7, 337, " > ")]
theorem q_str_w0 : Cond.stringRef RX4 80 "naqdtfwsrih" ∈ lw_tbl := List.mem_of_getElem? (i := 1341) (by decide +kernel)
theorem q_str_w1 : Cond.stringRef RL 221 "#" ∈ lw_tbl := List.mem_of_getElem? (i := 988) (by decide +kernel)
theorem q_str_w2 : Cond.stringRef RL 229 "osb" ∈ lw_tbl := List.mem_of_getElem? (i := 1130) (by decide +kernel)
theorem q_str_w3 : Cond.stringRef RL 238 "" ∈ lw_tbl := List.mem_of_getElem? (i := 1231) (by decide +kernel)
theorem q_str_w4 : Cond.stringRef RL 240 " " ∈ lw_tbl := List.mem_of_getElem? (i := 1232) (by decide +kernel)
theorem q_str_w5 : Cond.stringRef RL 242 "+" ∈ lw_tbl := List.mem_of_getElem? (i := 1233) (by decide +kernel)
theorem q_str_w6 : Cond.stringRef RL 244 "nrusb" ∈ lw_tbl := List.mem_of_getElem? (i := 1234) (by decide +kernel)
theorem q_str_w7 : Cond.stringRef RL 274 "q" ∈ lw_tbl := List.mem_of_getElem? (i := 1297) (by decide +kernel)
theorem q_str_w8 : Cond.stringRef RL 276 "." ∈ lw_tbl := List.mem_of_getElem? (i := 1298) (by decide +kernel)
theorem q_str_w9 : Cond.stringRef RL 278 ";n;h2;q" ∈ lw_tbl := List.mem_of_getElem? (i := 1299) (by decide +kernel)
theorem q_str_w10 : Cond.stringRef RL 280 ";d" ∈ lw_tbl := List.mem_of_getElem? (i := 1300) (by decide +kernel)
theorem q_str_w11 : Cond.stringRef RL 282 ";a" ∈ lw_tbl := List.mem_of_getElem? (i := 1301) (by decide +kernel)
theorem q_str_w12 : Cond.stringRef RL 284 ".0=-7" ∈ lw_tbl := List.mem_of_getElem? (i := 1302) (by decide +kernel)
theorem q_str_w13 : Cond.stringRef RX6 83 "no such guild" ∈ lw_tbl := List.mem_of_getElem? (i := 437) (by decide +kernel)
theorem q_str_w14 : Cond.stringRef RX6 156 "no such place in the book" ∈ lw_tbl := List.mem_of_getElem? (i := 953) (by decide +kernel)
theorem q_str_w15 : Cond.stringRef RX6 170 "not open, or without guilds" ∈ lw_tbl := List.mem_of_getElem? (i := 819) (by decide +kernel)
theorem q_str_w16 : Cond.stringRef RX6 206 "no such place" ∈ lw_tbl := List.mem_of_getElem? (i := 895) (by decide +kernel)
theorem q_str_w17 : Cond.stringRef RX6 225 "no such index in the line" ∈ lw_tbl := List.mem_of_getElem? (i := 1280) (by decide +kernel)
theorem q_str_w18 : Cond.stringRef RX6 232 "the input is full" ∈ lw_tbl := List.mem_of_getElem? (i := 1313) (by decide +kernel)
theorem q_str_w19 : Cond.stringRef RX6 243 "the text has an error" ∈ lw_tbl := List.mem_of_getElem? (i := 1420) (by decide +kernel)
theorem q_str_w20 : Cond.stringRef RX6 255 "an order is refused" ∈ lw_tbl := List.mem_of_getElem? (i := 1464) (by decide +kernel)
theorem q_str_w21 : Cond.stringRef RX6 258 "an order names what is not there" ∈ lw_tbl := List.mem_of_getElem? (i := 1465) (by decide +kernel)
theorem q_str_w22 : Cond.stringRef RX6 299 "none was decided" ∈ lw_tbl := List.mem_of_getElem? (i := 850) (by decide +kernel)
theorem q_str_w23 : Cond.stringRef RX6 305 "no change can be undone" ∈ lw_tbl := List.mem_of_getElem? (i := 1473) (by decide +kernel)
theorem q_str_w24 : Cond.stringRef RX6 321 "refused" ∈ lw_tbl := List.mem_of_getElem? (i := 355) (by decide +kernel)
theorem q_str_w25 : Cond.stringRef RX6 326 "no such matter" ∈ lw_tbl := List.mem_of_getElem? (i := 426) (by decide +kernel)
theorem q_str_w26 : Cond.stringRef RX6 328 "out of range" ∈ lw_tbl := List.mem_of_getElem? (i := 451) (by decide +kernel)
theorem q_str_w27 : Cond.stringRef RJ7 337 " > " ∈ lw_tbl := List.mem_of_getElem? (i := 1210) (by decide +kernel)
def q_len : List Nat := [11, 1, 3, 0, 1, 1, 5, 1, 1, 7, 2, 2, 5]
def q_byt : List (List Int32) := [[110, 97, 113, 100, 116, 102, 119, 115, 114, 105, 104], [35], [111, 115, 98], [], [32], [43], [110, 114, 117, 115, 98], [113], [46], [59, 110, 59, 104, 50, 59, 113], [59, 100], [59, 97], [46, 48, 61, 45, 55]]
def q_ncs : List (String × String) := [("GuildSeals", "java/lang/UnsupportedOperationException"), ("GuildSeals$Council", "java/lang/UnsupportedOperationException"), ("GuildSeals$History", "java/lang/UnsupportedOperationException"), ("GuildSeals$Refusals", "java/lang/UnsupportedOperationException"), ("GuildSeals$Orders", "java/lang/UnsupportedOperationException"), ("GuildSeals$Clerk", "java/lang/UnsupportedOperationException"), ("GuildSeals$Line", "java/lang/UnsupportedOperationException"), ("java/util/NoSuchElementException", "java/lang/UnsupportedOperationException"), ("java/lang/IllegalArgumentException", "java/lang/UnsupportedOperationException"), ("java/lang/ArrayIndexOutOfBoundsException", "java/lang/UnsupportedOperationException"), ("java/lang/IndexOutOfBoundsException", "java/lang/UnsupportedOperationException"), ("java/lang/IllegalStateException", "java/lang/UnsupportedOperationException"), ("java/lang/ArithmeticException", "java/lang/UnsupportedOperationException"), ("java/lang/StringBuilder", "java/lang/UnsupportedOperationException"), ("java/lang/String", "java/lang/UnsupportedOperationException"), ("GuildSeals", "java/util/NoSuchElementException"), ("GuildSeals$Council", "java/util/NoSuchElementException"), ("GuildSeals$History", "java/util/NoSuchElementException"), ("GuildSeals$Refusals", "java/util/NoSuchElementException"), ("GuildSeals$Orders", "java/util/NoSuchElementException"), ("GuildSeals$Clerk", "java/util/NoSuchElementException"), ("GuildSeals$Line", "java/util/NoSuchElementException"), ("java/lang/UnsupportedOperationException", "java/util/NoSuchElementException"), ("java/lang/IllegalArgumentException", "java/util/NoSuchElementException"), ("java/lang/ArrayIndexOutOfBoundsException", "java/util/NoSuchElementException"), ("java/lang/IndexOutOfBoundsException", "java/util/NoSuchElementException"), ("java/lang/IllegalStateException", "java/util/NoSuchElementException"), ("java/lang/ArithmeticException", "java/util/NoSuchElementException"), ("java/lang/StringBuilder", "java/util/NoSuchElementException"), ("java/lang/String", "java/util/NoSuchElementException"), ("GuildSeals", "java/lang/IllegalArgumentException"), ("GuildSeals$Council", "java/lang/IllegalArgumentException"), ("GuildSeals$History", "java/lang/IllegalArgumentException"), ("GuildSeals$Refusals", "java/lang/IllegalArgumentException"), ("GuildSeals$Orders", "java/lang/IllegalArgumentException"), ("GuildSeals$Clerk", "java/lang/IllegalArgumentException"), ("GuildSeals$Line", "java/lang/IllegalArgumentException"), ("java/lang/UnsupportedOperationException", "java/lang/IllegalArgumentException"), ("java/util/NoSuchElementException", "java/lang/IllegalArgumentException"), ("java/lang/ArrayIndexOutOfBoundsException", "java/lang/IllegalArgumentException"), ("java/lang/IndexOutOfBoundsException", "java/lang/IllegalArgumentException"), ("java/lang/IllegalStateException", "java/lang/IllegalArgumentException"), ("java/lang/ArithmeticException", "java/lang/IllegalArgumentException"), ("java/lang/StringBuilder", "java/lang/IllegalArgumentException"), ("java/lang/String", "java/lang/IllegalArgumentException"), ("GuildSeals", "java/lang/IndexOutOfBoundsException"), ("GuildSeals$Council", "java/lang/IndexOutOfBoundsException"), ("GuildSeals$History", "java/lang/IndexOutOfBoundsException"), ("GuildSeals$Refusals", "java/lang/IndexOutOfBoundsException"), ("GuildSeals$Orders", "java/lang/IndexOutOfBoundsException"), ("GuildSeals$Clerk", "java/lang/IndexOutOfBoundsException"), ("GuildSeals$Line", "java/lang/IndexOutOfBoundsException"), ("java/lang/UnsupportedOperationException", "java/lang/IndexOutOfBoundsException"), ("java/util/NoSuchElementException", "java/lang/IndexOutOfBoundsException"), ("java/lang/IllegalArgumentException", "java/lang/IndexOutOfBoundsException"), ("java/lang/IllegalStateException", "java/lang/IndexOutOfBoundsException"), ("java/lang/ArithmeticException", "java/lang/IndexOutOfBoundsException"), ("java/lang/StringBuilder", "java/lang/IndexOutOfBoundsException"), ("java/lang/String", "java/lang/IndexOutOfBoundsException"), ("GuildSeals", "java/lang/IllegalStateException"), ("GuildSeals$Council", "java/lang/IllegalStateException"), ("GuildSeals$History", "java/lang/IllegalStateException"), ("GuildSeals$Refusals", "java/lang/IllegalStateException"), ("GuildSeals$Orders", "java/lang/IllegalStateException"), ("GuildSeals$Clerk", "java/lang/IllegalStateException"), ("GuildSeals$Line", "java/lang/IllegalStateException"), ("java/lang/UnsupportedOperationException", "java/lang/IllegalStateException"), ("java/util/NoSuchElementException", "java/lang/IllegalStateException"), ("java/lang/IllegalArgumentException", "java/lang/IllegalStateException"), ("java/lang/ArrayIndexOutOfBoundsException", "java/lang/IllegalStateException"), ("java/lang/IndexOutOfBoundsException", "java/lang/IllegalStateException"), ("java/lang/ArithmeticException", "java/lang/IllegalStateException"), ("java/lang/StringBuilder", "java/lang/IllegalStateException"), ("java/lang/String", "java/lang/IllegalStateException")]
