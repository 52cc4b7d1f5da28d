theorem c_X1_copy_10_1 (l : Launch) (S : q_St) (hz : q_bool S 1) : q_Fv l yX1_copyFrom kX1_copyFrom 1 [.ref 10, .ref 1] S (q_cp S 10 1) := by
  refine q_Fv_of (maxL := 3) rfl (by decide +kernel) (fun ad => Nat.le_of_ble_eq_true rfl) ?_
  intro K C hret
  have C : q_Cx K cX1_copyFrom RX1 1 3 := C
  show q_V l K 0 [(0, .ref 10), (1, .ref 1)] [] S
  refine q_aload_n C dX1_copyFrom_0 rfl rfl ?_
  refine q_aload_n C dX1_copyFrom_1 rfl rfl ?_
  refine q_getI (x := S 1 0) C flX1_41 q_s1 rfl dX1_copyFrom_2 rfl ?_
  refine q_put (ty9 := .int) C flX1_41 q_s10 rfl (fun _ _ _ h => by cases h; exact ⟨rfl, by decide +kernel⟩) rfl rfl dX1_copyFrom_5 ?_
  refine q_aload_n C dX1_copyFrom_8 rfl rfl ?_
  refine q_aload_n C dX1_copyFrom_9 rfl rfl ?_
  refine q_getI (x := S 1 1) C flX1_45 q_s1 rfl dX1_copyFrom_10 rfl ?_
  refine q_put (ty9 := .int) C flX1_45 q_s10 rfl (fun _ _ _ h => by cases h; exact ⟨rfl, by decide +kernel⟩) rfl rfl dX1_copyFrom_13 ?_
  refine q_aload_n C dX1_copyFrom_16 rfl rfl ?_
  refine q_aload_n C dX1_copyFrom_17 rfl rfl ?_
  refine q_getI (x := S 1 2) C flX1_48 q_s1 rfl dX1_copyFrom_18 rfl ?_
  refine q_put (ty9 := .int) C flX1_48 q_s10 rfl (fun _ _ _ h => by cases h; exact ⟨rfl, by decide +kernel⟩) rfl rfl dX1_copyFrom_21 ?_
  refine q_aload_n C dX1_copyFrom_24 rfl rfl ?_
  refine q_aload_n C dX1_copyFrom_25 rfl rfl ?_
  refine q_getI (x := S 1 3) C flX1_51 q_s1 rfl dX1_copyFrom_26 rfl ?_
  refine q_put (ty9 := .int) C flX1_51 q_s10 rfl (fun _ _ _ h => by cases h; exact ⟨rfl, by decide +kernel⟩) rfl rfl dX1_copyFrom_29 ?_
  refine q_aload_n C dX1_copyFrom_32 rfl rfl ?_
  refine q_aload_n C dX1_copyFrom_33 rfl rfl ?_
  refine q_getI (x := S 1 4) C flX1_54 q_s1 rfl dX1_copyFrom_34 rfl ?_
  refine q_put (ty9 := .int) C flX1_54 q_s10 rfl (fun _ _ _ h => by cases h; exact ⟨rfl, by decide +kernel⟩) rfl rfl dX1_copyFrom_37 ?_
  refine q_aload_n C dX1_copyFrom_40 rfl rfl ?_
  refine q_aload_n C dX1_copyFrom_41 rfl rfl ?_
  refine q_getI (x := S 1 5) C flX1_9 q_s1 rfl dX1_copyFrom_42 rfl ?_
  refine q_put (ty9 := .boolean) C flX1_9 q_s10 rfl (fun _ _ _ h => by cases h; exact ⟨rfl, by decide +kernel⟩) (q_narrow_b hz.1) (q_fits_b hz.1) dX1_copyFrom_45 ?_
  refine q_aload_n C dX1_copyFrom_48 rfl rfl ?_
  refine q_getR C flX1_15 q_s1 rfl dX1_copyFrom_49 ?_
  refine q_iconst (v := 0) C dX1_copyFrom_52 (by decide) ?_
  refine q_aload_n C dX1_copyFrom_53 rfl rfl ?_
  refine q_getR C flX1_15 q_s10 rfl dX1_copyFrom_54 ?_
  refine q_iconst (v := 0) C dX1_copyFrom_57 (by decide) ?_
  refine q_bipush (v := 8) C dX1_copyFrom_58 (by decide) ?_
  refine q_copyV (n := 8) (dp := 0) (sp := 0) (f := (va_cpy (S 2) (S 11) 0 0 8)) C q_s2 q_s11  rfl rfl rfl mlX1_57 w_copyN w_copyS w_copyI (by omega) (by omega) (by decide) (by decide) (by decide) (Nat.le_of_ble_eq_true rfl) dX1_copyFrom_60 rfl ?_
  refine q_aload_n C dX1_copyFrom_63 rfl rfl ?_
  refine q_getR C flX1_19 q_s1 rfl dX1_copyFrom_64 ?_
  refine q_iconst (v := 0) C dX1_copyFrom_67 (by decide) ?_
  refine q_aload_n C dX1_copyFrom_68 rfl rfl ?_
  refine q_getR C flX1_19 q_s10 rfl dX1_copyFrom_69 ?_
  refine q_iconst (v := 0) C dX1_copyFrom_72 (by decide) ?_
  refine q_bipush (v := 8) C dX1_copyFrom_73 (by decide) ?_
  refine q_copyV (n := 8) (dp := 0) (sp := 0) (f := (va_cpy (S 3) (S 12) 0 0 8)) C q_s3 q_s12  rfl rfl rfl mlX1_57 w_copyN w_copyS w_copyI (by omega) (by omega) (by decide) (by decide) (by decide) (Nat.le_of_ble_eq_true rfl) dX1_copyFrom_75 rfl ?_
  refine q_aload_n C dX1_copyFrom_78 rfl rfl ?_
  refine q_getR C flX1_22 q_s1 rfl dX1_copyFrom_79 ?_
  refine q_iconst (v := 0) C dX1_copyFrom_82 (by decide) ?_
  refine q_aload_n C dX1_copyFrom_83 rfl rfl ?_
  refine q_getR C flX1_22 q_s10 rfl dX1_copyFrom_84 ?_
  refine q_iconst (v := 0) C dX1_copyFrom_87 (by decide) ?_
  refine q_bipush (v := 8) C dX1_copyFrom_88 (by decide) ?_
  refine q_copyV (n := 8) (dp := 0) (sp := 0) (f := (va_cpy (S 4) (S 13) 0 0 8)) C q_s4 q_s13  rfl rfl rfl mlX1_57 w_copyN w_copyS w_copyI (by omega) (by omega) (by decide) (by decide) (by decide) (Nat.le_of_ble_eq_true rfl) dX1_copyFrom_90 rfl ?_
  refine q_aload_n C dX1_copyFrom_93 rfl rfl ?_
  refine q_getR C flX1_25 q_s1 rfl dX1_copyFrom_94 ?_
  refine q_iconst (v := 0) C dX1_copyFrom_97 (by decide) ?_
  refine q_aload_n C dX1_copyFrom_98 rfl rfl ?_
  refine q_getR C flX1_25 q_s10 rfl dX1_copyFrom_99 ?_
  refine q_iconst (v := 0) C dX1_copyFrom_102 (by decide) ?_
  refine q_bipush (v := 48) C dX1_copyFrom_103 (by decide) ?_
  refine q_copyV (n := 48) (dp := 0) (sp := 0) (f := (va_cpy (S 5) (S 14) 0 0 48)) C q_s5 q_s14  rfl rfl rfl mlX1_57 w_copyN w_copyS w_copyI (by omega) (by omega) (by decide) (by decide) (by decide) (Nat.le_of_ble_eq_true rfl) dX1_copyFrom_105 rfl ?_
  refine q_aload_n C dX1_copyFrom_108 rfl rfl ?_
  refine q_getR C flX1_28 q_s1 rfl dX1_copyFrom_109 ?_
  refine q_iconst (v := 0) C dX1_copyFrom_112 (by decide) ?_
  refine q_aload_n C dX1_copyFrom_113 rfl rfl ?_
  refine q_getR C flX1_28 q_s10 rfl dX1_copyFrom_114 ?_
  refine q_iconst (v := 0) C dX1_copyFrom_117 (by decide) ?_
  refine q_bipush (v := 48) C dX1_copyFrom_118 (by decide) ?_
  refine q_copyV (n := 48) (dp := 0) (sp := 0) (f := (va_cpy (S 6) (S 15) 0 0 48)) C q_s6 q_s15  rfl rfl rfl mlX1_57 w_copyN w_copyS w_copyI (by omega) (by omega) (by decide) (by decide) (by decide) (Nat.le_of_ble_eq_true rfl) dX1_copyFrom_120 rfl ?_
  refine q_aload_n C dX1_copyFrom_123 rfl rfl ?_
  refine q_getR C flX1_31 q_s1 rfl dX1_copyFrom_124 ?_
  refine q_iconst (v := 0) C dX1_copyFrom_127 (by decide) ?_
  refine q_aload_n C dX1_copyFrom_128 rfl rfl ?_
  refine q_getR C flX1_31 q_s10 rfl dX1_copyFrom_129 ?_
  refine q_iconst (v := 0) C dX1_copyFrom_132 (by decide) ?_
  refine q_bipush (v := 6) C dX1_copyFrom_133 (by decide) ?_
  refine q_copyV (n := 6) (dp := 0) (sp := 0) (f := (va_cpy (S 7) (S 16) 0 0 6)) C q_s7 q_s16  rfl rfl rfl mlX1_57 w_copyN w_copyS w_copyI (by omega) (by omega) (by decide) (by decide) (by decide) (Nat.le_of_ble_eq_true rfl) dX1_copyFrom_135 rfl ?_
  refine q_aload_n C dX1_copyFrom_138 rfl rfl ?_
  refine q_getR C flX1_34 q_s1 rfl dX1_copyFrom_139 ?_
  refine q_iconst (v := 0) C dX1_copyFrom_142 (by decide) ?_
  refine q_aload_n C dX1_copyFrom_143 rfl rfl ?_
  refine q_getR C flX1_34 q_s10 rfl dX1_copyFrom_144 ?_
  refine q_iconst (v := 0) C dX1_copyFrom_147 (by decide) ?_
  refine q_bipush (v := 6) C dX1_copyFrom_148 (by decide) ?_
  refine q_copyV (n := 6) (dp := 0) (sp := 0) (f := (va_cpy (S 8) (S 17) 0 0 6)) C q_s8 q_s17  rfl rfl rfl mlX1_57 w_copyN w_copyS w_copyI (by omega) (by omega) (by decide) (by decide) (by decide) (Nat.le_of_ble_eq_true rfl) dX1_copyFrom_150 rfl ?_
  refine q_iconst (v := 0) C dX1_copyFrom_153 (by decide) ?_
  refine q_istore_n (lv' := [(2, .int 0), (0, .ref 10), (1, .ref 1)]) C dX1_copyFrom_154 rfl (by decide) rfl ?_
  have loop_155 : ∀ (n_155 i_155 : Nat), i_155 + n_155 = 6 → q_V l K 155 [(0, .ref 10), (1, .ref 1), (2, .int (nI i_155))] [] (q_u (q_u (q_u (q_u (q_u (q_u (q_u (q_u (q_p (q_p (q_p (q_p (q_p (q_p S 10 0 (S 1 0)) 10 1 (S 1 1)) 10 2 (S 1 2)) 10 3 (S 1 3)) 10 4 (S 1 4)) 10 5 (S 1 5)) 11 (va_cpy (S 2) (S 11) 0 0 8)) 12 (va_cpy (S 3) (S 12) 0 0 8)) 13 (va_cpy (S 4) (S 13) 0 0 8)) 14 (va_cpy (S 5) (S 14) 0 0 48)) 15 (va_cpy (S 6) (S 15) 0 0 48)) 16 (va_cpy (S 7) (S 16) 0 0 6)) 17 (va_cpy (S 8) (S 17) 0 0 6)) 18 (va_cpy (S 9) (S 18) 0 0 i_155)) := by
    intro n_155
    induction n_155 with
    | zero =>
      intro i_155 hi_155
      have e_155 : i_155 = 6 := by omega
      refine q_iload_n C dX1_copyFrom_155 rfl rfl ?_
      refine q_bipush (v := 6) C dX1_copyFrom_156 (by decide) ?_
      refine q_icmp_geN (a := i_155) (b := 6) (tgt := 179) C dX1_copyFrom_158 (by decide) rfl rfl (by omega) (by omega) (fun c_158 => ?_) (fun c_158 => absurd c_158 (by omega))
      exact hret _ _ _ dX1_copyFrom_179 (by rw [e_155]; exact q_cp_eq S 10 1)
    | succ n_155 ih_155 =>
      intro i_155 hi_155
      refine q_iload_n C dX1_copyFrom_155 rfl rfl ?_
      refine q_bipush (v := 6) C dX1_copyFrom_156 (by decide) ?_
      refine q_icmp_geN (a := i_155) (b := 6) (tgt := 179) C dX1_copyFrom_158 (by decide) rfl rfl (by omega) (by omega) (fun c_158 => absurd c_158 (by omega)) (fun c_158 => ?_)
      refine q_aload_n C dX1_copyFrom_161 rfl rfl ?_
      refine q_getR C flX1_37 q_s10 rfl dX1_copyFrom_162 ?_
      refine q_iload_n C dX1_copyFrom_165 rfl rfl ?_
      refine q_aload_n C dX1_copyFrom_166 rfl rfl ?_
      refine q_getR C flX1_37 q_s1 rfl dX1_copyFrom_167 ?_
      refine q_iload_n C dX1_copyFrom_170 rfl rfl ?_
      refine q_zaldN (i := i_155) (x := S 9 i_155) C rfl q_s9 (by omega) (by decide) dX1_copyFrom_171 rfl ?_
      refine q_zastV (i := i_155) (v := S 9 i_155) C rfl q_s18 (by omega) (by decide) dX1_copyFrom_172 (q_nar_b (hz.2 _ (by omega))) ?_
      refine q_iinc (v := nI (i_155 + 1)) (lv' := [(2, .int (nI (i_155 + 1))), (0, .ref 10), (1, .ref 1)]) C dX1_copyFrom_173 rfl (nI_add _ _) (by decide) rfl ?_
      refine q_goto (tgt := 155) C dX1_copyFrom_176 (by decide) ?_
      exact q_V_to (ih_155 (i_155 + 1) (by omega)) ⟨rfl, rfl, rfl, trivial⟩ (q_u_s _ _ _ _ _)
  exact q_V_to (loop_155 (6 - 0) 0 (by omega)) ⟨rfl, rfl, rfl, trivial⟩ (q_u_0 _ _ _)
theorem c_X1_copy_1_10 (l : Launch) (S : q_St) (hz : q_bool S 10) : q_Fv l yX1_copyFrom kX1_copyFrom 1 [.ref 1, .ref 10] S (q_cp S 1 10) := by
  refine q_Fv_of (maxL := 3) rfl (by decide +kernel) (fun ad => Nat.le_of_ble_eq_true rfl) ?_
  intro K C hret
  have C : q_Cx K cX1_copyFrom RX1 1 3 := C
  show q_V l K 0 [(0, .ref 1), (1, .ref 10)] [] S
  refine q_aload_n C dX1_copyFrom_0 rfl rfl ?_
  refine q_aload_n C dX1_copyFrom_1 rfl rfl ?_
  refine q_getI (x := S 10 0) C flX1_41 q_s10 rfl dX1_copyFrom_2 rfl ?_
  refine q_put (ty9 := .int) C flX1_41 q_s1 rfl (fun _ _ _ h => by cases h; exact ⟨rfl, by decide +kernel⟩) rfl rfl dX1_copyFrom_5 ?_
  refine q_aload_n C dX1_copyFrom_8 rfl rfl ?_
  refine q_aload_n C dX1_copyFrom_9 rfl rfl ?_
  refine q_getI (x := S 10 1) C flX1_45 q_s10 rfl dX1_copyFrom_10 rfl ?_
  refine q_put (ty9 := .int) C flX1_45 q_s1 rfl (fun _ _ _ h => by cases h; exact ⟨rfl, by decide +kernel⟩) rfl rfl dX1_copyFrom_13 ?_
  refine q_aload_n C dX1_copyFrom_16 rfl rfl ?_
  refine q_aload_n C dX1_copyFrom_17 rfl rfl ?_
  refine q_getI (x := S 10 2) C flX1_48 q_s10 rfl dX1_copyFrom_18 rfl ?_
  refine q_put (ty9 := .int) C flX1_48 q_s1 rfl (fun _ _ _ h => by cases h; exact ⟨rfl, by decide +kernel⟩) rfl rfl dX1_copyFrom_21 ?_
  refine q_aload_n C dX1_copyFrom_24 rfl rfl ?_
  refine q_aload_n C dX1_copyFrom_25 rfl rfl ?_
  refine q_getI (x := S 10 3) C flX1_51 q_s10 rfl dX1_copyFrom_26 rfl ?_
  refine q_put (ty9 := .int) C flX1_51 q_s1 rfl (fun _ _ _ h => by cases h; exact ⟨rfl, by decide +kernel⟩) rfl rfl dX1_copyFrom_29 ?_
  refine q_aload_n C dX1_copyFrom_32 rfl rfl ?_
  refine q_aload_n C dX1_copyFrom_33 rfl rfl ?_
  refine q_getI (x := S 10 4) C flX1_54 q_s10 rfl dX1_copyFrom_34 rfl ?_
  refine q_put (ty9 := .int) C flX1_54 q_s1 rfl (fun _ _ _ h => by cases h; exact ⟨rfl, by decide +kernel⟩) rfl rfl dX1_copyFrom_37 ?_
  refine q_aload_n C dX1_copyFrom_40 rfl rfl ?_
  refine q_aload_n C dX1_copyFrom_41 rfl rfl ?_
  refine q_getI (x := S 10 5) C flX1_9 q_s10 rfl dX1_copyFrom_42 rfl ?_
  refine q_put (ty9 := .boolean) C flX1_9 q_s1 rfl (fun _ _ _ h => by cases h; exact ⟨rfl, by decide +kernel⟩) (q_narrow_b hz.1) (q_fits_b hz.1) dX1_copyFrom_45 ?_
  refine q_aload_n C dX1_copyFrom_48 rfl rfl ?_
  refine q_getR C flX1_15 q_s10 rfl dX1_copyFrom_49 ?_
  refine q_iconst (v := 0) C dX1_copyFrom_52 (by decide) ?_
  refine q_aload_n C dX1_copyFrom_53 rfl rfl ?_
  refine q_getR C flX1_15 q_s1 rfl dX1_copyFrom_54 ?_
  refine q_iconst (v := 0) C dX1_copyFrom_57 (by decide) ?_
  refine q_bipush (v := 8) C dX1_copyFrom_58 (by decide) ?_
  refine q_copyV (n := 8) (dp := 0) (sp := 0) (f := (va_cpy (S 11) (S 2) 0 0 8)) C q_s11 q_s2  rfl rfl rfl mlX1_57 w_copyN w_copyS w_copyI (by omega) (by omega) (by decide) (by decide) (by decide) (Nat.le_of_ble_eq_true rfl) dX1_copyFrom_60 rfl ?_
  refine q_aload_n C dX1_copyFrom_63 rfl rfl ?_
  refine q_getR C flX1_19 q_s10 rfl dX1_copyFrom_64 ?_
  refine q_iconst (v := 0) C dX1_copyFrom_67 (by decide) ?_
  refine q_aload_n C dX1_copyFrom_68 rfl rfl ?_
  refine q_getR C flX1_19 q_s1 rfl dX1_copyFrom_69 ?_
  refine q_iconst (v := 0) C dX1_copyFrom_72 (by decide) ?_
  refine q_bipush (v := 8) C dX1_copyFrom_73 (by decide) ?_
  refine q_copyV (n := 8) (dp := 0) (sp := 0) (f := (va_cpy (S 12) (S 3) 0 0 8)) C q_s12 q_s3  rfl rfl rfl mlX1_57 w_copyN w_copyS w_copyI (by omega) (by omega) (by decide) (by decide) (by decide) (Nat.le_of_ble_eq_true rfl) dX1_copyFrom_75 rfl ?_
  refine q_aload_n C dX1_copyFrom_78 rfl rfl ?_
  refine q_getR C flX1_22 q_s10 rfl dX1_copyFrom_79 ?_
  refine q_iconst (v := 0) C dX1_copyFrom_82 (by decide) ?_
  refine q_aload_n C dX1_copyFrom_83 rfl rfl ?_
  refine q_getR C flX1_22 q_s1 rfl dX1_copyFrom_84 ?_
  refine q_iconst (v := 0) C dX1_copyFrom_87 (by decide) ?_
  refine q_bipush (v := 8) C dX1_copyFrom_88 (by decide) ?_
  refine q_copyV (n := 8) (dp := 0) (sp := 0) (f := (va_cpy (S 13) (S 4) 0 0 8)) C q_s13 q_s4  rfl rfl rfl mlX1_57 w_copyN w_copyS w_copyI (by omega) (by omega) (by decide) (by decide) (by decide) (Nat.le_of_ble_eq_true rfl) dX1_copyFrom_90 rfl ?_
  refine q_aload_n C dX1_copyFrom_93 rfl rfl ?_
  refine q_getR C flX1_25 q_s10 rfl dX1_copyFrom_94 ?_
  refine q_iconst (v := 0) C dX1_copyFrom_97 (by decide) ?_
  refine q_aload_n C dX1_copyFrom_98 rfl rfl ?_
  refine q_getR C flX1_25 q_s1 rfl dX1_copyFrom_99 ?_
  refine q_iconst (v := 0) C dX1_copyFrom_102 (by decide) ?_
  refine q_bipush (v := 48) C dX1_copyFrom_103 (by decide) ?_
  refine q_copyV (n := 48) (dp := 0) (sp := 0) (f := (va_cpy (S 14) (S 5) 0 0 48)) C q_s14 q_s5  rfl rfl rfl mlX1_57 w_copyN w_copyS w_copyI (by omega) (by omega) (by decide) (by decide) (by decide) (Nat.le_of_ble_eq_true rfl) dX1_copyFrom_105 rfl ?_
  refine q_aload_n C dX1_copyFrom_108 rfl rfl ?_
  refine q_getR C flX1_28 q_s10 rfl dX1_copyFrom_109 ?_
  refine q_iconst (v := 0) C dX1_copyFrom_112 (by decide) ?_
  refine q_aload_n C dX1_copyFrom_113 rfl rfl ?_
  refine q_getR C flX1_28 q_s1 rfl dX1_copyFrom_114 ?_
  refine q_iconst (v := 0) C dX1_copyFrom_117 (by decide) ?_
  refine q_bipush (v := 48) C dX1_copyFrom_118 (by decide) ?_
  refine q_copyV (n := 48) (dp := 0) (sp := 0) (f := (va_cpy (S 15) (S 6) 0 0 48)) C q_s15 q_s6  rfl rfl rfl mlX1_57 w_copyN w_copyS w_copyI (by omega) (by omega) (by decide) (by decide) (by decide) (Nat.le_of_ble_eq_true rfl) dX1_copyFrom_120 rfl ?_
  refine q_aload_n C dX1_copyFrom_123 rfl rfl ?_
  refine q_getR C flX1_31 q_s10 rfl dX1_copyFrom_124 ?_
  refine q_iconst (v := 0) C dX1_copyFrom_127 (by decide) ?_
  refine q_aload_n C dX1_copyFrom_128 rfl rfl ?_
  refine q_getR C flX1_31 q_s1 rfl dX1_copyFrom_129 ?_
  refine q_iconst (v := 0) C dX1_copyFrom_132 (by decide) ?_
  refine q_bipush (v := 6) C dX1_copyFrom_133 (by decide) ?_
  refine q_copyV (n := 6) (dp := 0) (sp := 0) (f := (va_cpy (S 16) (S 7) 0 0 6)) C q_s16 q_s7  rfl rfl rfl mlX1_57 w_copyN w_copyS w_copyI (by omega) (by omega) (by decide) (by decide) (by decide) (Nat.le_of_ble_eq_true rfl) dX1_copyFrom_135 rfl ?_
  refine q_aload_n C dX1_copyFrom_138 rfl rfl ?_
  refine q_getR C flX1_34 q_s10 rfl dX1_copyFrom_139 ?_
  refine q_iconst (v := 0) C dX1_copyFrom_142 (by decide) ?_
  refine q_aload_n C dX1_copyFrom_143 rfl rfl ?_
  refine q_getR C flX1_34 q_s1 rfl dX1_copyFrom_144 ?_
  refine q_iconst (v := 0) C dX1_copyFrom_147 (by decide) ?_
  refine q_bipush (v := 6) C dX1_copyFrom_148 (by decide) ?_
  refine q_copyV (n := 6) (dp := 0) (sp := 0) (f := (va_cpy (S 17) (S 8) 0 0 6)) C q_s17 q_s8  rfl rfl rfl mlX1_57 w_copyN w_copyS w_copyI (by omega) (by omega) (by decide) (by decide) (by decide) (Nat.le_of_ble_eq_true rfl) dX1_copyFrom_150 rfl ?_
  refine q_iconst (v := 0) C dX1_copyFrom_153 (by decide) ?_
  refine q_istore_n (lv' := [(2, .int 0), (0, .ref 1), (1, .ref 10)]) C dX1_copyFrom_154 rfl (by decide) rfl ?_
  have loop_155 : ∀ (n_155 i_155 : Nat), i_155 + n_155 = 6 → q_V l K 155 [(0, .ref 1), (1, .ref 10), (2, .int (nI i_155))] [] (q_u (q_u (q_u (q_u (q_u (q_u (q_u (q_u (q_p (q_p (q_p (q_p (q_p (q_p S 1 0 (S 10 0)) 1 1 (S 10 1)) 1 2 (S 10 2)) 1 3 (S 10 3)) 1 4 (S 10 4)) 1 5 (S 10 5)) 2 (va_cpy (S 11) (S 2) 0 0 8)) 3 (va_cpy (S 12) (S 3) 0 0 8)) 4 (va_cpy (S 13) (S 4) 0 0 8)) 5 (va_cpy (S 14) (S 5) 0 0 48)) 6 (va_cpy (S 15) (S 6) 0 0 48)) 7 (va_cpy (S 16) (S 7) 0 0 6)) 8 (va_cpy (S 17) (S 8) 0 0 6)) 9 (va_cpy (S 18) (S 9) 0 0 i_155)) := by
    intro n_155
    induction n_155 with
    | zero =>
      intro i_155 hi_155
      have e_155 : i_155 = 6 := by omega
      refine q_iload_n C dX1_copyFrom_155 rfl rfl ?_
      refine q_bipush (v := 6) C dX1_copyFrom_156 (by decide) ?_
      refine q_icmp_geN (a := i_155) (b := 6) (tgt := 179) C dX1_copyFrom_158 (by decide) rfl rfl (by omega) (by omega) (fun c_158 => ?_) (fun c_158 => absurd c_158 (by omega))
      exact hret _ _ _ dX1_copyFrom_179 (by rw [e_155]; exact q_cp_eq S 1 10)
    | succ n_155 ih_155 =>
      intro i_155 hi_155
      refine q_iload_n C dX1_copyFrom_155 rfl rfl ?_
      refine q_bipush (v := 6) C dX1_copyFrom_156 (by decide) ?_
      refine q_icmp_geN (a := i_155) (b := 6) (tgt := 179) C dX1_copyFrom_158 (by decide) rfl rfl (by omega) (by omega) (fun c_158 => absurd c_158 (by omega)) (fun c_158 => ?_)
      refine q_aload_n C dX1_copyFrom_161 rfl rfl ?_
      refine q_getR C flX1_37 q_s1 rfl dX1_copyFrom_162 ?_
      refine q_iload_n C dX1_copyFrom_165 rfl rfl ?_
      refine q_aload_n C dX1_copyFrom_166 rfl rfl ?_
      refine q_getR C flX1_37 q_s10 rfl dX1_copyFrom_167 ?_
      refine q_iload_n C dX1_copyFrom_170 rfl rfl ?_
      refine q_zaldN (i := i_155) (x := S 18 i_155) C rfl q_s18 (by omega) (by decide) dX1_copyFrom_171 rfl ?_
      refine q_zastV (i := i_155) (v := S 18 i_155) C rfl q_s9 (by omega) (by decide) dX1_copyFrom_172 (q_nar_b (hz.2 _ (by omega))) ?_
      refine q_iinc (v := nI (i_155 + 1)) (lv' := [(2, .int (nI (i_155 + 1))), (0, .ref 1), (1, .ref 10)]) C dX1_copyFrom_173 rfl (nI_add _ _) (by decide) rfl ?_
      refine q_goto (tgt := 155) C dX1_copyFrom_176 (by decide) ?_
      exact q_V_to (ih_155 (i_155 + 1) (by omega)) ⟨rfl, rfl, rfl, trivial⟩ (q_u_s _ _ _ _ _)
  exact q_V_to (loop_155 (6 - 0) 0 (by omega)) ⟨rfl, rfl, rfl, trivial⟩ (q_u_0 _ _ _)
theorem c_X1_copy_19_1 (l : Launch) (S : q_St) (hz : q_bool S 1) : q_Fv l yX1_copyFrom kX1_copyFrom 1 [.ref 19, .ref 1] S (q_cp S 19 1) := by
  refine q_Fv_of (maxL := 3) rfl (by decide +kernel) (fun ad => Nat.le_of_ble_eq_true rfl) ?_
  intro K C hret
  have C : q_Cx K cX1_copyFrom RX1 1 3 := C
  show q_V l K 0 [(0, .ref 19), (1, .ref 1)] [] S
  refine q_aload_n C dX1_copyFrom_0 rfl rfl ?_
  refine q_aload_n C dX1_copyFrom_1 rfl rfl ?_
  refine q_getI (x := S 1 0) C flX1_41 q_s1 rfl dX1_copyFrom_2 rfl ?_
  refine q_put (ty9 := .int) C flX1_41 q_s19 rfl (fun _ _ _ h => by cases h; exact ⟨rfl, by decide +kernel⟩) rfl rfl dX1_copyFrom_5 ?_
  refine q_aload_n C dX1_copyFrom_8 rfl rfl ?_
  refine q_aload_n C dX1_copyFrom_9 rfl rfl ?_
  refine q_getI (x := S 1 1) C flX1_45 q_s1 rfl dX1_copyFrom_10 rfl ?_
  refine q_put (ty9 := .int) C flX1_45 q_s19 rfl (fun _ _ _ h => by cases h; exact ⟨rfl, by decide +kernel⟩) rfl rfl dX1_copyFrom_13 ?_
  refine q_aload_n C dX1_copyFrom_16 rfl rfl ?_
  refine q_aload_n C dX1_copyFrom_17 rfl rfl ?_
  refine q_getI (x := S 1 2) C flX1_48 q_s1 rfl dX1_copyFrom_18 rfl ?_
  refine q_put (ty9 := .int) C flX1_48 q_s19 rfl (fun _ _ _ h => by cases h; exact ⟨rfl, by decide +kernel⟩) rfl rfl dX1_copyFrom_21 ?_
  refine q_aload_n C dX1_copyFrom_24 rfl rfl ?_
  refine q_aload_n C dX1_copyFrom_25 rfl rfl ?_
  refine q_getI (x := S 1 3) C flX1_51 q_s1 rfl dX1_copyFrom_26 rfl ?_
  refine q_put (ty9 := .int) C flX1_51 q_s19 rfl (fun _ _ _ h => by cases h; exact ⟨rfl, by decide +kernel⟩) rfl rfl dX1_copyFrom_29 ?_
  refine q_aload_n C dX1_copyFrom_32 rfl rfl ?_
  refine q_aload_n C dX1_copyFrom_33 rfl rfl ?_
  refine q_getI (x := S 1 4) C flX1_54 q_s1 rfl dX1_copyFrom_34 rfl ?_
  refine q_put (ty9 := .int) C flX1_54 q_s19 rfl (fun _ _ _ h => by cases h; exact ⟨rfl, by decide +kernel⟩) rfl rfl dX1_copyFrom_37 ?_
  refine q_aload_n C dX1_copyFrom_40 rfl rfl ?_
  refine q_aload_n C dX1_copyFrom_41 rfl rfl ?_
  refine q_getI (x := S 1 5) C flX1_9 q_s1 rfl dX1_copyFrom_42 rfl ?_
  refine q_put (ty9 := .boolean) C flX1_9 q_s19 rfl (fun _ _ _ h => by cases h; exact ⟨rfl, by decide +kernel⟩) (q_narrow_b hz.1) (q_fits_b hz.1) dX1_copyFrom_45 ?_
  refine q_aload_n C dX1_copyFrom_48 rfl rfl ?_
  refine q_getR C flX1_15 q_s1 rfl dX1_copyFrom_49 ?_
  refine q_iconst (v := 0) C dX1_copyFrom_52 (by decide) ?_
  refine q_aload_n C dX1_copyFrom_53 rfl rfl ?_
  refine q_getR C flX1_15 q_s19 rfl dX1_copyFrom_54 ?_
  refine q_iconst (v := 0) C dX1_copyFrom_57 (by decide) ?_
  refine q_bipush (v := 8) C dX1_copyFrom_58 (by decide) ?_
  refine q_copyV (n := 8) (dp := 0) (sp := 0) (f := (va_cpy (S 2) (S 20) 0 0 8)) C q_s2 q_s20  rfl rfl rfl mlX1_57 w_copyN w_copyS w_copyI (by omega) (by omega) (by decide) (by decide) (by decide) (Nat.le_of_ble_eq_true rfl) dX1_copyFrom_60 rfl ?_
  refine q_aload_n C dX1_copyFrom_63 rfl rfl ?_
  refine q_getR C flX1_19 q_s1 rfl dX1_copyFrom_64 ?_
  refine q_iconst (v := 0) C dX1_copyFrom_67 (by decide) ?_
  refine q_aload_n C dX1_copyFrom_68 rfl rfl ?_
  refine q_getR C flX1_19 q_s19 rfl dX1_copyFrom_69 ?_
  refine q_iconst (v := 0) C dX1_copyFrom_72 (by decide) ?_
  refine q_bipush (v := 8) C dX1_copyFrom_73 (by decide) ?_
  refine q_copyV (n := 8) (dp := 0) (sp := 0) (f := (va_cpy (S 3) (S 21) 0 0 8)) C q_s3 q_s21  rfl rfl rfl mlX1_57 w_copyN w_copyS w_copyI (by omega) (by omega) (by decide) (by decide) (by decide) (Nat.le_of_ble_eq_true rfl) dX1_copyFrom_75 rfl ?_
  refine q_aload_n C dX1_copyFrom_78 rfl rfl ?_
  refine q_getR C flX1_22 q_s1 rfl dX1_copyFrom_79 ?_
  refine q_iconst (v := 0) C dX1_copyFrom_82 (by decide) ?_
  refine q_aload_n C dX1_copyFrom_83 rfl rfl ?_
  refine q_getR C flX1_22 q_s19 rfl dX1_copyFrom_84 ?_
  refine q_iconst (v := 0) C dX1_copyFrom_87 (by decide) ?_
  refine q_bipush (v := 8) C dX1_copyFrom_88 (by decide) ?_
  refine q_copyV (n := 8) (dp := 0) (sp := 0) (f := (va_cpy (S 4) (S 22) 0 0 8)) C q_s4 q_s22  rfl rfl rfl mlX1_57 w_copyN w_copyS w_copyI (by omega) (by omega) (by decide) (by decide) (by decide) (Nat.le_of_ble_eq_true rfl) dX1_copyFrom_90 rfl ?_
  refine q_aload_n C dX1_copyFrom_93 rfl rfl ?_
  refine q_getR C flX1_25 q_s1 rfl dX1_copyFrom_94 ?_
  refine q_iconst (v := 0) C dX1_copyFrom_97 (by decide) ?_
  refine q_aload_n C dX1_copyFrom_98 rfl rfl ?_
  refine q_getR C flX1_25 q_s19 rfl dX1_copyFrom_99 ?_
  refine q_iconst (v := 0) C dX1_copyFrom_102 (by decide) ?_
  refine q_bipush (v := 48) C dX1_copyFrom_103 (by decide) ?_
  refine q_copyV (n := 48) (dp := 0) (sp := 0) (f := (va_cpy (S 5) (S 23) 0 0 48)) C q_s5 q_s23  rfl rfl rfl mlX1_57 w_copyN w_copyS w_copyI (by omega) (by omega) (by decide) (by decide) (by decide) (Nat.le_of_ble_eq_true rfl) dX1_copyFrom_105 rfl ?_
  refine q_aload_n C dX1_copyFrom_108 rfl rfl ?_
  refine q_getR C flX1_28 q_s1 rfl dX1_copyFrom_109 ?_
  refine q_iconst (v := 0) C dX1_copyFrom_112 (by decide) ?_
  refine q_aload_n C dX1_copyFrom_113 rfl rfl ?_
  refine q_getR C flX1_28 q_s19 rfl dX1_copyFrom_114 ?_
  refine q_iconst (v := 0) C dX1_copyFrom_117 (by decide) ?_
  refine q_bipush (v := 48) C dX1_copyFrom_118 (by decide) ?_
  refine q_copyV (n := 48) (dp := 0) (sp := 0) (f := (va_cpy (S 6) (S 24) 0 0 48)) C q_s6 q_s24  rfl rfl rfl mlX1_57 w_copyN w_copyS w_copyI (by omega) (by omega) (by decide) (by decide) (by decide) (Nat.le_of_ble_eq_true rfl) dX1_copyFrom_120 rfl ?_
  refine q_aload_n C dX1_copyFrom_123 rfl rfl ?_
  refine q_getR C flX1_31 q_s1 rfl dX1_copyFrom_124 ?_
  refine q_iconst (v := 0) C dX1_copyFrom_127 (by decide) ?_
  refine q_aload_n C dX1_copyFrom_128 rfl rfl ?_
  refine q_getR C flX1_31 q_s19 rfl dX1_copyFrom_129 ?_
  refine q_iconst (v := 0) C dX1_copyFrom_132 (by decide) ?_
  refine q_bipush (v := 6) C dX1_copyFrom_133 (by decide) ?_
  refine q_copyV (n := 6) (dp := 0) (sp := 0) (f := (va_cpy (S 7) (S 25) 0 0 6)) C q_s7 q_s25  rfl rfl rfl mlX1_57 w_copyN w_copyS w_copyI (by omega) (by omega) (by decide) (by decide) (by decide) (Nat.le_of_ble_eq_true rfl) dX1_copyFrom_135 rfl ?_
  refine q_aload_n C dX1_copyFrom_138 rfl rfl ?_
  refine q_getR C flX1_34 q_s1 rfl dX1_copyFrom_139 ?_
  refine q_iconst (v := 0) C dX1_copyFrom_142 (by decide) ?_
  refine q_aload_n C dX1_copyFrom_143 rfl rfl ?_
  refine q_getR C flX1_34 q_s19 rfl dX1_copyFrom_144 ?_
  refine q_iconst (v := 0) C dX1_copyFrom_147 (by decide) ?_
  refine q_bipush (v := 6) C dX1_copyFrom_148 (by decide) ?_
  refine q_copyV (n := 6) (dp := 0) (sp := 0) (f := (va_cpy (S 8) (S 26) 0 0 6)) C q_s8 q_s26  rfl rfl rfl mlX1_57 w_copyN w_copyS w_copyI (by omega) (by omega) (by decide) (by decide) (by decide) (Nat.le_of_ble_eq_true rfl) dX1_copyFrom_150 rfl ?_
  refine q_iconst (v := 0) C dX1_copyFrom_153 (by decide) ?_
  refine q_istore_n (lv' := [(2, .int 0), (0, .ref 19), (1, .ref 1)]) C dX1_copyFrom_154 rfl (by decide) rfl ?_
  have loop_155 : ∀ (n_155 i_155 : Nat), i_155 + n_155 = 6 → q_V l K 155 [(0, .ref 19), (1, .ref 1), (2, .int (nI i_155))] [] (q_u (q_u (q_u (q_u (q_u (q_u (q_u (q_u (q_p (q_p (q_p (q_p (q_p (q_p S 19 0 (S 1 0)) 19 1 (S 1 1)) 19 2 (S 1 2)) 19 3 (S 1 3)) 19 4 (S 1 4)) 19 5 (S 1 5)) 20 (va_cpy (S 2) (S 20) 0 0 8)) 21 (va_cpy (S 3) (S 21) 0 0 8)) 22 (va_cpy (S 4) (S 22) 0 0 8)) 23 (va_cpy (S 5) (S 23) 0 0 48)) 24 (va_cpy (S 6) (S 24) 0 0 48)) 25 (va_cpy (S 7) (S 25) 0 0 6)) 26 (va_cpy (S 8) (S 26) 0 0 6)) 27 (va_cpy (S 9) (S 27) 0 0 i_155)) := by
    intro n_155
    induction n_155 with
    | zero =>
      intro i_155 hi_155
      have e_155 : i_155 = 6 := by omega
      refine q_iload_n C dX1_copyFrom_155 rfl rfl ?_
      refine q_bipush (v := 6) C dX1_copyFrom_156 (by decide) ?_
      refine q_icmp_geN (a := i_155) (b := 6) (tgt := 179) C dX1_copyFrom_158 (by decide) rfl rfl (by omega) (by omega) (fun c_158 => ?_) (fun c_158 => absurd c_158 (by omega))
      exact hret _ _ _ dX1_copyFrom_179 (by rw [e_155]; exact q_cp_eq S 19 1)
    | succ n_155 ih_155 =>
      intro i_155 hi_155
      refine q_iload_n C dX1_copyFrom_155 rfl rfl ?_
      refine q_bipush (v := 6) C dX1_copyFrom_156 (by decide) ?_
      refine q_icmp_geN (a := i_155) (b := 6) (tgt := 179) C dX1_copyFrom_158 (by decide) rfl rfl (by omega) (by omega) (fun c_158 => absurd c_158 (by omega)) (fun c_158 => ?_)
      refine q_aload_n C dX1_copyFrom_161 rfl rfl ?_
      refine q_getR C flX1_37 q_s19 rfl dX1_copyFrom_162 ?_
      refine q_iload_n C dX1_copyFrom_165 rfl rfl ?_
      refine q_aload_n C dX1_copyFrom_166 rfl rfl ?_
      refine q_getR C flX1_37 q_s1 rfl dX1_copyFrom_167 ?_
      refine q_iload_n C dX1_copyFrom_170 rfl rfl ?_
      refine q_zaldN (i := i_155) (x := S 9 i_155) C rfl q_s9 (by omega) (by decide) dX1_copyFrom_171 rfl ?_
      refine q_zastV (i := i_155) (v := S 9 i_155) C rfl q_s27 (by omega) (by decide) dX1_copyFrom_172 (q_nar_b (hz.2 _ (by omega))) ?_
      refine q_iinc (v := nI (i_155 + 1)) (lv' := [(2, .int (nI (i_155 + 1))), (0, .ref 19), (1, .ref 1)]) C dX1_copyFrom_173 rfl (nI_add _ _) (by decide) rfl ?_
      refine q_goto (tgt := 155) C dX1_copyFrom_176 (by decide) ?_
      exact q_V_to (ih_155 (i_155 + 1) (by omega)) ⟨rfl, rfl, rfl, trivial⟩ (q_u_s _ _ _ _ _)
  exact q_V_to (loop_155 (6 - 0) 0 (by omega)) ⟨rfl, rfl, rfl, trivial⟩ (q_u_0 _ _ _)
theorem c_X1_copy_1_19 (l : Launch) (S : q_St) (hz : q_bool S 19) : q_Fv l yX1_copyFrom kX1_copyFrom 1 [.ref 1, .ref 19] S (q_cp S 1 19) := by
  refine q_Fv_of (maxL := 3) rfl (by decide +kernel) (fun ad => Nat.le_of_ble_eq_true rfl) ?_
  intro K C hret
  have C : q_Cx K cX1_copyFrom RX1 1 3 := C
  show q_V l K 0 [(0, .ref 1), (1, .ref 19)] [] S
  refine q_aload_n C dX1_copyFrom_0 rfl rfl ?_
  refine q_aload_n C dX1_copyFrom_1 rfl rfl ?_
  refine q_getI (x := S 19 0) C flX1_41 q_s19 rfl dX1_copyFrom_2 rfl ?_
  refine q_put (ty9 := .int) C flX1_41 q_s1 rfl (fun _ _ _ h => by cases h; exact ⟨rfl, by decide +kernel⟩) rfl rfl dX1_copyFrom_5 ?_
  refine q_aload_n C dX1_copyFrom_8 rfl rfl ?_
  refine q_aload_n C dX1_copyFrom_9 rfl rfl ?_
  refine q_getI (x := S 19 1) C flX1_45 q_s19 rfl dX1_copyFrom_10 rfl ?_
  refine q_put (ty9 := .int) C flX1_45 q_s1 rfl (fun _ _ _ h => by cases h; exact ⟨rfl, by decide +kernel⟩) rfl rfl dX1_copyFrom_13 ?_
  refine q_aload_n C dX1_copyFrom_16 rfl rfl ?_
  refine q_aload_n C dX1_copyFrom_17 rfl rfl ?_
  refine q_getI (x := S 19 2) C flX1_48 q_s19 rfl dX1_copyFrom_18 rfl ?_
  refine q_put (ty9 := .int) C flX1_48 q_s1 rfl (fun _ _ _ h => by cases h; exact ⟨rfl, by decide +kernel⟩) rfl rfl dX1_copyFrom_21 ?_
  refine q_aload_n C dX1_copyFrom_24 rfl rfl ?_
  refine q_aload_n C dX1_copyFrom_25 rfl rfl ?_
  refine q_getI (x := S 19 3) C flX1_51 q_s19 rfl dX1_copyFrom_26 rfl ?_
  refine q_put (ty9 := .int) C flX1_51 q_s1 rfl (fun _ _ _ h => by cases h; exact ⟨rfl, by decide +kernel⟩) rfl rfl dX1_copyFrom_29 ?_
  refine q_aload_n C dX1_copyFrom_32 rfl rfl ?_
  refine q_aload_n C dX1_copyFrom_33 rfl rfl ?_
  refine q_getI (x := S 19 4) C flX1_54 q_s19 rfl dX1_copyFrom_34 rfl ?_
  refine q_put (ty9 := .int) C flX1_54 q_s1 rfl (fun _ _ _ h => by cases h; exact ⟨rfl, by decide +kernel⟩) rfl rfl dX1_copyFrom_37 ?_
  refine q_aload_n C dX1_copyFrom_40 rfl rfl ?_
  refine q_aload_n C dX1_copyFrom_41 rfl rfl ?_
  refine q_getI (x := S 19 5) C flX1_9 q_s19 rfl dX1_copyFrom_42 rfl ?_
  refine q_put (ty9 := .boolean) C flX1_9 q_s1 rfl (fun _ _ _ h => by cases h; exact ⟨rfl, by decide +kernel⟩) (q_narrow_b hz.1) (q_fits_b hz.1) dX1_copyFrom_45 ?_
  refine q_aload_n C dX1_copyFrom_48 rfl rfl ?_
  refine q_getR C flX1_15 q_s19 rfl dX1_copyFrom_49 ?_
  refine q_iconst (v := 0) C dX1_copyFrom_52 (by decide) ?_
  refine q_aload_n C dX1_copyFrom_53 rfl rfl ?_
  refine q_getR C flX1_15 q_s1 rfl dX1_copyFrom_54 ?_
  refine q_iconst (v := 0) C dX1_copyFrom_57 (by decide) ?_
  refine q_bipush (v := 8) C dX1_copyFrom_58 (by decide) ?_
  refine q_copyV (n := 8) (dp := 0) (sp := 0) (f := (va_cpy (S 20) (S 2) 0 0 8)) C q_s20 q_s2  rfl rfl rfl mlX1_57 w_copyN w_copyS w_copyI (by omega) (by omega) (by decide) (by decide) (by decide) (Nat.le_of_ble_eq_true rfl) dX1_copyFrom_60 rfl ?_
  refine q_aload_n C dX1_copyFrom_63 rfl rfl ?_
  refine q_getR C flX1_19 q_s19 rfl dX1_copyFrom_64 ?_
  refine q_iconst (v := 0) C dX1_copyFrom_67 (by decide) ?_
  refine q_aload_n C dX1_copyFrom_68 rfl rfl ?_
  refine q_getR C flX1_19 q_s1 rfl dX1_copyFrom_69 ?_
  refine q_iconst (v := 0) C dX1_copyFrom_72 (by decide) ?_
  refine q_bipush (v := 8) C dX1_copyFrom_73 (by decide) ?_
  refine q_copyV (n := 8) (dp := 0) (sp := 0) (f := (va_cpy (S 21) (S 3) 0 0 8)) C q_s21 q_s3  rfl rfl rfl mlX1_57 w_copyN w_copyS w_copyI (by omega) (by omega) (by decide) (by decide) (by decide) (Nat.le_of_ble_eq_true rfl) dX1_copyFrom_75 rfl ?_
  refine q_aload_n C dX1_copyFrom_78 rfl rfl ?_
  refine q_getR C flX1_22 q_s19 rfl dX1_copyFrom_79 ?_
  refine q_iconst (v := 0) C dX1_copyFrom_82 (by decide) ?_
  refine q_aload_n C dX1_copyFrom_83 rfl rfl ?_
  refine q_getR C flX1_22 q_s1 rfl dX1_copyFrom_84 ?_
  refine q_iconst (v := 0) C dX1_copyFrom_87 (by decide) ?_
  refine q_bipush (v := 8) C dX1_copyFrom_88 (by decide) ?_
  refine q_copyV (n := 8) (dp := 0) (sp := 0) (f := (va_cpy (S 22) (S 4) 0 0 8)) C q_s22 q_s4  rfl rfl rfl mlX1_57 w_copyN w_copyS w_copyI (by omega) (by omega) (by decide) (by decide) (by decide) (Nat.le_of_ble_eq_true rfl) dX1_copyFrom_90 rfl ?_
  refine q_aload_n C dX1_copyFrom_93 rfl rfl ?_
  refine q_getR C flX1_25 q_s19 rfl dX1_copyFrom_94 ?_
  refine q_iconst (v := 0) C dX1_copyFrom_97 (by decide) ?_
  refine q_aload_n C dX1_copyFrom_98 rfl rfl ?_
  refine q_getR C flX1_25 q_s1 rfl dX1_copyFrom_99 ?_
  refine q_iconst (v := 0) C dX1_copyFrom_102 (by decide) ?_
  refine q_bipush (v := 48) C dX1_copyFrom_103 (by decide) ?_
  refine q_copyV (n := 48) (dp := 0) (sp := 0) (f := (va_cpy (S 23) (S 5) 0 0 48)) C q_s23 q_s5  rfl rfl rfl mlX1_57 w_copyN w_copyS w_copyI (by omega) (by omega) (by decide) (by decide) (by decide) (Nat.le_of_ble_eq_true rfl) dX1_copyFrom_105 rfl ?_
  refine q_aload_n C dX1_copyFrom_108 rfl rfl ?_
  refine q_getR C flX1_28 q_s19 rfl dX1_copyFrom_109 ?_
  refine q_iconst (v := 0) C dX1_copyFrom_112 (by decide) ?_
  refine q_aload_n C dX1_copyFrom_113 rfl rfl ?_
  refine q_getR C flX1_28 q_s1 rfl dX1_copyFrom_114 ?_
  refine q_iconst (v := 0) C dX1_copyFrom_117 (by decide) ?_
  refine q_bipush (v := 48) C dX1_copyFrom_118 (by decide) ?_
  refine q_copyV (n := 48) (dp := 0) (sp := 0) (f := (va_cpy (S 24) (S 6) 0 0 48)) C q_s24 q_s6  rfl rfl rfl mlX1_57 w_copyN w_copyS w_copyI (by omega) (by omega) (by decide) (by decide) (by decide) (Nat.le_of_ble_eq_true rfl) dX1_copyFrom_120 rfl ?_
  refine q_aload_n C dX1_copyFrom_123 rfl rfl ?_
  refine q_getR C flX1_31 q_s19 rfl dX1_copyFrom_124 ?_
  refine q_iconst (v := 0) C dX1_copyFrom_127 (by decide) ?_
  refine q_aload_n C dX1_copyFrom_128 rfl rfl ?_
  refine q_getR C flX1_31 q_s1 rfl dX1_copyFrom_129 ?_
  refine q_iconst (v := 0) C dX1_copyFrom_132 (by decide) ?_
  refine q_bipush (v := 6) C dX1_copyFrom_133 (by decide) ?_
  refine q_copyV (n := 6) (dp := 0) (sp := 0) (f := (va_cpy (S 25) (S 7) 0 0 6)) C q_s25 q_s7  rfl rfl rfl mlX1_57 w_copyN w_copyS w_copyI (by omega) (by omega) (by decide) (by decide) (by decide) (Nat.le_of_ble_eq_true rfl) dX1_copyFrom_135 rfl ?_
  refine q_aload_n C dX1_copyFrom_138 rfl rfl ?_
  refine q_getR C flX1_34 q_s19 rfl dX1_copyFrom_139 ?_
  refine q_iconst (v := 0) C dX1_copyFrom_142 (by decide) ?_
  refine q_aload_n C dX1_copyFrom_143 rfl rfl ?_
  refine q_getR C flX1_34 q_s1 rfl dX1_copyFrom_144 ?_
  refine q_iconst (v := 0) C dX1_copyFrom_147 (by decide) ?_
  refine q_bipush (v := 6) C dX1_copyFrom_148 (by decide) ?_
  refine q_copyV (n := 6) (dp := 0) (sp := 0) (f := (va_cpy (S 26) (S 8) 0 0 6)) C q_s26 q_s8  rfl rfl rfl mlX1_57 w_copyN w_copyS w_copyI (by omega) (by omega) (by decide) (by decide) (by decide) (Nat.le_of_ble_eq_true rfl) dX1_copyFrom_150 rfl ?_
  refine q_iconst (v := 0) C dX1_copyFrom_153 (by decide) ?_
  refine q_istore_n (lv' := [(2, .int 0), (0, .ref 1), (1, .ref 19)]) C dX1_copyFrom_154 rfl (by decide) rfl ?_
  have loop_155 : ∀ (n_155 i_155 : Nat), i_155 + n_155 = 6 → q_V l K 155 [(0, .ref 1), (1, .ref 19), (2, .int (nI i_155))] [] (q_u (q_u (q_u (q_u (q_u (q_u (q_u (q_u (q_p (q_p (q_p (q_p (q_p (q_p S 1 0 (S 19 0)) 1 1 (S 19 1)) 1 2 (S 19 2)) 1 3 (S 19 3)) 1 4 (S 19 4)) 1 5 (S 19 5)) 2 (va_cpy (S 20) (S 2) 0 0 8)) 3 (va_cpy (S 21) (S 3) 0 0 8)) 4 (va_cpy (S 22) (S 4) 0 0 8)) 5 (va_cpy (S 23) (S 5) 0 0 48)) 6 (va_cpy (S 24) (S 6) 0 0 48)) 7 (va_cpy (S 25) (S 7) 0 0 6)) 8 (va_cpy (S 26) (S 8) 0 0 6)) 9 (va_cpy (S 27) (S 9) 0 0 i_155)) := by
    intro n_155
    induction n_155 with
    | zero =>
      intro i_155 hi_155
      have e_155 : i_155 = 6 := by omega
      refine q_iload_n C dX1_copyFrom_155 rfl rfl ?_
      refine q_bipush (v := 6) C dX1_copyFrom_156 (by decide) ?_
      refine q_icmp_geN (a := i_155) (b := 6) (tgt := 179) C dX1_copyFrom_158 (by decide) rfl rfl (by omega) (by omega) (fun c_158 => ?_) (fun c_158 => absurd c_158 (by omega))
      exact hret _ _ _ dX1_copyFrom_179 (by rw [e_155]; exact q_cp_eq S 1 19)
    | succ n_155 ih_155 =>
      intro i_155 hi_155
      refine q_iload_n C dX1_copyFrom_155 rfl rfl ?_
      refine q_bipush (v := 6) C dX1_copyFrom_156 (by decide) ?_
      refine q_icmp_geN (a := i_155) (b := 6) (tgt := 179) C dX1_copyFrom_158 (by decide) rfl rfl (by omega) (by omega) (fun c_158 => absurd c_158 (by omega)) (fun c_158 => ?_)
      refine q_aload_n C dX1_copyFrom_161 rfl rfl ?_
      refine q_getR C flX1_37 q_s1 rfl dX1_copyFrom_162 ?_
      refine q_iload_n C dX1_copyFrom_165 rfl rfl ?_
      refine q_aload_n C dX1_copyFrom_166 rfl rfl ?_
      refine q_getR C flX1_37 q_s19 rfl dX1_copyFrom_167 ?_
      refine q_iload_n C dX1_copyFrom_170 rfl rfl ?_
      refine q_zaldN (i := i_155) (x := S 27 i_155) C rfl q_s27 (by omega) (by decide) dX1_copyFrom_171 rfl ?_
      refine q_zastV (i := i_155) (v := S 27 i_155) C rfl q_s9 (by omega) (by decide) dX1_copyFrom_172 (q_nar_b (hz.2 _ (by omega))) ?_
      refine q_iinc (v := nI (i_155 + 1)) (lv' := [(2, .int (nI (i_155 + 1))), (0, .ref 1), (1, .ref 19)]) C dX1_copyFrom_173 rfl (nI_add _ _) (by decide) rfl ?_
      refine q_goto (tgt := 155) C dX1_copyFrom_176 (by decide) ?_
      exact q_V_to (ih_155 (i_155 + 1) (by omega)) ⟨rfl, rfl, rfl, trivial⟩ (q_u_s _ _ _ _ _)
  exact q_V_to (loop_155 (6 - 0) 0 (by omega)) ⟨rfl, rfl, rfl, trivial⟩ (q_u_0 _ _ _)
theorem c_X1_copy_30_1 (l : Launch) (S : q_St) (hz : q_bool S 1) : q_Fv l yX1_copyFrom kX1_copyFrom 1 [.ref 30, .ref 1] S (q_cp S 30 1) := by
  refine q_Fv_of (maxL := 3) rfl (by decide +kernel) (fun ad => Nat.le_of_ble_eq_true rfl) ?_
  intro K C hret
  have C : q_Cx K cX1_copyFrom RX1 1 3 := C
  show q_V l K 0 [(0, .ref 30), (1, .ref 1)] [] S
  refine q_aload_n C dX1_copyFrom_0 rfl rfl ?_
  refine q_aload_n C dX1_copyFrom_1 rfl rfl ?_
  refine q_getI (x := S 1 0) C flX1_41 q_s1 rfl dX1_copyFrom_2 rfl ?_
  refine q_put (ty9 := .int) C flX1_41 q_s30 rfl (fun _ _ _ h => by cases h; exact ⟨rfl, by decide +kernel⟩) rfl rfl dX1_copyFrom_5 ?_
  refine q_aload_n C dX1_copyFrom_8 rfl rfl ?_
  refine q_aload_n C dX1_copyFrom_9 rfl rfl ?_
  refine q_getI (x := S 1 1) C flX1_45 q_s1 rfl dX1_copyFrom_10 rfl ?_
  refine q_put (ty9 := .int) C flX1_45 q_s30 rfl (fun _ _ _ h => by cases h; exact ⟨rfl, by decide +kernel⟩) rfl rfl dX1_copyFrom_13 ?_
  refine q_aload_n C dX1_copyFrom_16 rfl rfl ?_
  refine q_aload_n C dX1_copyFrom_17 rfl rfl ?_
  refine q_getI (x := S 1 2) C flX1_48 q_s1 rfl dX1_copyFrom_18 rfl ?_
  refine q_put (ty9 := .int) C flX1_48 q_s30 rfl (fun _ _ _ h => by cases h; exact ⟨rfl, by decide +kernel⟩) rfl rfl dX1_copyFrom_21 ?_
  refine q_aload_n C dX1_copyFrom_24 rfl rfl ?_
  refine q_aload_n C dX1_copyFrom_25 rfl rfl ?_
  refine q_getI (x := S 1 3) C flX1_51 q_s1 rfl dX1_copyFrom_26 rfl ?_
  refine q_put (ty9 := .int) C flX1_51 q_s30 rfl (fun _ _ _ h => by cases h; exact ⟨rfl, by decide +kernel⟩) rfl rfl dX1_copyFrom_29 ?_
  refine q_aload_n C dX1_copyFrom_32 rfl rfl ?_
  refine q_aload_n C dX1_copyFrom_33 rfl rfl ?_
  refine q_getI (x := S 1 4) C flX1_54 q_s1 rfl dX1_copyFrom_34 rfl ?_
  refine q_put (ty9 := .int) C flX1_54 q_s30 rfl (fun _ _ _ h => by cases h; exact ⟨rfl, by decide +kernel⟩) rfl rfl dX1_copyFrom_37 ?_
  refine q_aload_n C dX1_copyFrom_40 rfl rfl ?_
  refine q_aload_n C dX1_copyFrom_41 rfl rfl ?_
  refine q_getI (x := S 1 5) C flX1_9 q_s1 rfl dX1_copyFrom_42 rfl ?_
  refine q_put (ty9 := .boolean) C flX1_9 q_s30 rfl (fun _ _ _ h => by cases h; exact ⟨rfl, by decide +kernel⟩) (q_narrow_b hz.1) (q_fits_b hz.1) dX1_copyFrom_45 ?_
  refine q_aload_n C dX1_copyFrom_48 rfl rfl ?_
  refine q_getR C flX1_15 q_s1 rfl dX1_copyFrom_49 ?_
  refine q_iconst (v := 0) C dX1_copyFrom_52 (by decide) ?_
  refine q_aload_n C dX1_copyFrom_53 rfl rfl ?_
  refine q_getR C flX1_15 q_s30 rfl dX1_copyFrom_54 ?_
  refine q_iconst (v := 0) C dX1_copyFrom_57 (by decide) ?_
  refine q_bipush (v := 8) C dX1_copyFrom_58 (by decide) ?_
  refine q_copyV (n := 8) (dp := 0) (sp := 0) (f := (va_cpy (S 2) (S 31) 0 0 8)) C q_s2 q_s31  rfl rfl rfl mlX1_57 w_copyN w_copyS w_copyI (by omega) (by omega) (by decide) (by decide) (by decide) (Nat.le_of_ble_eq_true rfl) dX1_copyFrom_60 rfl ?_
  refine q_aload_n C dX1_copyFrom_63 rfl rfl ?_
  refine q_getR C flX1_19 q_s1 rfl dX1_copyFrom_64 ?_
  refine q_iconst (v := 0) C dX1_copyFrom_67 (by decide) ?_
  refine q_aload_n C dX1_copyFrom_68 rfl rfl ?_
  refine q_getR C flX1_19 q_s30 rfl dX1_copyFrom_69 ?_
  refine q_iconst (v := 0) C dX1_copyFrom_72 (by decide) ?_
  refine q_bipush (v := 8) C dX1_copyFrom_73 (by decide) ?_
  refine q_copyV (n := 8) (dp := 0) (sp := 0) (f := (va_cpy (S 3) (S 32) 0 0 8)) C q_s3 q_s32  rfl rfl rfl mlX1_57 w_copyN w_copyS w_copyI (by omega) (by omega) (by decide) (by decide) (by decide) (Nat.le_of_ble_eq_true rfl) dX1_copyFrom_75 rfl ?_
  refine q_aload_n C dX1_copyFrom_78 rfl rfl ?_
  refine q_getR C flX1_22 q_s1 rfl dX1_copyFrom_79 ?_
  refine q_iconst (v := 0) C dX1_copyFrom_82 (by decide) ?_
  refine q_aload_n C dX1_copyFrom_83 rfl rfl ?_
  refine q_getR C flX1_22 q_s30 rfl dX1_copyFrom_84 ?_
  refine q_iconst (v := 0) C dX1_copyFrom_87 (by decide) ?_
  refine q_bipush (v := 8) C dX1_copyFrom_88 (by decide) ?_
  refine q_copyV (n := 8) (dp := 0) (sp := 0) (f := (va_cpy (S 4) (S 33) 0 0 8)) C q_s4 q_s33  rfl rfl rfl mlX1_57 w_copyN w_copyS w_copyI (by omega) (by omega) (by decide) (by decide) (by decide) (Nat.le_of_ble_eq_true rfl) dX1_copyFrom_90 rfl ?_
  refine q_aload_n C dX1_copyFrom_93 rfl rfl ?_
  refine q_getR C flX1_25 q_s1 rfl dX1_copyFrom_94 ?_
  refine q_iconst (v := 0) C dX1_copyFrom_97 (by decide) ?_
  refine q_aload_n C dX1_copyFrom_98 rfl rfl ?_
  refine q_getR C flX1_25 q_s30 rfl dX1_copyFrom_99 ?_
  refine q_iconst (v := 0) C dX1_copyFrom_102 (by decide) ?_
  refine q_bipush (v := 48) C dX1_copyFrom_103 (by decide) ?_
  refine q_copyV (n := 48) (dp := 0) (sp := 0) (f := (va_cpy (S 5) (S 34) 0 0 48)) C q_s5 q_s34  rfl rfl rfl mlX1_57 w_copyN w_copyS w_copyI (by omega) (by omega) (by decide) (by decide) (by decide) (Nat.le_of_ble_eq_true rfl) dX1_copyFrom_105 rfl ?_
  refine q_aload_n C dX1_copyFrom_108 rfl rfl ?_
  refine q_getR C flX1_28 q_s1 rfl dX1_copyFrom_109 ?_
  refine q_iconst (v := 0) C dX1_copyFrom_112 (by decide) ?_
  refine q_aload_n C dX1_copyFrom_113 rfl rfl ?_
  refine q_getR C flX1_28 q_s30 rfl dX1_copyFrom_114 ?_
  refine q_iconst (v := 0) C dX1_copyFrom_117 (by decide) ?_
  refine q_bipush (v := 48) C dX1_copyFrom_118 (by decide) ?_
  refine q_copyV (n := 48) (dp := 0) (sp := 0) (f := (va_cpy (S 6) (S 35) 0 0 48)) C q_s6 q_s35  rfl rfl rfl mlX1_57 w_copyN w_copyS w_copyI (by omega) (by omega) (by decide) (by decide) (by decide) (Nat.le_of_ble_eq_true rfl) dX1_copyFrom_120 rfl ?_
  refine q_aload_n C dX1_copyFrom_123 rfl rfl ?_
  refine q_getR C flX1_31 q_s1 rfl dX1_copyFrom_124 ?_
  refine q_iconst (v := 0) C dX1_copyFrom_127 (by decide) ?_
  refine q_aload_n C dX1_copyFrom_128 rfl rfl ?_
  refine q_getR C flX1_31 q_s30 rfl dX1_copyFrom_129 ?_
  refine q_iconst (v := 0) C dX1_copyFrom_132 (by decide) ?_
  refine q_bipush (v := 6) C dX1_copyFrom_133 (by decide) ?_
  refine q_copyV (n := 6) (dp := 0) (sp := 0) (f := (va_cpy (S 7) (S 36) 0 0 6)) C q_s7 q_s36  rfl rfl rfl mlX1_57 w_copyN w_copyS w_copyI (by omega) (by omega) (by decide) (by decide) (by decide) (Nat.le_of_ble_eq_true rfl) dX1_copyFrom_135 rfl ?_
  refine q_aload_n C dX1_copyFrom_138 rfl rfl ?_
  refine q_getR C flX1_34 q_s1 rfl dX1_copyFrom_139 ?_
  refine q_iconst (v := 0) C dX1_copyFrom_142 (by decide) ?_
  refine q_aload_n C dX1_copyFrom_143 rfl rfl ?_
  refine q_getR C flX1_34 q_s30 rfl dX1_copyFrom_144 ?_
  refine q_iconst (v := 0) C dX1_copyFrom_147 (by decide) ?_
  refine q_bipush (v := 6) C dX1_copyFrom_148 (by decide) ?_
  refine q_copyV (n := 6) (dp := 0) (sp := 0) (f := (va_cpy (S 8) (S 37) 0 0 6)) C q_s8 q_s37  rfl rfl rfl mlX1_57 w_copyN w_copyS w_copyI (by omega) (by omega) (by decide) (by decide) (by decide) (Nat.le_of_ble_eq_true rfl) dX1_copyFrom_150 rfl ?_
  refine q_iconst (v := 0) C dX1_copyFrom_153 (by decide) ?_
  refine q_istore_n (lv' := [(2, .int 0), (0, .ref 30), (1, .ref 1)]) C dX1_copyFrom_154 rfl (by decide) rfl ?_
  have loop_155 : ∀ (n_155 i_155 : Nat), i_155 + n_155 = 6 → q_V l K 155 [(0, .ref 30), (1, .ref 1), (2, .int (nI i_155))] [] (q_u (q_u (q_u (q_u (q_u (q_u (q_u (q_u (q_p (q_p (q_p (q_p (q_p (q_p S 30 0 (S 1 0)) 30 1 (S 1 1)) 30 2 (S 1 2)) 30 3 (S 1 3)) 30 4 (S 1 4)) 30 5 (S 1 5)) 31 (va_cpy (S 2) (S 31) 0 0 8)) 32 (va_cpy (S 3) (S 32) 0 0 8)) 33 (va_cpy (S 4) (S 33) 0 0 8)) 34 (va_cpy (S 5) (S 34) 0 0 48)) 35 (va_cpy (S 6) (S 35) 0 0 48)) 36 (va_cpy (S 7) (S 36) 0 0 6)) 37 (va_cpy (S 8) (S 37) 0 0 6)) 38 (va_cpy (S 9) (S 38) 0 0 i_155)) := by
    intro n_155
    induction n_155 with
    | zero =>
      intro i_155 hi_155
      have e_155 : i_155 = 6 := by omega
      refine q_iload_n C dX1_copyFrom_155 rfl rfl ?_
      refine q_bipush (v := 6) C dX1_copyFrom_156 (by decide) ?_
      refine q_icmp_geN (a := i_155) (b := 6) (tgt := 179) C dX1_copyFrom_158 (by decide) rfl rfl (by omega) (by omega) (fun c_158 => ?_) (fun c_158 => absurd c_158 (by omega))
      exact hret _ _ _ dX1_copyFrom_179 (by rw [e_155]; exact q_cp_eq S 30 1)
    | succ n_155 ih_155 =>
      intro i_155 hi_155
      refine q_iload_n C dX1_copyFrom_155 rfl rfl ?_
      refine q_bipush (v := 6) C dX1_copyFrom_156 (by decide) ?_
      refine q_icmp_geN (a := i_155) (b := 6) (tgt := 179) C dX1_copyFrom_158 (by decide) rfl rfl (by omega) (by omega) (fun c_158 => absurd c_158 (by omega)) (fun c_158 => ?_)
      refine q_aload_n C dX1_copyFrom_161 rfl rfl ?_
      refine q_getR C flX1_37 q_s30 rfl dX1_copyFrom_162 ?_
      refine q_iload_n C dX1_copyFrom_165 rfl rfl ?_
      refine q_aload_n C dX1_copyFrom_166 rfl rfl ?_
      refine q_getR C flX1_37 q_s1 rfl dX1_copyFrom_167 ?_
      refine q_iload_n C dX1_copyFrom_170 rfl rfl ?_
      refine q_zaldN (i := i_155) (x := S 9 i_155) C rfl q_s9 (by omega) (by decide) dX1_copyFrom_171 rfl ?_
      refine q_zastV (i := i_155) (v := S 9 i_155) C rfl q_s38 (by omega) (by decide) dX1_copyFrom_172 (q_nar_b (hz.2 _ (by omega))) ?_
      refine q_iinc (v := nI (i_155 + 1)) (lv' := [(2, .int (nI (i_155 + 1))), (0, .ref 30), (1, .ref 1)]) C dX1_copyFrom_173 rfl (nI_add _ _) (by decide) rfl ?_
      refine q_goto (tgt := 155) C dX1_copyFrom_176 (by decide) ?_
      exact q_V_to (ih_155 (i_155 + 1) (by omega)) ⟨rfl, rfl, rfl, trivial⟩ (q_u_s _ _ _ _ _)
  exact q_V_to (loop_155 (6 - 0) 0 (by omega)) ⟨rfl, rfl, rfl, trivial⟩ (q_u_0 _ _ _)
theorem c_X1_copy_39_1 (l : Launch) (S : q_St) (hz : q_bool S 1) : q_Fv l yX1_copyFrom kX1_copyFrom 1 [.ref 39, .ref 1] S (q_cp S 39 1) := by
  refine q_Fv_of (maxL := 3) rfl (by decide +kernel) (fun ad => Nat.le_of_ble_eq_true rfl) ?_
  intro K C hret
  have C : q_Cx K cX1_copyFrom RX1 1 3 := C
  show q_V l K 0 [(0, .ref 39), (1, .ref 1)] [] S
  refine q_aload_n C dX1_copyFrom_0 rfl rfl ?_
  refine q_aload_n C dX1_copyFrom_1 rfl rfl ?_
  refine q_getI (x := S 1 0) C flX1_41 q_s1 rfl dX1_copyFrom_2 rfl ?_
  refine q_put (ty9 := .int) C flX1_41 q_s39 rfl (fun _ _ _ h => by cases h; exact ⟨rfl, by decide +kernel⟩) rfl rfl dX1_copyFrom_5 ?_
  refine q_aload_n C dX1_copyFrom_8 rfl rfl ?_
  refine q_aload_n C dX1_copyFrom_9 rfl rfl ?_
  refine q_getI (x := S 1 1) C flX1_45 q_s1 rfl dX1_copyFrom_10 rfl ?_
  refine q_put (ty9 := .int) C flX1_45 q_s39 rfl (fun _ _ _ h => by cases h; exact ⟨rfl, by decide +kernel⟩) rfl rfl dX1_copyFrom_13 ?_
  refine q_aload_n C dX1_copyFrom_16 rfl rfl ?_
  refine q_aload_n C dX1_copyFrom_17 rfl rfl ?_
  refine q_getI (x := S 1 2) C flX1_48 q_s1 rfl dX1_copyFrom_18 rfl ?_
  refine q_put (ty9 := .int) C flX1_48 q_s39 rfl (fun _ _ _ h => by cases h; exact ⟨rfl, by decide +kernel⟩) rfl rfl dX1_copyFrom_21 ?_
  refine q_aload_n C dX1_copyFrom_24 rfl rfl ?_
  refine q_aload_n C dX1_copyFrom_25 rfl rfl ?_
  refine q_getI (x := S 1 3) C flX1_51 q_s1 rfl dX1_copyFrom_26 rfl ?_
  refine q_put (ty9 := .int) C flX1_51 q_s39 rfl (fun _ _ _ h => by cases h; exact ⟨rfl, by decide +kernel⟩) rfl rfl dX1_copyFrom_29 ?_
  refine q_aload_n C dX1_copyFrom_32 rfl rfl ?_
  refine q_aload_n C dX1_copyFrom_33 rfl rfl ?_
  refine q_getI (x := S 1 4) C flX1_54 q_s1 rfl dX1_copyFrom_34 rfl ?_
  refine q_put (ty9 := .int) C flX1_54 q_s39 rfl (fun _ _ _ h => by cases h; exact ⟨rfl, by decide +kernel⟩) rfl rfl dX1_copyFrom_37 ?_
  refine q_aload_n C dX1_copyFrom_40 rfl rfl ?_
  refine q_aload_n C dX1_copyFrom_41 rfl rfl ?_
  refine q_getI (x := S 1 5) C flX1_9 q_s1 rfl dX1_copyFrom_42 rfl ?_
  refine q_put (ty9 := .boolean) C flX1_9 q_s39 rfl (fun _ _ _ h => by cases h; exact ⟨rfl, by decide +kernel⟩) (q_narrow_b hz.1) (q_fits_b hz.1) dX1_copyFrom_45 ?_
  refine q_aload_n C dX1_copyFrom_48 rfl rfl ?_
  refine q_getR C flX1_15 q_s1 rfl dX1_copyFrom_49 ?_
  refine q_iconst (v := 0) C dX1_copyFrom_52 (by decide) ?_
  refine q_aload_n C dX1_copyFrom_53 rfl rfl ?_
  refine q_getR C flX1_15 q_s39 rfl dX1_copyFrom_54 ?_
  refine q_iconst (v := 0) C dX1_copyFrom_57 (by decide) ?_
  refine q_bipush (v := 8) C dX1_copyFrom_58 (by decide) ?_
  refine q_copyV (n := 8) (dp := 0) (sp := 0) (f := (va_cpy (S 2) (S 40) 0 0 8)) C q_s2 q_s40  rfl rfl rfl mlX1_57 w_copyN w_copyS w_copyI (by omega) (by omega) (by decide) (by decide) (by decide) (Nat.le_of_ble_eq_true rfl) dX1_copyFrom_60 rfl ?_
  refine q_aload_n C dX1_copyFrom_63 rfl rfl ?_
  refine q_getR C flX1_19 q_s1 rfl dX1_copyFrom_64 ?_
  refine q_iconst (v := 0) C dX1_copyFrom_67 (by decide) ?_
  refine q_aload_n C dX1_copyFrom_68 rfl rfl ?_
  refine q_getR C flX1_19 q_s39 rfl dX1_copyFrom_69 ?_
  refine q_iconst (v := 0) C dX1_copyFrom_72 (by decide) ?_
  refine q_bipush (v := 8) C dX1_copyFrom_73 (by decide) ?_
  refine q_copyV (n := 8) (dp := 0) (sp := 0) (f := (va_cpy (S 3) (S 41) 0 0 8)) C q_s3 q_s41  rfl rfl rfl mlX1_57 w_copyN w_copyS w_copyI (by omega) (by omega) (by decide) (by decide) (by decide) (Nat.le_of_ble_eq_true rfl) dX1_copyFrom_75 rfl ?_
  refine q_aload_n C dX1_copyFrom_78 rfl rfl ?_
  refine q_getR C flX1_22 q_s1 rfl dX1_copyFrom_79 ?_
  refine q_iconst (v := 0) C dX1_copyFrom_82 (by decide) ?_
  refine q_aload_n C dX1_copyFrom_83 rfl rfl ?_
  refine q_getR C flX1_22 q_s39 rfl dX1_copyFrom_84 ?_
  refine q_iconst (v := 0) C dX1_copyFrom_87 (by decide) ?_
  refine q_bipush (v := 8) C dX1_copyFrom_88 (by decide) ?_
  refine q_copyV (n := 8) (dp := 0) (sp := 0) (f := (va_cpy (S 4) (S 42) 0 0 8)) C q_s4 q_s42  rfl rfl rfl mlX1_57 w_copyN w_copyS w_copyI (by omega) (by omega) (by decide) (by decide) (by decide) (Nat.le_of_ble_eq_true rfl) dX1_copyFrom_90 rfl ?_
  refine q_aload_n C dX1_copyFrom_93 rfl rfl ?_
  refine q_getR C flX1_25 q_s1 rfl dX1_copyFrom_94 ?_
  refine q_iconst (v := 0) C dX1_copyFrom_97 (by decide) ?_
  refine q_aload_n C dX1_copyFrom_98 rfl rfl ?_
  refine q_getR C flX1_25 q_s39 rfl dX1_copyFrom_99 ?_
  refine q_iconst (v := 0) C dX1_copyFrom_102 (by decide) ?_
  refine q_bipush (v := 48) C dX1_copyFrom_103 (by decide) ?_
  refine q_copyV (n := 48) (dp := 0) (sp := 0) (f := (va_cpy (S 5) (S 43) 0 0 48)) C q_s5 q_s43  rfl rfl rfl mlX1_57 w_copyN w_copyS w_copyI (by omega) (by omega) (by decide) (by decide) (by decide) (Nat.le_of_ble_eq_true rfl) dX1_copyFrom_105 rfl ?_
  refine q_aload_n C dX1_copyFrom_108 rfl rfl ?_
  refine q_getR C flX1_28 q_s1 rfl dX1_copyFrom_109 ?_
  refine q_iconst (v := 0) C dX1_copyFrom_112 (by decide) ?_
  refine q_aload_n C dX1_copyFrom_113 rfl rfl ?_
  refine q_getR C flX1_28 q_s39 rfl dX1_copyFrom_114 ?_
  refine q_iconst (v := 0) C dX1_copyFrom_117 (by decide) ?_
  refine q_bipush (v := 48) C dX1_copyFrom_118 (by decide) ?_
  refine q_copyV (n := 48) (dp := 0) (sp := 0) (f := (va_cpy (S 6) (S 44) 0 0 48)) C q_s6 q_s44  rfl rfl rfl mlX1_57 w_copyN w_copyS w_copyI (by omega) (by omega) (by decide) (by decide) (by decide) (Nat.le_of_ble_eq_true rfl) dX1_copyFrom_120 rfl ?_
  refine q_aload_n C dX1_copyFrom_123 rfl rfl ?_
  refine q_getR C flX1_31 q_s1 rfl dX1_copyFrom_124 ?_
  refine q_iconst (v := 0) C dX1_copyFrom_127 (by decide) ?_
  refine q_aload_n C dX1_copyFrom_128 rfl rfl ?_
  refine q_getR C flX1_31 q_s39 rfl dX1_copyFrom_129 ?_
  refine q_iconst (v := 0) C dX1_copyFrom_132 (by decide) ?_
  refine q_bipush (v := 6) C dX1_copyFrom_133 (by decide) ?_
  refine q_copyV (n := 6) (dp := 0) (sp := 0) (f := (va_cpy (S 7) (S 45) 0 0 6)) C q_s7 q_s45  rfl rfl rfl mlX1_57 w_copyN w_copyS w_copyI (by omega) (by omega) (by decide) (by decide) (by decide) (Nat.le_of_ble_eq_true rfl) dX1_copyFrom_135 rfl ?_
  refine q_aload_n C dX1_copyFrom_138 rfl rfl ?_
  refine q_getR C flX1_34 q_s1 rfl dX1_copyFrom_139 ?_
  refine q_iconst (v := 0) C dX1_copyFrom_142 (by decide) ?_
  refine q_aload_n C dX1_copyFrom_143 rfl rfl ?_
  refine q_getR C flX1_34 q_s39 rfl dX1_copyFrom_144 ?_
  refine q_iconst (v := 0) C dX1_copyFrom_147 (by decide) ?_
  refine q_bipush (v := 6) C dX1_copyFrom_148 (by decide) ?_
  refine q_copyV (n := 6) (dp := 0) (sp := 0) (f := (va_cpy (S 8) (S 46) 0 0 6)) C q_s8 q_s46  rfl rfl rfl mlX1_57 w_copyN w_copyS w_copyI (by omega) (by omega) (by decide) (by decide) (by decide) (Nat.le_of_ble_eq_true rfl) dX1_copyFrom_150 rfl ?_
  refine q_iconst (v := 0) C dX1_copyFrom_153 (by decide) ?_
  refine q_istore_n (lv' := [(2, .int 0), (0, .ref 39), (1, .ref 1)]) C dX1_copyFrom_154 rfl (by decide) rfl ?_
  have loop_155 : ∀ (n_155 i_155 : Nat), i_155 + n_155 = 6 → q_V l K 155 [(0, .ref 39), (1, .ref 1), (2, .int (nI i_155))] [] (q_u (q_u (q_u (q_u (q_u (q_u (q_u (q_u (q_p (q_p (q_p (q_p (q_p (q_p S 39 0 (S 1 0)) 39 1 (S 1 1)) 39 2 (S 1 2)) 39 3 (S 1 3)) 39 4 (S 1 4)) 39 5 (S 1 5)) 40 (va_cpy (S 2) (S 40) 0 0 8)) 41 (va_cpy (S 3) (S 41) 0 0 8)) 42 (va_cpy (S 4) (S 42) 0 0 8)) 43 (va_cpy (S 5) (S 43) 0 0 48)) 44 (va_cpy (S 6) (S 44) 0 0 48)) 45 (va_cpy (S 7) (S 45) 0 0 6)) 46 (va_cpy (S 8) (S 46) 0 0 6)) 47 (va_cpy (S 9) (S 47) 0 0 i_155)) := by
    intro n_155
    induction n_155 with
    | zero =>
      intro i_155 hi_155
      have e_155 : i_155 = 6 := by omega
      refine q_iload_n C dX1_copyFrom_155 rfl rfl ?_
      refine q_bipush (v := 6) C dX1_copyFrom_156 (by decide) ?_
      refine q_icmp_geN (a := i_155) (b := 6) (tgt := 179) C dX1_copyFrom_158 (by decide) rfl rfl (by omega) (by omega) (fun c_158 => ?_) (fun c_158 => absurd c_158 (by omega))
      exact hret _ _ _ dX1_copyFrom_179 (by rw [e_155]; exact q_cp_eq S 39 1)
    | succ n_155 ih_155 =>
      intro i_155 hi_155
      refine q_iload_n C dX1_copyFrom_155 rfl rfl ?_
      refine q_bipush (v := 6) C dX1_copyFrom_156 (by decide) ?_
      refine q_icmp_geN (a := i_155) (b := 6) (tgt := 179) C dX1_copyFrom_158 (by decide) rfl rfl (by omega) (by omega) (fun c_158 => absurd c_158 (by omega)) (fun c_158 => ?_)
      refine q_aload_n C dX1_copyFrom_161 rfl rfl ?_
      refine q_getR C flX1_37 q_s39 rfl dX1_copyFrom_162 ?_
      refine q_iload_n C dX1_copyFrom_165 rfl rfl ?_
      refine q_aload_n C dX1_copyFrom_166 rfl rfl ?_
      refine q_getR C flX1_37 q_s1 rfl dX1_copyFrom_167 ?_
      refine q_iload_n C dX1_copyFrom_170 rfl rfl ?_
      refine q_zaldN (i := i_155) (x := S 9 i_155) C rfl q_s9 (by omega) (by decide) dX1_copyFrom_171 rfl ?_
      refine q_zastV (i := i_155) (v := S 9 i_155) C rfl q_s47 (by omega) (by decide) dX1_copyFrom_172 (q_nar_b (hz.2 _ (by omega))) ?_
      refine q_iinc (v := nI (i_155 + 1)) (lv' := [(2, .int (nI (i_155 + 1))), (0, .ref 39), (1, .ref 1)]) C dX1_copyFrom_173 rfl (nI_add _ _) (by decide) rfl ?_
      refine q_goto (tgt := 155) C dX1_copyFrom_176 (by decide) ?_
      exact q_V_to (ih_155 (i_155 + 1) (by omega)) ⟨rfl, rfl, rfl, trivial⟩ (q_u_s _ _ _ _ _)
  exact q_V_to (loop_155 (6 - 0) 0 (by omega)) ⟨rfl, rfl, rfl, trivial⟩ (q_u_0 _ _ _)
theorem c_X1_copy_48_1 (l : Launch) (S : q_St) (hz : q_bool S 1) : q_Fv l yX1_copyFrom kX1_copyFrom 1 [.ref 48, .ref 1] S (q_cp S 48 1) := by
  refine q_Fv_of (maxL := 3) rfl (by decide +kernel) (fun ad => Nat.le_of_ble_eq_true rfl) ?_
  intro K C hret
  have C : q_Cx K cX1_copyFrom RX1 1 3 := C
  show q_V l K 0 [(0, .ref 48), (1, .ref 1)] [] S
  refine q_aload_n C dX1_copyFrom_0 rfl rfl ?_
  refine q_aload_n C dX1_copyFrom_1 rfl rfl ?_
  refine q_getI (x := S 1 0) C flX1_41 q_s1 rfl dX1_copyFrom_2 rfl ?_
  refine q_put (ty9 := .int) C flX1_41 q_s48 rfl (fun _ _ _ h => by cases h; exact ⟨rfl, by decide +kernel⟩) rfl rfl dX1_copyFrom_5 ?_
  refine q_aload_n C dX1_copyFrom_8 rfl rfl ?_
  refine q_aload_n C dX1_copyFrom_9 rfl rfl ?_
  refine q_getI (x := S 1 1) C flX1_45 q_s1 rfl dX1_copyFrom_10 rfl ?_
  refine q_put (ty9 := .int) C flX1_45 q_s48 rfl (fun _ _ _ h => by cases h; exact ⟨rfl, by decide +kernel⟩) rfl rfl dX1_copyFrom_13 ?_
  refine q_aload_n C dX1_copyFrom_16 rfl rfl ?_
  refine q_aload_n C dX1_copyFrom_17 rfl rfl ?_
  refine q_getI (x := S 1 2) C flX1_48 q_s1 rfl dX1_copyFrom_18 rfl ?_
  refine q_put (ty9 := .int) C flX1_48 q_s48 rfl (fun _ _ _ h => by cases h; exact ⟨rfl, by decide +kernel⟩) rfl rfl dX1_copyFrom_21 ?_
  refine q_aload_n C dX1_copyFrom_24 rfl rfl ?_
  refine q_aload_n C dX1_copyFrom_25 rfl rfl ?_
  refine q_getI (x := S 1 3) C flX1_51 q_s1 rfl dX1_copyFrom_26 rfl ?_
  refine q_put (ty9 := .int) C flX1_51 q_s48 rfl (fun _ _ _ h => by cases h; exact ⟨rfl, by decide +kernel⟩) rfl rfl dX1_copyFrom_29 ?_
  refine q_aload_n C dX1_copyFrom_32 rfl rfl ?_
  refine q_aload_n C dX1_copyFrom_33 rfl rfl ?_
  refine q_getI (x := S 1 4) C flX1_54 q_s1 rfl dX1_copyFrom_34 rfl ?_
  refine q_put (ty9 := .int) C flX1_54 q_s48 rfl (fun _ _ _ h => by cases h; exact ⟨rfl, by decide +kernel⟩) rfl rfl dX1_copyFrom_37 ?_
  refine q_aload_n C dX1_copyFrom_40 rfl rfl ?_
  refine q_aload_n C dX1_copyFrom_41 rfl rfl ?_
  refine q_getI (x := S 1 5) C flX1_9 q_s1 rfl dX1_copyFrom_42 rfl ?_
  refine q_put (ty9 := .boolean) C flX1_9 q_s48 rfl (fun _ _ _ h => by cases h; exact ⟨rfl, by decide +kernel⟩) (q_narrow_b hz.1) (q_fits_b hz.1) dX1_copyFrom_45 ?_
  refine q_aload_n C dX1_copyFrom_48 rfl rfl ?_
  refine q_getR C flX1_15 q_s1 rfl dX1_copyFrom_49 ?_
  refine q_iconst (v := 0) C dX1_copyFrom_52 (by decide) ?_
  refine q_aload_n C dX1_copyFrom_53 rfl rfl ?_
  refine q_getR C flX1_15 q_s48 rfl dX1_copyFrom_54 ?_
  refine q_iconst (v := 0) C dX1_copyFrom_57 (by decide) ?_
  refine q_bipush (v := 8) C dX1_copyFrom_58 (by decide) ?_
  refine q_copyV (n := 8) (dp := 0) (sp := 0) (f := (va_cpy (S 2) (S 49) 0 0 8)) C q_s2 q_s49  rfl rfl rfl mlX1_57 w_copyN w_copyS w_copyI (by omega) (by omega) (by decide) (by decide) (by decide) (Nat.le_of_ble_eq_true rfl) dX1_copyFrom_60 rfl ?_
  refine q_aload_n C dX1_copyFrom_63 rfl rfl ?_
  refine q_getR C flX1_19 q_s1 rfl dX1_copyFrom_64 ?_
  refine q_iconst (v := 0) C dX1_copyFrom_67 (by decide) ?_
  refine q_aload_n C dX1_copyFrom_68 rfl rfl ?_
  refine q_getR C flX1_19 q_s48 rfl dX1_copyFrom_69 ?_
  refine q_iconst (v := 0) C dX1_copyFrom_72 (by decide) ?_
  refine q_bipush (v := 8) C dX1_copyFrom_73 (by decide) ?_
  refine q_copyV (n := 8) (dp := 0) (sp := 0) (f := (va_cpy (S 3) (S 50) 0 0 8)) C q_s3 q_s50  rfl rfl rfl mlX1_57 w_copyN w_copyS w_copyI (by omega) (by omega) (by decide) (by decide) (by decide) (Nat.le_of_ble_eq_true rfl) dX1_copyFrom_75 rfl ?_
  refine q_aload_n C dX1_copyFrom_78 rfl rfl ?_
  refine q_getR C flX1_22 q_s1 rfl dX1_copyFrom_79 ?_
  refine q_iconst (v := 0) C dX1_copyFrom_82 (by decide) ?_
  refine q_aload_n C dX1_copyFrom_83 rfl rfl ?_
  refine q_getR C flX1_22 q_s48 rfl dX1_copyFrom_84 ?_
  refine q_iconst (v := 0) C dX1_copyFrom_87 (by decide) ?_
  refine q_bipush (v := 8) C dX1_copyFrom_88 (by decide) ?_
  refine q_copyV (n := 8) (dp := 0) (sp := 0) (f := (va_cpy (S 4) (S 51) 0 0 8)) C q_s4 q_s51  rfl rfl rfl mlX1_57 w_copyN w_copyS w_copyI (by omega) (by omega) (by decide) (by decide) (by decide) (Nat.le_of_ble_eq_true rfl) dX1_copyFrom_90 rfl ?_
  refine q_aload_n C dX1_copyFrom_93 rfl rfl ?_
  refine q_getR C flX1_25 q_s1 rfl dX1_copyFrom_94 ?_
  refine q_iconst (v := 0) C dX1_copyFrom_97 (by decide) ?_
  refine q_aload_n C dX1_copyFrom_98 rfl rfl ?_
  refine q_getR C flX1_25 q_s48 rfl dX1_copyFrom_99 ?_
  refine q_iconst (v := 0) C dX1_copyFrom_102 (by decide) ?_
  refine q_bipush (v := 48) C dX1_copyFrom_103 (by decide) ?_
  refine q_copyV (n := 48) (dp := 0) (sp := 0) (f := (va_cpy (S 5) (S 52) 0 0 48)) C q_s5 q_s52  rfl rfl rfl mlX1_57 w_copyN w_copyS w_copyI (by omega) (by omega) (by decide) (by decide) (by decide) (Nat.le_of_ble_eq_true rfl) dX1_copyFrom_105 rfl ?_
  refine q_aload_n C dX1_copyFrom_108 rfl rfl ?_
  refine q_getR C flX1_28 q_s1 rfl dX1_copyFrom_109 ?_
  refine q_iconst (v := 0) C dX1_copyFrom_112 (by decide) ?_
  refine q_aload_n C dX1_copyFrom_113 rfl rfl ?_
  refine q_getR C flX1_28 q_s48 rfl dX1_copyFrom_114 ?_
  refine q_iconst (v := 0) C dX1_copyFrom_117 (by decide) ?_
  refine q_bipush (v := 48) C dX1_copyFrom_118 (by decide) ?_
  refine q_copyV (n := 48) (dp := 0) (sp := 0) (f := (va_cpy (S 6) (S 53) 0 0 48)) C q_s6 q_s53  rfl rfl rfl mlX1_57 w_copyN w_copyS w_copyI (by omega) (by omega) (by decide) (by decide) (by decide) (Nat.le_of_ble_eq_true rfl) dX1_copyFrom_120 rfl ?_
  refine q_aload_n C dX1_copyFrom_123 rfl rfl ?_
  refine q_getR C flX1_31 q_s1 rfl dX1_copyFrom_124 ?_
  refine q_iconst (v := 0) C dX1_copyFrom_127 (by decide) ?_
  refine q_aload_n C dX1_copyFrom_128 rfl rfl ?_
  refine q_getR C flX1_31 q_s48 rfl dX1_copyFrom_129 ?_
  refine q_iconst (v := 0) C dX1_copyFrom_132 (by decide) ?_
  refine q_bipush (v := 6) C dX1_copyFrom_133 (by decide) ?_
  refine q_copyV (n := 6) (dp := 0) (sp := 0) (f := (va_cpy (S 7) (S 54) 0 0 6)) C q_s7 q_s54  rfl rfl rfl mlX1_57 w_copyN w_copyS w_copyI (by omega) (by omega) (by decide) (by decide) (by decide) (Nat.le_of_ble_eq_true rfl) dX1_copyFrom_135 rfl ?_
  refine q_aload_n C dX1_copyFrom_138 rfl rfl ?_
  refine q_getR C flX1_34 q_s1 rfl dX1_copyFrom_139 ?_
  refine q_iconst (v := 0) C dX1_copyFrom_142 (by decide) ?_
  refine q_aload_n C dX1_copyFrom_143 rfl rfl ?_
  refine q_getR C flX1_34 q_s48 rfl dX1_copyFrom_144 ?_
  refine q_iconst (v := 0) C dX1_copyFrom_147 (by decide) ?_
  refine q_bipush (v := 6) C dX1_copyFrom_148 (by decide) ?_
  refine q_copyV (n := 6) (dp := 0) (sp := 0) (f := (va_cpy (S 8) (S 55) 0 0 6)) C q_s8 q_s55  rfl rfl rfl mlX1_57 w_copyN w_copyS w_copyI (by omega) (by omega) (by decide) (by decide) (by decide) (Nat.le_of_ble_eq_true rfl) dX1_copyFrom_150 rfl ?_
  refine q_iconst (v := 0) C dX1_copyFrom_153 (by decide) ?_
  refine q_istore_n (lv' := [(2, .int 0), (0, .ref 48), (1, .ref 1)]) C dX1_copyFrom_154 rfl (by decide) rfl ?_
  have loop_155 : ∀ (n_155 i_155 : Nat), i_155 + n_155 = 6 → q_V l K 155 [(0, .ref 48), (1, .ref 1), (2, .int (nI i_155))] [] (q_u (q_u (q_u (q_u (q_u (q_u (q_u (q_u (q_p (q_p (q_p (q_p (q_p (q_p S 48 0 (S 1 0)) 48 1 (S 1 1)) 48 2 (S 1 2)) 48 3 (S 1 3)) 48 4 (S 1 4)) 48 5 (S 1 5)) 49 (va_cpy (S 2) (S 49) 0 0 8)) 50 (va_cpy (S 3) (S 50) 0 0 8)) 51 (va_cpy (S 4) (S 51) 0 0 8)) 52 (va_cpy (S 5) (S 52) 0 0 48)) 53 (va_cpy (S 6) (S 53) 0 0 48)) 54 (va_cpy (S 7) (S 54) 0 0 6)) 55 (va_cpy (S 8) (S 55) 0 0 6)) 56 (va_cpy (S 9) (S 56) 0 0 i_155)) := by
    intro n_155
    induction n_155 with
    | zero =>
      intro i_155 hi_155
      have e_155 : i_155 = 6 := by omega
      refine q_iload_n C dX1_copyFrom_155 rfl rfl ?_
      refine q_bipush (v := 6) C dX1_copyFrom_156 (by decide) ?_
      refine q_icmp_geN (a := i_155) (b := 6) (tgt := 179) C dX1_copyFrom_158 (by decide) rfl rfl (by omega) (by omega) (fun c_158 => ?_) (fun c_158 => absurd c_158 (by omega))
      exact hret _ _ _ dX1_copyFrom_179 (by rw [e_155]; exact q_cp_eq S 48 1)
    | succ n_155 ih_155 =>
      intro i_155 hi_155
      refine q_iload_n C dX1_copyFrom_155 rfl rfl ?_
      refine q_bipush (v := 6) C dX1_copyFrom_156 (by decide) ?_
      refine q_icmp_geN (a := i_155) (b := 6) (tgt := 179) C dX1_copyFrom_158 (by decide) rfl rfl (by omega) (by omega) (fun c_158 => absurd c_158 (by omega)) (fun c_158 => ?_)
      refine q_aload_n C dX1_copyFrom_161 rfl rfl ?_
      refine q_getR C flX1_37 q_s48 rfl dX1_copyFrom_162 ?_
      refine q_iload_n C dX1_copyFrom_165 rfl rfl ?_
      refine q_aload_n C dX1_copyFrom_166 rfl rfl ?_
      refine q_getR C flX1_37 q_s1 rfl dX1_copyFrom_167 ?_
      refine q_iload_n C dX1_copyFrom_170 rfl rfl ?_
      refine q_zaldN (i := i_155) (x := S 9 i_155) C rfl q_s9 (by omega) (by decide) dX1_copyFrom_171 rfl ?_
      refine q_zastV (i := i_155) (v := S 9 i_155) C rfl q_s56 (by omega) (by decide) dX1_copyFrom_172 (q_nar_b (hz.2 _ (by omega))) ?_
      refine q_iinc (v := nI (i_155 + 1)) (lv' := [(2, .int (nI (i_155 + 1))), (0, .ref 48), (1, .ref 1)]) C dX1_copyFrom_173 rfl (nI_add _ _) (by decide) rfl ?_
      refine q_goto (tgt := 155) C dX1_copyFrom_176 (by decide) ?_
      exact q_V_to (ih_155 (i_155 + 1) (by omega)) ⟨rfl, rfl, rfl, trivial⟩ (q_u_s _ _ _ _ _)
  exact q_V_to (loop_155 (6 - 0) 0 (by omega)) ⟨rfl, rfl, rfl, trivial⟩ (q_u_0 _ _ _)
theorem c_X1_copy_57_1 (l : Launch) (S : q_St) (hz : q_bool S 1) : q_Fv l yX1_copyFrom kX1_copyFrom 1 [.ref 57, .ref 1] S (q_cp S 57 1) := by
  refine q_Fv_of (maxL := 3) rfl (by decide +kernel) (fun ad => Nat.le_of_ble_eq_true rfl) ?_
  intro K C hret
  have C : q_Cx K cX1_copyFrom RX1 1 3 := C
  show q_V l K 0 [(0, .ref 57), (1, .ref 1)] [] S
  refine q_aload_n C dX1_copyFrom_0 rfl rfl ?_
  refine q_aload_n C dX1_copyFrom_1 rfl rfl ?_
  refine q_getI (x := S 1 0) C flX1_41 q_s1 rfl dX1_copyFrom_2 rfl ?_
  refine q_put (ty9 := .int) C flX1_41 q_s57 rfl (fun _ _ _ h => by cases h; exact ⟨rfl, by decide +kernel⟩) rfl rfl dX1_copyFrom_5 ?_
  refine q_aload_n C dX1_copyFrom_8 rfl rfl ?_
  refine q_aload_n C dX1_copyFrom_9 rfl rfl ?_
  refine q_getI (x := S 1 1) C flX1_45 q_s1 rfl dX1_copyFrom_10 rfl ?_
  refine q_put (ty9 := .int) C flX1_45 q_s57 rfl (fun _ _ _ h => by cases h; exact ⟨rfl, by decide +kernel⟩) rfl rfl dX1_copyFrom_13 ?_
  refine q_aload_n C dX1_copyFrom_16 rfl rfl ?_
  refine q_aload_n C dX1_copyFrom_17 rfl rfl ?_
  refine q_getI (x := S 1 2) C flX1_48 q_s1 rfl dX1_copyFrom_18 rfl ?_
  refine q_put (ty9 := .int) C flX1_48 q_s57 rfl (fun _ _ _ h => by cases h; exact ⟨rfl, by decide +kernel⟩) rfl rfl dX1_copyFrom_21 ?_
  refine q_aload_n C dX1_copyFrom_24 rfl rfl ?_
  refine q_aload_n C dX1_copyFrom_25 rfl rfl ?_
  refine q_getI (x := S 1 3) C flX1_51 q_s1 rfl dX1_copyFrom_26 rfl ?_
  refine q_put (ty9 := .int) C flX1_51 q_s57 rfl (fun _ _ _ h => by cases h; exact ⟨rfl, by decide +kernel⟩) rfl rfl dX1_copyFrom_29 ?_
  refine q_aload_n C dX1_copyFrom_32 rfl rfl ?_
  refine q_aload_n C dX1_copyFrom_33 rfl rfl ?_
  refine q_getI (x := S 1 4) C flX1_54 q_s1 rfl dX1_copyFrom_34 rfl ?_
  refine q_put (ty9 := .int) C flX1_54 q_s57 rfl (fun _ _ _ h => by cases h; exact ⟨rfl, by decide +kernel⟩) rfl rfl dX1_copyFrom_37 ?_
  refine q_aload_n C dX1_copyFrom_40 rfl rfl ?_
  refine q_aload_n C dX1_copyFrom_41 rfl rfl ?_
  refine q_getI (x := S 1 5) C flX1_9 q_s1 rfl dX1_copyFrom_42 rfl ?_
  refine q_put (ty9 := .boolean) C flX1_9 q_s57 rfl (fun _ _ _ h => by cases h; exact ⟨rfl, by decide +kernel⟩) (q_narrow_b hz.1) (q_fits_b hz.1) dX1_copyFrom_45 ?_
  refine q_aload_n C dX1_copyFrom_48 rfl rfl ?_
  refine q_getR C flX1_15 q_s1 rfl dX1_copyFrom_49 ?_
  refine q_iconst (v := 0) C dX1_copyFrom_52 (by decide) ?_
  refine q_aload_n C dX1_copyFrom_53 rfl rfl ?_
  refine q_getR C flX1_15 q_s57 rfl dX1_copyFrom_54 ?_
  refine q_iconst (v := 0) C dX1_copyFrom_57 (by decide) ?_
  refine q_bipush (v := 8) C dX1_copyFrom_58 (by decide) ?_
  refine q_copyV (n := 8) (dp := 0) (sp := 0) (f := (va_cpy (S 2) (S 58) 0 0 8)) C q_s2 q_s58  rfl rfl rfl mlX1_57 w_copyN w_copyS w_copyI (by omega) (by omega) (by decide) (by decide) (by decide) (Nat.le_of_ble_eq_true rfl) dX1_copyFrom_60 rfl ?_
  refine q_aload_n C dX1_copyFrom_63 rfl rfl ?_
  refine q_getR C flX1_19 q_s1 rfl dX1_copyFrom_64 ?_
  refine q_iconst (v := 0) C dX1_copyFrom_67 (by decide) ?_
  refine q_aload_n C dX1_copyFrom_68 rfl rfl ?_
  refine q_getR C flX1_19 q_s57 rfl dX1_copyFrom_69 ?_
  refine q_iconst (v := 0) C dX1_copyFrom_72 (by decide) ?_
  refine q_bipush (v := 8) C dX1_copyFrom_73 (by decide) ?_
  refine q_copyV (n := 8) (dp := 0) (sp := 0) (f := (va_cpy (S 3) (S 59) 0 0 8)) C q_s3 q_s59  rfl rfl rfl mlX1_57 w_copyN w_copyS w_copyI (by omega) (by omega) (by decide) (by decide) (by decide) (Nat.le_of_ble_eq_true rfl) dX1_copyFrom_75 rfl ?_
  refine q_aload_n C dX1_copyFrom_78 rfl rfl ?_
  refine q_getR C flX1_22 q_s1 rfl dX1_copyFrom_79 ?_
  refine q_iconst (v := 0) C dX1_copyFrom_82 (by decide) ?_
  refine q_aload_n C dX1_copyFrom_83 rfl rfl ?_
  refine q_getR C flX1_22 q_s57 rfl dX1_copyFrom_84 ?_
  refine q_iconst (v := 0) C dX1_copyFrom_87 (by decide) ?_
  refine q_bipush (v := 8) C dX1_copyFrom_88 (by decide) ?_
  refine q_copyV (n := 8) (dp := 0) (sp := 0) (f := (va_cpy (S 4) (S 60) 0 0 8)) C q_s4 q_s60  rfl rfl rfl mlX1_57 w_copyN w_copyS w_copyI (by omega) (by omega) (by decide) (by decide) (by decide) (Nat.le_of_ble_eq_true rfl) dX1_copyFrom_90 rfl ?_
  refine q_aload_n C dX1_copyFrom_93 rfl rfl ?_
  refine q_getR C flX1_25 q_s1 rfl dX1_copyFrom_94 ?_
  refine q_iconst (v := 0) C dX1_copyFrom_97 (by decide) ?_
  refine q_aload_n C dX1_copyFrom_98 rfl rfl ?_
  refine q_getR C flX1_25 q_s57 rfl dX1_copyFrom_99 ?_
  refine q_iconst (v := 0) C dX1_copyFrom_102 (by decide) ?_
  refine q_bipush (v := 48) C dX1_copyFrom_103 (by decide) ?_
  refine q_copyV (n := 48) (dp := 0) (sp := 0) (f := (va_cpy (S 5) (S 61) 0 0 48)) C q_s5 q_s61  rfl rfl rfl mlX1_57 w_copyN w_copyS w_copyI (by omega) (by omega) (by decide) (by decide) (by decide) (Nat.le_of_ble_eq_true rfl) dX1_copyFrom_105 rfl ?_
  refine q_aload_n C dX1_copyFrom_108 rfl rfl ?_
  refine q_getR C flX1_28 q_s1 rfl dX1_copyFrom_109 ?_
  refine q_iconst (v := 0) C dX1_copyFrom_112 (by decide) ?_
  refine q_aload_n C dX1_copyFrom_113 rfl rfl ?_
  refine q_getR C flX1_28 q_s57 rfl dX1_copyFrom_114 ?_
  refine q_iconst (v := 0) C dX1_copyFrom_117 (by decide) ?_
  refine q_bipush (v := 48) C dX1_copyFrom_118 (by decide) ?_
  refine q_copyV (n := 48) (dp := 0) (sp := 0) (f := (va_cpy (S 6) (S 62) 0 0 48)) C q_s6 q_s62  rfl rfl rfl mlX1_57 w_copyN w_copyS w_copyI (by omega) (by omega) (by decide) (by decide) (by decide) (Nat.le_of_ble_eq_true rfl) dX1_copyFrom_120 rfl ?_
  refine q_aload_n C dX1_copyFrom_123 rfl rfl ?_
  refine q_getR C flX1_31 q_s1 rfl dX1_copyFrom_124 ?_
  refine q_iconst (v := 0) C dX1_copyFrom_127 (by decide) ?_
  refine q_aload_n C dX1_copyFrom_128 rfl rfl ?_
  refine q_getR C flX1_31 q_s57 rfl dX1_copyFrom_129 ?_
  refine q_iconst (v := 0) C dX1_copyFrom_132 (by decide) ?_
  refine q_bipush (v := 6) C dX1_copyFrom_133 (by decide) ?_
  refine q_copyV (n := 6) (dp := 0) (sp := 0) (f := (va_cpy (S 7) (S 63) 0 0 6)) C q_s7 q_s63  rfl rfl rfl mlX1_57 w_copyN w_copyS w_copyI (by omega) (by omega) (by decide) (by decide) (by decide) (Nat.le_of_ble_eq_true rfl) dX1_copyFrom_135 rfl ?_
  refine q_aload_n C dX1_copyFrom_138 rfl rfl ?_
  refine q_getR C flX1_34 q_s1 rfl dX1_copyFrom_139 ?_
  refine q_iconst (v := 0) C dX1_copyFrom_142 (by decide) ?_
  refine q_aload_n C dX1_copyFrom_143 rfl rfl ?_
  refine q_getR C flX1_34 q_s57 rfl dX1_copyFrom_144 ?_
  refine q_iconst (v := 0) C dX1_copyFrom_147 (by decide) ?_
  refine q_bipush (v := 6) C dX1_copyFrom_148 (by decide) ?_
  refine q_copyV (n := 6) (dp := 0) (sp := 0) (f := (va_cpy (S 8) (S 64) 0 0 6)) C q_s8 q_s64  rfl rfl rfl mlX1_57 w_copyN w_copyS w_copyI (by omega) (by omega) (by decide) (by decide) (by decide) (Nat.le_of_ble_eq_true rfl) dX1_copyFrom_150 rfl ?_
  refine q_iconst (v := 0) C dX1_copyFrom_153 (by decide) ?_
  refine q_istore_n (lv' := [(2, .int 0), (0, .ref 57), (1, .ref 1)]) C dX1_copyFrom_154 rfl (by decide) rfl ?_
  have loop_155 : ∀ (n_155 i_155 : Nat), i_155 + n_155 = 6 → q_V l K 155 [(0, .ref 57), (1, .ref 1), (2, .int (nI i_155))] [] (q_u (q_u (q_u (q_u (q_u (q_u (q_u (q_u (q_p (q_p (q_p (q_p (q_p (q_p S 57 0 (S 1 0)) 57 1 (S 1 1)) 57 2 (S 1 2)) 57 3 (S 1 3)) 57 4 (S 1 4)) 57 5 (S 1 5)) 58 (va_cpy (S 2) (S 58) 0 0 8)) 59 (va_cpy (S 3) (S 59) 0 0 8)) 60 (va_cpy (S 4) (S 60) 0 0 8)) 61 (va_cpy (S 5) (S 61) 0 0 48)) 62 (va_cpy (S 6) (S 62) 0 0 48)) 63 (va_cpy (S 7) (S 63) 0 0 6)) 64 (va_cpy (S 8) (S 64) 0 0 6)) 65 (va_cpy (S 9) (S 65) 0 0 i_155)) := by
    intro n_155
    induction n_155 with
    | zero =>
      intro i_155 hi_155
      have e_155 : i_155 = 6 := by omega
      refine q_iload_n C dX1_copyFrom_155 rfl rfl ?_
      refine q_bipush (v := 6) C dX1_copyFrom_156 (by decide) ?_
      refine q_icmp_geN (a := i_155) (b := 6) (tgt := 179) C dX1_copyFrom_158 (by decide) rfl rfl (by omega) (by omega) (fun c_158 => ?_) (fun c_158 => absurd c_158 (by omega))
      exact hret _ _ _ dX1_copyFrom_179 (by rw [e_155]; exact q_cp_eq S 57 1)
    | succ n_155 ih_155 =>
      intro i_155 hi_155
      refine q_iload_n C dX1_copyFrom_155 rfl rfl ?_
      refine q_bipush (v := 6) C dX1_copyFrom_156 (by decide) ?_
      refine q_icmp_geN (a := i_155) (b := 6) (tgt := 179) C dX1_copyFrom_158 (by decide) rfl rfl (by omega) (by omega) (fun c_158 => absurd c_158 (by omega)) (fun c_158 => ?_)
      refine q_aload_n C dX1_copyFrom_161 rfl rfl ?_
      refine q_getR C flX1_37 q_s57 rfl dX1_copyFrom_162 ?_
      refine q_iload_n C dX1_copyFrom_165 rfl rfl ?_
      refine q_aload_n C dX1_copyFrom_166 rfl rfl ?_
      refine q_getR C flX1_37 q_s1 rfl dX1_copyFrom_167 ?_
      refine q_iload_n C dX1_copyFrom_170 rfl rfl ?_
      refine q_zaldN (i := i_155) (x := S 9 i_155) C rfl q_s9 (by omega) (by decide) dX1_copyFrom_171 rfl ?_
      refine q_zastV (i := i_155) (v := S 9 i_155) C rfl q_s65 (by omega) (by decide) dX1_copyFrom_172 (q_nar_b (hz.2 _ (by omega))) ?_
      refine q_iinc (v := nI (i_155 + 1)) (lv' := [(2, .int (nI (i_155 + 1))), (0, .ref 57), (1, .ref 1)]) C dX1_copyFrom_173 rfl (nI_add _ _) (by decide) rfl ?_
      refine q_goto (tgt := 155) C dX1_copyFrom_176 (by decide) ?_
      exact q_V_to (ih_155 (i_155 + 1) (by omega)) ⟨rfl, rfl, rfl, trivial⟩ (q_u_s _ _ _ _ _)
  exact q_V_to (loop_155 (6 - 0) 0 (by omega)) ⟨rfl, rfl, rfl, trivial⟩ (q_u_0 _ _ _)
theorem c_X1_copy_66_1 (l : Launch) (S : q_St) (hz : q_bool S 1) : q_Fv l yX1_copyFrom kX1_copyFrom 1 [.ref 66, .ref 1] S (q_cp S 66 1) := by
  refine q_Fv_of (maxL := 3) rfl (by decide +kernel) (fun ad => Nat.le_of_ble_eq_true rfl) ?_
  intro K C hret
  have C : q_Cx K cX1_copyFrom RX1 1 3 := C
  show q_V l K 0 [(0, .ref 66), (1, .ref 1)] [] S
  refine q_aload_n C dX1_copyFrom_0 rfl rfl ?_
  refine q_aload_n C dX1_copyFrom_1 rfl rfl ?_
  refine q_getI (x := S 1 0) C flX1_41 q_s1 rfl dX1_copyFrom_2 rfl ?_
  refine q_put (ty9 := .int) C flX1_41 q_s66 rfl (fun _ _ _ h => by cases h; exact ⟨rfl, by decide +kernel⟩) rfl rfl dX1_copyFrom_5 ?_
  refine q_aload_n C dX1_copyFrom_8 rfl rfl ?_
  refine q_aload_n C dX1_copyFrom_9 rfl rfl ?_
  refine q_getI (x := S 1 1) C flX1_45 q_s1 rfl dX1_copyFrom_10 rfl ?_
  refine q_put (ty9 := .int) C flX1_45 q_s66 rfl (fun _ _ _ h => by cases h; exact ⟨rfl, by decide +kernel⟩) rfl rfl dX1_copyFrom_13 ?_
  refine q_aload_n C dX1_copyFrom_16 rfl rfl ?_
  refine q_aload_n C dX1_copyFrom_17 rfl rfl ?_
  refine q_getI (x := S 1 2) C flX1_48 q_s1 rfl dX1_copyFrom_18 rfl ?_
  refine q_put (ty9 := .int) C flX1_48 q_s66 rfl (fun _ _ _ h => by cases h; exact ⟨rfl, by decide +kernel⟩) rfl rfl dX1_copyFrom_21 ?_
  refine q_aload_n C dX1_copyFrom_24 rfl rfl ?_
  refine q_aload_n C dX1_copyFrom_25 rfl rfl ?_
  refine q_getI (x := S 1 3) C flX1_51 q_s1 rfl dX1_copyFrom_26 rfl ?_
  refine q_put (ty9 := .int) C flX1_51 q_s66 rfl (fun _ _ _ h => by cases h; exact ⟨rfl, by decide +kernel⟩) rfl rfl dX1_copyFrom_29 ?_
  refine q_aload_n C dX1_copyFrom_32 rfl rfl ?_
  refine q_aload_n C dX1_copyFrom_33 rfl rfl ?_
  refine q_getI (x := S 1 4) C flX1_54 q_s1 rfl dX1_copyFrom_34 rfl ?_
  refine q_put (ty9 := .int) C flX1_54 q_s66 rfl (fun _ _ _ h => by cases h; exact ⟨rfl, by decide +kernel⟩) rfl rfl dX1_copyFrom_37 ?_
  refine q_aload_n C dX1_copyFrom_40 rfl rfl ?_
  refine q_aload_n C dX1_copyFrom_41 rfl rfl ?_
  refine q_getI (x := S 1 5) C flX1_9 q_s1 rfl dX1_copyFrom_42 rfl ?_
  refine q_put (ty9 := .boolean) C flX1_9 q_s66 rfl (fun _ _ _ h => by cases h; exact ⟨rfl, by decide +kernel⟩) (q_narrow_b hz.1) (q_fits_b hz.1) dX1_copyFrom_45 ?_
  refine q_aload_n C dX1_copyFrom_48 rfl rfl ?_
  refine q_getR C flX1_15 q_s1 rfl dX1_copyFrom_49 ?_
  refine q_iconst (v := 0) C dX1_copyFrom_52 (by decide) ?_
  refine q_aload_n C dX1_copyFrom_53 rfl rfl ?_
  refine q_getR C flX1_15 q_s66 rfl dX1_copyFrom_54 ?_
  refine q_iconst (v := 0) C dX1_copyFrom_57 (by decide) ?_
  refine q_bipush (v := 8) C dX1_copyFrom_58 (by decide) ?_
  refine q_copyV (n := 8) (dp := 0) (sp := 0) (f := (va_cpy (S 2) (S 67) 0 0 8)) C q_s2 q_s67  rfl rfl rfl mlX1_57 w_copyN w_copyS w_copyI (by omega) (by omega) (by decide) (by decide) (by decide) (Nat.le_of_ble_eq_true rfl) dX1_copyFrom_60 rfl ?_
  refine q_aload_n C dX1_copyFrom_63 rfl rfl ?_
  refine q_getR C flX1_19 q_s1 rfl dX1_copyFrom_64 ?_
  refine q_iconst (v := 0) C dX1_copyFrom_67 (by decide) ?_
  refine q_aload_n C dX1_copyFrom_68 rfl rfl ?_
  refine q_getR C flX1_19 q_s66 rfl dX1_copyFrom_69 ?_
  refine q_iconst (v := 0) C dX1_copyFrom_72 (by decide) ?_
  refine q_bipush (v := 8) C dX1_copyFrom_73 (by decide) ?_
  refine q_copyV (n := 8) (dp := 0) (sp := 0) (f := (va_cpy (S 3) (S 68) 0 0 8)) C q_s3 q_s68  rfl rfl rfl mlX1_57 w_copyN w_copyS w_copyI (by omega) (by omega) (by decide) (by decide) (by decide) (Nat.le_of_ble_eq_true rfl) dX1_copyFrom_75 rfl ?_
  refine q_aload_n C dX1_copyFrom_78 rfl rfl ?_
  refine q_getR C flX1_22 q_s1 rfl dX1_copyFrom_79 ?_
  refine q_iconst (v := 0) C dX1_copyFrom_82 (by decide) ?_
  refine q_aload_n C dX1_copyFrom_83 rfl rfl ?_
  refine q_getR C flX1_22 q_s66 rfl dX1_copyFrom_84 ?_
  refine q_iconst (v := 0) C dX1_copyFrom_87 (by decide) ?_
  refine q_bipush (v := 8) C dX1_copyFrom_88 (by decide) ?_
  refine q_copyV (n := 8) (dp := 0) (sp := 0) (f := (va_cpy (S 4) (S 69) 0 0 8)) C q_s4 q_s69  rfl rfl rfl mlX1_57 w_copyN w_copyS w_copyI (by omega) (by omega) (by decide) (by decide) (by decide) (Nat.le_of_ble_eq_true rfl) dX1_copyFrom_90 rfl ?_
  refine q_aload_n C dX1_copyFrom_93 rfl rfl ?_
  refine q_getR C flX1_25 q_s1 rfl dX1_copyFrom_94 ?_
  refine q_iconst (v := 0) C dX1_copyFrom_97 (by decide) ?_
  refine q_aload_n C dX1_copyFrom_98 rfl rfl ?_
  refine q_getR C flX1_25 q_s66 rfl dX1_copyFrom_99 ?_
  refine q_iconst (v := 0) C dX1_copyFrom_102 (by decide) ?_
  refine q_bipush (v := 48) C dX1_copyFrom_103 (by decide) ?_
  refine q_copyV (n := 48) (dp := 0) (sp := 0) (f := (va_cpy (S 5) (S 70) 0 0 48)) C q_s5 q_s70  rfl rfl rfl mlX1_57 w_copyN w_copyS w_copyI (by omega) (by omega) (by decide) (by decide) (by decide) (Nat.le_of_ble_eq_true rfl) dX1_copyFrom_105 rfl ?_
  refine q_aload_n C dX1_copyFrom_108 rfl rfl ?_
  refine q_getR C flX1_28 q_s1 rfl dX1_copyFrom_109 ?_
  refine q_iconst (v := 0) C dX1_copyFrom_112 (by decide) ?_
  refine q_aload_n C dX1_copyFrom_113 rfl rfl ?_
  refine q_getR C flX1_28 q_s66 rfl dX1_copyFrom_114 ?_
  refine q_iconst (v := 0) C dX1_copyFrom_117 (by decide) ?_
  refine q_bipush (v := 48) C dX1_copyFrom_118 (by decide) ?_
  refine q_copyV (n := 48) (dp := 0) (sp := 0) (f := (va_cpy (S 6) (S 71) 0 0 48)) C q_s6 q_s71  rfl rfl rfl mlX1_57 w_copyN w_copyS w_copyI (by omega) (by omega) (by decide) (by decide) (by decide) (Nat.le_of_ble_eq_true rfl) dX1_copyFrom_120 rfl ?_
  refine q_aload_n C dX1_copyFrom_123 rfl rfl ?_
  refine q_getR C flX1_31 q_s1 rfl dX1_copyFrom_124 ?_
  refine q_iconst (v := 0) C dX1_copyFrom_127 (by decide) ?_
  refine q_aload_n C dX1_copyFrom_128 rfl rfl ?_
  refine q_getR C flX1_31 q_s66 rfl dX1_copyFrom_129 ?_
  refine q_iconst (v := 0) C dX1_copyFrom_132 (by decide) ?_
  refine q_bipush (v := 6) C dX1_copyFrom_133 (by decide) ?_
  refine q_copyV (n := 6) (dp := 0) (sp := 0) (f := (va_cpy (S 7) (S 72) 0 0 6)) C q_s7 q_s72  rfl rfl rfl mlX1_57 w_copyN w_copyS w_copyI (by omega) (by omega) (by decide) (by decide) (by decide) (Nat.le_of_ble_eq_true rfl) dX1_copyFrom_135 rfl ?_
  refine q_aload_n C dX1_copyFrom_138 rfl rfl ?_
  refine q_getR C flX1_34 q_s1 rfl dX1_copyFrom_139 ?_
  refine q_iconst (v := 0) C dX1_copyFrom_142 (by decide) ?_
  refine q_aload_n C dX1_copyFrom_143 rfl rfl ?_
  refine q_getR C flX1_34 q_s66 rfl dX1_copyFrom_144 ?_
  refine q_iconst (v := 0) C dX1_copyFrom_147 (by decide) ?_
  refine q_bipush (v := 6) C dX1_copyFrom_148 (by decide) ?_
  refine q_copyV (n := 6) (dp := 0) (sp := 0) (f := (va_cpy (S 8) (S 73) 0 0 6)) C q_s8 q_s73  rfl rfl rfl mlX1_57 w_copyN w_copyS w_copyI (by omega) (by omega) (by decide) (by decide) (by decide) (Nat.le_of_ble_eq_true rfl) dX1_copyFrom_150 rfl ?_
  refine q_iconst (v := 0) C dX1_copyFrom_153 (by decide) ?_
  refine q_istore_n (lv' := [(2, .int 0), (0, .ref 66), (1, .ref 1)]) C dX1_copyFrom_154 rfl (by decide) rfl ?_
  have loop_155 : ∀ (n_155 i_155 : Nat), i_155 + n_155 = 6 → q_V l K 155 [(0, .ref 66), (1, .ref 1), (2, .int (nI i_155))] [] (q_u (q_u (q_u (q_u (q_u (q_u (q_u (q_u (q_p (q_p (q_p (q_p (q_p (q_p S 66 0 (S 1 0)) 66 1 (S 1 1)) 66 2 (S 1 2)) 66 3 (S 1 3)) 66 4 (S 1 4)) 66 5 (S 1 5)) 67 (va_cpy (S 2) (S 67) 0 0 8)) 68 (va_cpy (S 3) (S 68) 0 0 8)) 69 (va_cpy (S 4) (S 69) 0 0 8)) 70 (va_cpy (S 5) (S 70) 0 0 48)) 71 (va_cpy (S 6) (S 71) 0 0 48)) 72 (va_cpy (S 7) (S 72) 0 0 6)) 73 (va_cpy (S 8) (S 73) 0 0 6)) 74 (va_cpy (S 9) (S 74) 0 0 i_155)) := by
    intro n_155
    induction n_155 with
    | zero =>
      intro i_155 hi_155
      have e_155 : i_155 = 6 := by omega
      refine q_iload_n C dX1_copyFrom_155 rfl rfl ?_
      refine q_bipush (v := 6) C dX1_copyFrom_156 (by decide) ?_
      refine q_icmp_geN (a := i_155) (b := 6) (tgt := 179) C dX1_copyFrom_158 (by decide) rfl rfl (by omega) (by omega) (fun c_158 => ?_) (fun c_158 => absurd c_158 (by omega))
      exact hret _ _ _ dX1_copyFrom_179 (by rw [e_155]; exact q_cp_eq S 66 1)
    | succ n_155 ih_155 =>
      intro i_155 hi_155
      refine q_iload_n C dX1_copyFrom_155 rfl rfl ?_
      refine q_bipush (v := 6) C dX1_copyFrom_156 (by decide) ?_
      refine q_icmp_geN (a := i_155) (b := 6) (tgt := 179) C dX1_copyFrom_158 (by decide) rfl rfl (by omega) (by omega) (fun c_158 => absurd c_158 (by omega)) (fun c_158 => ?_)
      refine q_aload_n C dX1_copyFrom_161 rfl rfl ?_
      refine q_getR C flX1_37 q_s66 rfl dX1_copyFrom_162 ?_
      refine q_iload_n C dX1_copyFrom_165 rfl rfl ?_
      refine q_aload_n C dX1_copyFrom_166 rfl rfl ?_
      refine q_getR C flX1_37 q_s1 rfl dX1_copyFrom_167 ?_
      refine q_iload_n C dX1_copyFrom_170 rfl rfl ?_
      refine q_zaldN (i := i_155) (x := S 9 i_155) C rfl q_s9 (by omega) (by decide) dX1_copyFrom_171 rfl ?_
      refine q_zastV (i := i_155) (v := S 9 i_155) C rfl q_s74 (by omega) (by decide) dX1_copyFrom_172 (q_nar_b (hz.2 _ (by omega))) ?_
      refine q_iinc (v := nI (i_155 + 1)) (lv' := [(2, .int (nI (i_155 + 1))), (0, .ref 66), (1, .ref 1)]) C dX1_copyFrom_173 rfl (nI_add _ _) (by decide) rfl ?_
      refine q_goto (tgt := 155) C dX1_copyFrom_176 (by decide) ?_
      exact q_V_to (ih_155 (i_155 + 1) (by omega)) ⟨rfl, rfl, rfl, trivial⟩ (q_u_s _ _ _ _ _)
  exact q_V_to (loop_155 (6 - 0) 0 (by omega)) ⟨rfl, rfl, rfl, trivial⟩ (q_u_0 _ _ _)
theorem c_X1_copy_75_1 (l : Launch) (S : q_St) (hz : q_bool S 1) : q_Fv l yX1_copyFrom kX1_copyFrom 1 [.ref 75, .ref 1] S (q_cp S 75 1) := by
  refine q_Fv_of (maxL := 3) rfl (by decide +kernel) (fun ad => Nat.le_of_ble_eq_true rfl) ?_
  intro K C hret
  have C : q_Cx K cX1_copyFrom RX1 1 3 := C
  show q_V l K 0 [(0, .ref 75), (1, .ref 1)] [] S
  refine q_aload_n C dX1_copyFrom_0 rfl rfl ?_
  refine q_aload_n C dX1_copyFrom_1 rfl rfl ?_
  refine q_getI (x := S 1 0) C flX1_41 q_s1 rfl dX1_copyFrom_2 rfl ?_
  refine q_put (ty9 := .int) C flX1_41 q_s75 rfl (fun _ _ _ h => by cases h; exact ⟨rfl, by decide +kernel⟩) rfl rfl dX1_copyFrom_5 ?_
  refine q_aload_n C dX1_copyFrom_8 rfl rfl ?_
  refine q_aload_n C dX1_copyFrom_9 rfl rfl ?_
  refine q_getI (x := S 1 1) C flX1_45 q_s1 rfl dX1_copyFrom_10 rfl ?_
  refine q_put (ty9 := .int) C flX1_45 q_s75 rfl (fun _ _ _ h => by cases h; exact ⟨rfl, by decide +kernel⟩) rfl rfl dX1_copyFrom_13 ?_
  refine q_aload_n C dX1_copyFrom_16 rfl rfl ?_
  refine q_aload_n C dX1_copyFrom_17 rfl rfl ?_
  refine q_getI (x := S 1 2) C flX1_48 q_s1 rfl dX1_copyFrom_18 rfl ?_
  refine q_put (ty9 := .int) C flX1_48 q_s75 rfl (fun _ _ _ h => by cases h; exact ⟨rfl, by decide +kernel⟩) rfl rfl dX1_copyFrom_21 ?_
  refine q_aload_n C dX1_copyFrom_24 rfl rfl ?_
  refine q_aload_n C dX1_copyFrom_25 rfl rfl ?_
  refine q_getI (x := S 1 3) C flX1_51 q_s1 rfl dX1_copyFrom_26 rfl ?_
  refine q_put (ty9 := .int) C flX1_51 q_s75 rfl (fun _ _ _ h => by cases h; exact ⟨rfl, by decide +kernel⟩) rfl rfl dX1_copyFrom_29 ?_
  refine q_aload_n C dX1_copyFrom_32 rfl rfl ?_
  refine q_aload_n C dX1_copyFrom_33 rfl rfl ?_
  refine q_getI (x := S 1 4) C flX1_54 q_s1 rfl dX1_copyFrom_34 rfl ?_
  refine q_put (ty9 := .int) C flX1_54 q_s75 rfl (fun _ _ _ h => by cases h; exact ⟨rfl, by decide +kernel⟩) rfl rfl dX1_copyFrom_37 ?_
  refine q_aload_n C dX1_copyFrom_40 rfl rfl ?_
  refine q_aload_n C dX1_copyFrom_41 rfl rfl ?_
  refine q_getI (x := S 1 5) C flX1_9 q_s1 rfl dX1_copyFrom_42 rfl ?_
  refine q_put (ty9 := .boolean) C flX1_9 q_s75 rfl (fun _ _ _ h => by cases h; exact ⟨rfl, by decide +kernel⟩) (q_narrow_b hz.1) (q_fits_b hz.1) dX1_copyFrom_45 ?_
  refine q_aload_n C dX1_copyFrom_48 rfl rfl ?_
  refine q_getR C flX1_15 q_s1 rfl dX1_copyFrom_49 ?_
  refine q_iconst (v := 0) C dX1_copyFrom_52 (by decide) ?_
  refine q_aload_n C dX1_copyFrom_53 rfl rfl ?_
  refine q_getR C flX1_15 q_s75 rfl dX1_copyFrom_54 ?_
  refine q_iconst (v := 0) C dX1_copyFrom_57 (by decide) ?_
  refine q_bipush (v := 8) C dX1_copyFrom_58 (by decide) ?_
  refine q_copyV (n := 8) (dp := 0) (sp := 0) (f := (va_cpy (S 2) (S 76) 0 0 8)) C q_s2 q_s76  rfl rfl rfl mlX1_57 w_copyN w_copyS w_copyI (by omega) (by omega) (by decide) (by decide) (by decide) (Nat.le_of_ble_eq_true rfl) dX1_copyFrom_60 rfl ?_
  refine q_aload_n C dX1_copyFrom_63 rfl rfl ?_
  refine q_getR C flX1_19 q_s1 rfl dX1_copyFrom_64 ?_
  refine q_iconst (v := 0) C dX1_copyFrom_67 (by decide) ?_
  refine q_aload_n C dX1_copyFrom_68 rfl rfl ?_
  refine q_getR C flX1_19 q_s75 rfl dX1_copyFrom_69 ?_
  refine q_iconst (v := 0) C dX1_copyFrom_72 (by decide) ?_
  refine q_bipush (v := 8) C dX1_copyFrom_73 (by decide) ?_
  refine q_copyV (n := 8) (dp := 0) (sp := 0) (f := (va_cpy (S 3) (S 77) 0 0 8)) C q_s3 q_s77  rfl rfl rfl mlX1_57 w_copyN w_copyS w_copyI (by omega) (by omega) (by decide) (by decide) (by decide) (Nat.le_of_ble_eq_true rfl) dX1_copyFrom_75 rfl ?_
  refine q_aload_n C dX1_copyFrom_78 rfl rfl ?_
  refine q_getR C flX1_22 q_s1 rfl dX1_copyFrom_79 ?_
  refine q_iconst (v := 0) C dX1_copyFrom_82 (by decide) ?_
  refine q_aload_n C dX1_copyFrom_83 rfl rfl ?_
  refine q_getR C flX1_22 q_s75 rfl dX1_copyFrom_84 ?_
  refine q_iconst (v := 0) C dX1_copyFrom_87 (by decide) ?_
  refine q_bipush (v := 8) C dX1_copyFrom_88 (by decide) ?_
  refine q_copyV (n := 8) (dp := 0) (sp := 0) (f := (va_cpy (S 4) (S 78) 0 0 8)) C q_s4 q_s78  rfl rfl rfl mlX1_57 w_copyN w_copyS w_copyI (by omega) (by omega) (by decide) (by decide) (by decide) (Nat.le_of_ble_eq_true rfl) dX1_copyFrom_90 rfl ?_
  refine q_aload_n C dX1_copyFrom_93 rfl rfl ?_
  refine q_getR C flX1_25 q_s1 rfl dX1_copyFrom_94 ?_
  refine q_iconst (v := 0) C dX1_copyFrom_97 (by decide) ?_
  refine q_aload_n C dX1_copyFrom_98 rfl rfl ?_
  refine q_getR C flX1_25 q_s75 rfl dX1_copyFrom_99 ?_
  refine q_iconst (v := 0) C dX1_copyFrom_102 (by decide) ?_
  refine q_bipush (v := 48) C dX1_copyFrom_103 (by decide) ?_
  refine q_copyV (n := 48) (dp := 0) (sp := 0) (f := (va_cpy (S 5) (S 79) 0 0 48)) C q_s5 q_s79  rfl rfl rfl mlX1_57 w_copyN w_copyS w_copyI (by omega) (by omega) (by decide) (by decide) (by decide) (Nat.le_of_ble_eq_true rfl) dX1_copyFrom_105 rfl ?_
  refine q_aload_n C dX1_copyFrom_108 rfl rfl ?_
  refine q_getR C flX1_28 q_s1 rfl dX1_copyFrom_109 ?_
  refine q_iconst (v := 0) C dX1_copyFrom_112 (by decide) ?_
  refine q_aload_n C dX1_copyFrom_113 rfl rfl ?_
  refine q_getR C flX1_28 q_s75 rfl dX1_copyFrom_114 ?_
  refine q_iconst (v := 0) C dX1_copyFrom_117 (by decide) ?_
  refine q_bipush (v := 48) C dX1_copyFrom_118 (by decide) ?_
  refine q_copyV (n := 48) (dp := 0) (sp := 0) (f := (va_cpy (S 6) (S 80) 0 0 48)) C q_s6 q_s80  rfl rfl rfl mlX1_57 w_copyN w_copyS w_copyI (by omega) (by omega) (by decide) (by decide) (by decide) (Nat.le_of_ble_eq_true rfl) dX1_copyFrom_120 rfl ?_
  refine q_aload_n C dX1_copyFrom_123 rfl rfl ?_
  refine q_getR C flX1_31 q_s1 rfl dX1_copyFrom_124 ?_
  refine q_iconst (v := 0) C dX1_copyFrom_127 (by decide) ?_
  refine q_aload_n C dX1_copyFrom_128 rfl rfl ?_
  refine q_getR C flX1_31 q_s75 rfl dX1_copyFrom_129 ?_
  refine q_iconst (v := 0) C dX1_copyFrom_132 (by decide) ?_
  refine q_bipush (v := 6) C dX1_copyFrom_133 (by decide) ?_
  refine q_copyV (n := 6) (dp := 0) (sp := 0) (f := (va_cpy (S 7) (S 81) 0 0 6)) C q_s7 q_s81  rfl rfl rfl mlX1_57 w_copyN w_copyS w_copyI (by omega) (by omega) (by decide) (by decide) (by decide) (Nat.le_of_ble_eq_true rfl) dX1_copyFrom_135 rfl ?_
  refine q_aload_n C dX1_copyFrom_138 rfl rfl ?_
  refine q_getR C flX1_34 q_s1 rfl dX1_copyFrom_139 ?_
  refine q_iconst (v := 0) C dX1_copyFrom_142 (by decide) ?_
  refine q_aload_n C dX1_copyFrom_143 rfl rfl ?_
  refine q_getR C flX1_34 q_s75 rfl dX1_copyFrom_144 ?_
  refine q_iconst (v := 0) C dX1_copyFrom_147 (by decide) ?_
  refine q_bipush (v := 6) C dX1_copyFrom_148 (by decide) ?_
  refine q_copyV (n := 6) (dp := 0) (sp := 0) (f := (va_cpy (S 8) (S 82) 0 0 6)) C q_s8 q_s82  rfl rfl rfl mlX1_57 w_copyN w_copyS w_copyI (by omega) (by omega) (by decide) (by decide) (by decide) (Nat.le_of_ble_eq_true rfl) dX1_copyFrom_150 rfl ?_
  refine q_iconst (v := 0) C dX1_copyFrom_153 (by decide) ?_
  refine q_istore_n (lv' := [(2, .int 0), (0, .ref 75), (1, .ref 1)]) C dX1_copyFrom_154 rfl (by decide) rfl ?_
  have loop_155 : ∀ (n_155 i_155 : Nat), i_155 + n_155 = 6 → q_V l K 155 [(0, .ref 75), (1, .ref 1), (2, .int (nI i_155))] [] (q_u (q_u (q_u (q_u (q_u (q_u (q_u (q_u (q_p (q_p (q_p (q_p (q_p (q_p S 75 0 (S 1 0)) 75 1 (S 1 1)) 75 2 (S 1 2)) 75 3 (S 1 3)) 75 4 (S 1 4)) 75 5 (S 1 5)) 76 (va_cpy (S 2) (S 76) 0 0 8)) 77 (va_cpy (S 3) (S 77) 0 0 8)) 78 (va_cpy (S 4) (S 78) 0 0 8)) 79 (va_cpy (S 5) (S 79) 0 0 48)) 80 (va_cpy (S 6) (S 80) 0 0 48)) 81 (va_cpy (S 7) (S 81) 0 0 6)) 82 (va_cpy (S 8) (S 82) 0 0 6)) 83 (va_cpy (S 9) (S 83) 0 0 i_155)) := by
    intro n_155
    induction n_155 with
    | zero =>
      intro i_155 hi_155
      have e_155 : i_155 = 6 := by omega
      refine q_iload_n C dX1_copyFrom_155 rfl rfl ?_
      refine q_bipush (v := 6) C dX1_copyFrom_156 (by decide) ?_
      refine q_icmp_geN (a := i_155) (b := 6) (tgt := 179) C dX1_copyFrom_158 (by decide) rfl rfl (by omega) (by omega) (fun c_158 => ?_) (fun c_158 => absurd c_158 (by omega))
      exact hret _ _ _ dX1_copyFrom_179 (by rw [e_155]; exact q_cp_eq S 75 1)
    | succ n_155 ih_155 =>
      intro i_155 hi_155
      refine q_iload_n C dX1_copyFrom_155 rfl rfl ?_
      refine q_bipush (v := 6) C dX1_copyFrom_156 (by decide) ?_
      refine q_icmp_geN (a := i_155) (b := 6) (tgt := 179) C dX1_copyFrom_158 (by decide) rfl rfl (by omega) (by omega) (fun c_158 => absurd c_158 (by omega)) (fun c_158 => ?_)
      refine q_aload_n C dX1_copyFrom_161 rfl rfl ?_
      refine q_getR C flX1_37 q_s75 rfl dX1_copyFrom_162 ?_
      refine q_iload_n C dX1_copyFrom_165 rfl rfl ?_
      refine q_aload_n C dX1_copyFrom_166 rfl rfl ?_
      refine q_getR C flX1_37 q_s1 rfl dX1_copyFrom_167 ?_
      refine q_iload_n C dX1_copyFrom_170 rfl rfl ?_
      refine q_zaldN (i := i_155) (x := S 9 i_155) C rfl q_s9 (by omega) (by decide) dX1_copyFrom_171 rfl ?_
      refine q_zastV (i := i_155) (v := S 9 i_155) C rfl q_s83 (by omega) (by decide) dX1_copyFrom_172 (q_nar_b (hz.2 _ (by omega))) ?_
      refine q_iinc (v := nI (i_155 + 1)) (lv' := [(2, .int (nI (i_155 + 1))), (0, .ref 75), (1, .ref 1)]) C dX1_copyFrom_173 rfl (nI_add _ _) (by decide) rfl ?_
      refine q_goto (tgt := 155) C dX1_copyFrom_176 (by decide) ?_
      exact q_V_to (ih_155 (i_155 + 1) (by omega)) ⟨rfl, rfl, rfl, trivial⟩ (q_u_s _ _ _ _ _)
  exact q_V_to (loop_155 (6 - 0) 0 (by omega)) ⟨rfl, rfl, rfl, trivial⟩ (q_u_0 _ _ _)
theorem c_X1_copy_84_1 (l : Launch) (S : q_St) (hz : q_bool S 1) : q_Fv l yX1_copyFrom kX1_copyFrom 1 [.ref 84, .ref 1] S (q_cp S 84 1) := by
  refine q_Fv_of (maxL := 3) rfl (by decide +kernel) (fun ad => Nat.le_of_ble_eq_true rfl) ?_
  intro K C hret
  have C : q_Cx K cX1_copyFrom RX1 1 3 := C
  show q_V l K 0 [(0, .ref 84), (1, .ref 1)] [] S
  refine q_aload_n C dX1_copyFrom_0 rfl rfl ?_
  refine q_aload_n C dX1_copyFrom_1 rfl rfl ?_
  refine q_getI (x := S 1 0) C flX1_41 q_s1 rfl dX1_copyFrom_2 rfl ?_
  refine q_put (ty9 := .int) C flX1_41 q_s84 rfl (fun _ _ _ h => by cases h; exact ⟨rfl, by decide +kernel⟩) rfl rfl dX1_copyFrom_5 ?_
  refine q_aload_n C dX1_copyFrom_8 rfl rfl ?_
  refine q_aload_n C dX1_copyFrom_9 rfl rfl ?_
  refine q_getI (x := S 1 1) C flX1_45 q_s1 rfl dX1_copyFrom_10 rfl ?_
  refine q_put (ty9 := .int) C flX1_45 q_s84 rfl (fun _ _ _ h => by cases h; exact ⟨rfl, by decide +kernel⟩) rfl rfl dX1_copyFrom_13 ?_
  refine q_aload_n C dX1_copyFrom_16 rfl rfl ?_
  refine q_aload_n C dX1_copyFrom_17 rfl rfl ?_
  refine q_getI (x := S 1 2) C flX1_48 q_s1 rfl dX1_copyFrom_18 rfl ?_
  refine q_put (ty9 := .int) C flX1_48 q_s84 rfl (fun _ _ _ h => by cases h; exact ⟨rfl, by decide +kernel⟩) rfl rfl dX1_copyFrom_21 ?_
  refine q_aload_n C dX1_copyFrom_24 rfl rfl ?_
  refine q_aload_n C dX1_copyFrom_25 rfl rfl ?_
  refine q_getI (x := S 1 3) C flX1_51 q_s1 rfl dX1_copyFrom_26 rfl ?_
  refine q_put (ty9 := .int) C flX1_51 q_s84 rfl (fun _ _ _ h => by cases h; exact ⟨rfl, by decide +kernel⟩) rfl rfl dX1_copyFrom_29 ?_
  refine q_aload_n C dX1_copyFrom_32 rfl rfl ?_
  refine q_aload_n C dX1_copyFrom_33 rfl rfl ?_
  refine q_getI (x := S 1 4) C flX1_54 q_s1 rfl dX1_copyFrom_34 rfl ?_
  refine q_put (ty9 := .int) C flX1_54 q_s84 rfl (fun _ _ _ h => by cases h; exact ⟨rfl, by decide +kernel⟩) rfl rfl dX1_copyFrom_37 ?_
  refine q_aload_n C dX1_copyFrom_40 rfl rfl ?_
  refine q_aload_n C dX1_copyFrom_41 rfl rfl ?_
  refine q_getI (x := S 1 5) C flX1_9 q_s1 rfl dX1_copyFrom_42 rfl ?_
  refine q_put (ty9 := .boolean) C flX1_9 q_s84 rfl (fun _ _ _ h => by cases h; exact ⟨rfl, by decide +kernel⟩) (q_narrow_b hz.1) (q_fits_b hz.1) dX1_copyFrom_45 ?_
  refine q_aload_n C dX1_copyFrom_48 rfl rfl ?_
  refine q_getR C flX1_15 q_s1 rfl dX1_copyFrom_49 ?_
  refine q_iconst (v := 0) C dX1_copyFrom_52 (by decide) ?_
  refine q_aload_n C dX1_copyFrom_53 rfl rfl ?_
  refine q_getR C flX1_15 q_s84 rfl dX1_copyFrom_54 ?_
  refine q_iconst (v := 0) C dX1_copyFrom_57 (by decide) ?_
  refine q_bipush (v := 8) C dX1_copyFrom_58 (by decide) ?_
  refine q_copyV (n := 8) (dp := 0) (sp := 0) (f := (va_cpy (S 2) (S 85) 0 0 8)) C q_s2 q_s85  rfl rfl rfl mlX1_57 w_copyN w_copyS w_copyI (by omega) (by omega) (by decide) (by decide) (by decide) (Nat.le_of_ble_eq_true rfl) dX1_copyFrom_60 rfl ?_
  refine q_aload_n C dX1_copyFrom_63 rfl rfl ?_
  refine q_getR C flX1_19 q_s1 rfl dX1_copyFrom_64 ?_
  refine q_iconst (v := 0) C dX1_copyFrom_67 (by decide) ?_
  refine q_aload_n C dX1_copyFrom_68 rfl rfl ?_
  refine q_getR C flX1_19 q_s84 rfl dX1_copyFrom_69 ?_
  refine q_iconst (v := 0) C dX1_copyFrom_72 (by decide) ?_
  refine q_bipush (v := 8) C dX1_copyFrom_73 (by decide) ?_
  refine q_copyV (n := 8) (dp := 0) (sp := 0) (f := (va_cpy (S 3) (S 86) 0 0 8)) C q_s3 q_s86  rfl rfl rfl mlX1_57 w_copyN w_copyS w_copyI (by omega) (by omega) (by decide) (by decide) (by decide) (Nat.le_of_ble_eq_true rfl) dX1_copyFrom_75 rfl ?_
  refine q_aload_n C dX1_copyFrom_78 rfl rfl ?_
  refine q_getR C flX1_22 q_s1 rfl dX1_copyFrom_79 ?_
  refine q_iconst (v := 0) C dX1_copyFrom_82 (by decide) ?_
  refine q_aload_n C dX1_copyFrom_83 rfl rfl ?_
  refine q_getR C flX1_22 q_s84 rfl dX1_copyFrom_84 ?_
  refine q_iconst (v := 0) C dX1_copyFrom_87 (by decide) ?_
  refine q_bipush (v := 8) C dX1_copyFrom_88 (by decide) ?_
  refine q_copyV (n := 8) (dp := 0) (sp := 0) (f := (va_cpy (S 4) (S 87) 0 0 8)) C q_s4 q_s87  rfl rfl rfl mlX1_57 w_copyN w_copyS w_copyI (by omega) (by omega) (by decide) (by decide) (by decide) (Nat.le_of_ble_eq_true rfl) dX1_copyFrom_90 rfl ?_
  refine q_aload_n C dX1_copyFrom_93 rfl rfl ?_
  refine q_getR C flX1_25 q_s1 rfl dX1_copyFrom_94 ?_
  refine q_iconst (v := 0) C dX1_copyFrom_97 (by decide) ?_
  refine q_aload_n C dX1_copyFrom_98 rfl rfl ?_
  refine q_getR C flX1_25 q_s84 rfl dX1_copyFrom_99 ?_
  refine q_iconst (v := 0) C dX1_copyFrom_102 (by decide) ?_
  refine q_bipush (v := 48) C dX1_copyFrom_103 (by decide) ?_
  refine q_copyV (n := 48) (dp := 0) (sp := 0) (f := (va_cpy (S 5) (S 88) 0 0 48)) C q_s5 q_s88  rfl rfl rfl mlX1_57 w_copyN w_copyS w_copyI (by omega) (by omega) (by decide) (by decide) (by decide) (Nat.le_of_ble_eq_true rfl) dX1_copyFrom_105 rfl ?_
  refine q_aload_n C dX1_copyFrom_108 rfl rfl ?_
  refine q_getR C flX1_28 q_s1 rfl dX1_copyFrom_109 ?_
  refine q_iconst (v := 0) C dX1_copyFrom_112 (by decide) ?_
  refine q_aload_n C dX1_copyFrom_113 rfl rfl ?_
  refine q_getR C flX1_28 q_s84 rfl dX1_copyFrom_114 ?_
  refine q_iconst (v := 0) C dX1_copyFrom_117 (by decide) ?_
  refine q_bipush (v := 48) C dX1_copyFrom_118 (by decide) ?_
  refine q_copyV (n := 48) (dp := 0) (sp := 0) (f := (va_cpy (S 6) (S 89) 0 0 48)) C q_s6 q_s89  rfl rfl rfl mlX1_57 w_copyN w_copyS w_copyI (by omega) (by omega) (by decide) (by decide) (by decide) (Nat.le_of_ble_eq_true rfl) dX1_copyFrom_120 rfl ?_
  refine q_aload_n C dX1_copyFrom_123 rfl rfl ?_
  refine q_getR C flX1_31 q_s1 rfl dX1_copyFrom_124 ?_
  refine q_iconst (v := 0) C dX1_copyFrom_127 (by decide) ?_
  refine q_aload_n C dX1_copyFrom_128 rfl rfl ?_
  refine q_getR C flX1_31 q_s84 rfl dX1_copyFrom_129 ?_
  refine q_iconst (v := 0) C dX1_copyFrom_132 (by decide) ?_
  refine q_bipush (v := 6) C dX1_copyFrom_133 (by decide) ?_
  refine q_copyV (n := 6) (dp := 0) (sp := 0) (f := (va_cpy (S 7) (S 90) 0 0 6)) C q_s7 q_s90  rfl rfl rfl mlX1_57 w_copyN w_copyS w_copyI (by omega) (by omega) (by decide) (by decide) (by decide) (Nat.le_of_ble_eq_true rfl) dX1_copyFrom_135 rfl ?_
  refine q_aload_n C dX1_copyFrom_138 rfl rfl ?_
  refine q_getR C flX1_34 q_s1 rfl dX1_copyFrom_139 ?_
  refine q_iconst (v := 0) C dX1_copyFrom_142 (by decide) ?_
  refine q_aload_n C dX1_copyFrom_143 rfl rfl ?_
  refine q_getR C flX1_34 q_s84 rfl dX1_copyFrom_144 ?_
  refine q_iconst (v := 0) C dX1_copyFrom_147 (by decide) ?_
  refine q_bipush (v := 6) C dX1_copyFrom_148 (by decide) ?_
  refine q_copyV (n := 6) (dp := 0) (sp := 0) (f := (va_cpy (S 8) (S 91) 0 0 6)) C q_s8 q_s91  rfl rfl rfl mlX1_57 w_copyN w_copyS w_copyI (by omega) (by omega) (by decide) (by decide) (by decide) (Nat.le_of_ble_eq_true rfl) dX1_copyFrom_150 rfl ?_
  refine q_iconst (v := 0) C dX1_copyFrom_153 (by decide) ?_
  refine q_istore_n (lv' := [(2, .int 0), (0, .ref 84), (1, .ref 1)]) C dX1_copyFrom_154 rfl (by decide) rfl ?_
  have loop_155 : ∀ (n_155 i_155 : Nat), i_155 + n_155 = 6 → q_V l K 155 [(0, .ref 84), (1, .ref 1), (2, .int (nI i_155))] [] (q_u (q_u (q_u (q_u (q_u (q_u (q_u (q_u (q_p (q_p (q_p (q_p (q_p (q_p S 84 0 (S 1 0)) 84 1 (S 1 1)) 84 2 (S 1 2)) 84 3 (S 1 3)) 84 4 (S 1 4)) 84 5 (S 1 5)) 85 (va_cpy (S 2) (S 85) 0 0 8)) 86 (va_cpy (S 3) (S 86) 0 0 8)) 87 (va_cpy (S 4) (S 87) 0 0 8)) 88 (va_cpy (S 5) (S 88) 0 0 48)) 89 (va_cpy (S 6) (S 89) 0 0 48)) 90 (va_cpy (S 7) (S 90) 0 0 6)) 91 (va_cpy (S 8) (S 91) 0 0 6)) 92 (va_cpy (S 9) (S 92) 0 0 i_155)) := by
    intro n_155
    induction n_155 with
    | zero =>
      intro i_155 hi_155
      have e_155 : i_155 = 6 := by omega
      refine q_iload_n C dX1_copyFrom_155 rfl rfl ?_
      refine q_bipush (v := 6) C dX1_copyFrom_156 (by decide) ?_
      refine q_icmp_geN (a := i_155) (b := 6) (tgt := 179) C dX1_copyFrom_158 (by decide) rfl rfl (by omega) (by omega) (fun c_158 => ?_) (fun c_158 => absurd c_158 (by omega))
      exact hret _ _ _ dX1_copyFrom_179 (by rw [e_155]; exact q_cp_eq S 84 1)
    | succ n_155 ih_155 =>
      intro i_155 hi_155
      refine q_iload_n C dX1_copyFrom_155 rfl rfl ?_
      refine q_bipush (v := 6) C dX1_copyFrom_156 (by decide) ?_
      refine q_icmp_geN (a := i_155) (b := 6) (tgt := 179) C dX1_copyFrom_158 (by decide) rfl rfl (by omega) (by omega) (fun c_158 => absurd c_158 (by omega)) (fun c_158 => ?_)
      refine q_aload_n C dX1_copyFrom_161 rfl rfl ?_
      refine q_getR C flX1_37 q_s84 rfl dX1_copyFrom_162 ?_
      refine q_iload_n C dX1_copyFrom_165 rfl rfl ?_
      refine q_aload_n C dX1_copyFrom_166 rfl rfl ?_
      refine q_getR C flX1_37 q_s1 rfl dX1_copyFrom_167 ?_
      refine q_iload_n C dX1_copyFrom_170 rfl rfl ?_
      refine q_zaldN (i := i_155) (x := S 9 i_155) C rfl q_s9 (by omega) (by decide) dX1_copyFrom_171 rfl ?_
      refine q_zastV (i := i_155) (v := S 9 i_155) C rfl q_s92 (by omega) (by decide) dX1_copyFrom_172 (q_nar_b (hz.2 _ (by omega))) ?_
      refine q_iinc (v := nI (i_155 + 1)) (lv' := [(2, .int (nI (i_155 + 1))), (0, .ref 84), (1, .ref 1)]) C dX1_copyFrom_173 rfl (nI_add _ _) (by decide) rfl ?_
      refine q_goto (tgt := 155) C dX1_copyFrom_176 (by decide) ?_
      exact q_V_to (ih_155 (i_155 + 1) (by omega)) ⟨rfl, rfl, rfl, trivial⟩ (q_u_s _ _ _ _ _)
  exact q_V_to (loop_155 (6 - 0) 0 (by omega)) ⟨rfl, rfl, rfl, trivial⟩ (q_u_0 _ _ _)
theorem c_X1_copy_93_1 (l : Launch) (S : q_St) (hz : q_bool S 1) : q_Fv l yX1_copyFrom kX1_copyFrom 1 [.ref 93, .ref 1] S (q_cp S 93 1) := by
  refine q_Fv_of (maxL := 3) rfl (by decide +kernel) (fun ad => Nat.le_of_ble_eq_true rfl) ?_
  intro K C hret
  have C : q_Cx K cX1_copyFrom RX1 1 3 := C
  show q_V l K 0 [(0, .ref 93), (1, .ref 1)] [] S
  refine q_aload_n C dX1_copyFrom_0 rfl rfl ?_
  refine q_aload_n C dX1_copyFrom_1 rfl rfl ?_
  refine q_getI (x := S 1 0) C flX1_41 q_s1 rfl dX1_copyFrom_2 rfl ?_
  refine q_put (ty9 := .int) C flX1_41 q_s93 rfl (fun _ _ _ h => by cases h; exact ⟨rfl, by decide +kernel⟩) rfl rfl dX1_copyFrom_5 ?_
  refine q_aload_n C dX1_copyFrom_8 rfl rfl ?_
  refine q_aload_n C dX1_copyFrom_9 rfl rfl ?_
  refine q_getI (x := S 1 1) C flX1_45 q_s1 rfl dX1_copyFrom_10 rfl ?_
  refine q_put (ty9 := .int) C flX1_45 q_s93 rfl (fun _ _ _ h => by cases h; exact ⟨rfl, by decide +kernel⟩) rfl rfl dX1_copyFrom_13 ?_
  refine q_aload_n C dX1_copyFrom_16 rfl rfl ?_
  refine q_aload_n C dX1_copyFrom_17 rfl rfl ?_
  refine q_getI (x := S 1 2) C flX1_48 q_s1 rfl dX1_copyFrom_18 rfl ?_
  refine q_put (ty9 := .int) C flX1_48 q_s93 rfl (fun _ _ _ h => by cases h; exact ⟨rfl, by decide +kernel⟩) rfl rfl dX1_copyFrom_21 ?_
  refine q_aload_n C dX1_copyFrom_24 rfl rfl ?_
  refine q_aload_n C dX1_copyFrom_25 rfl rfl ?_
  refine q_getI (x := S 1 3) C flX1_51 q_s1 rfl dX1_copyFrom_26 rfl ?_
  refine q_put (ty9 := .int) C flX1_51 q_s93 rfl (fun _ _ _ h => by cases h; exact ⟨rfl, by decide +kernel⟩) rfl rfl dX1_copyFrom_29 ?_
  refine q_aload_n C dX1_copyFrom_32 rfl rfl ?_
  refine q_aload_n C dX1_copyFrom_33 rfl rfl ?_
  refine q_getI (x := S 1 4) C flX1_54 q_s1 rfl dX1_copyFrom_34 rfl ?_
  refine q_put (ty9 := .int) C flX1_54 q_s93 rfl (fun _ _ _ h => by cases h; exact ⟨rfl, by decide +kernel⟩) rfl rfl dX1_copyFrom_37 ?_
  refine q_aload_n C dX1_copyFrom_40 rfl rfl ?_
  refine q_aload_n C dX1_copyFrom_41 rfl rfl ?_
  refine q_getI (x := S 1 5) C flX1_9 q_s1 rfl dX1_copyFrom_42 rfl ?_
  refine q_put (ty9 := .boolean) C flX1_9 q_s93 rfl (fun _ _ _ h => by cases h; exact ⟨rfl, by decide +kernel⟩) (q_narrow_b hz.1) (q_fits_b hz.1) dX1_copyFrom_45 ?_
  refine q_aload_n C dX1_copyFrom_48 rfl rfl ?_
  refine q_getR C flX1_15 q_s1 rfl dX1_copyFrom_49 ?_
  refine q_iconst (v := 0) C dX1_copyFrom_52 (by decide) ?_
  refine q_aload_n C dX1_copyFrom_53 rfl rfl ?_
  refine q_getR C flX1_15 q_s93 rfl dX1_copyFrom_54 ?_
  refine q_iconst (v := 0) C dX1_copyFrom_57 (by decide) ?_
  refine q_bipush (v := 8) C dX1_copyFrom_58 (by decide) ?_
  refine q_copyV (n := 8) (dp := 0) (sp := 0) (f := (va_cpy (S 2) (S 94) 0 0 8)) C q_s2 q_s94  rfl rfl rfl mlX1_57 w_copyN w_copyS w_copyI (by omega) (by omega) (by decide) (by decide) (by decide) (Nat.le_of_ble_eq_true rfl) dX1_copyFrom_60 rfl ?_
  refine q_aload_n C dX1_copyFrom_63 rfl rfl ?_
  refine q_getR C flX1_19 q_s1 rfl dX1_copyFrom_64 ?_
  refine q_iconst (v := 0) C dX1_copyFrom_67 (by decide) ?_
  refine q_aload_n C dX1_copyFrom_68 rfl rfl ?_
  refine q_getR C flX1_19 q_s93 rfl dX1_copyFrom_69 ?_
  refine q_iconst (v := 0) C dX1_copyFrom_72 (by decide) ?_
  refine q_bipush (v := 8) C dX1_copyFrom_73 (by decide) ?_
  refine q_copyV (n := 8) (dp := 0) (sp := 0) (f := (va_cpy (S 3) (S 95) 0 0 8)) C q_s3 q_s95  rfl rfl rfl mlX1_57 w_copyN w_copyS w_copyI (by omega) (by omega) (by decide) (by decide) (by decide) (Nat.le_of_ble_eq_true rfl) dX1_copyFrom_75 rfl ?_
  refine q_aload_n C dX1_copyFrom_78 rfl rfl ?_
  refine q_getR C flX1_22 q_s1 rfl dX1_copyFrom_79 ?_
  refine q_iconst (v := 0) C dX1_copyFrom_82 (by decide) ?_
  refine q_aload_n C dX1_copyFrom_83 rfl rfl ?_
  refine q_getR C flX1_22 q_s93 rfl dX1_copyFrom_84 ?_
  refine q_iconst (v := 0) C dX1_copyFrom_87 (by decide) ?_
  refine q_bipush (v := 8) C dX1_copyFrom_88 (by decide) ?_
  refine q_copyV (n := 8) (dp := 0) (sp := 0) (f := (va_cpy (S 4) (S 96) 0 0 8)) C q_s4 q_s96  rfl rfl rfl mlX1_57 w_copyN w_copyS w_copyI (by omega) (by omega) (by decide) (by decide) (by decide) (Nat.le_of_ble_eq_true rfl) dX1_copyFrom_90 rfl ?_
  refine q_aload_n C dX1_copyFrom_93 rfl rfl ?_
  refine q_getR C flX1_25 q_s1 rfl dX1_copyFrom_94 ?_
  refine q_iconst (v := 0) C dX1_copyFrom_97 (by decide) ?_
  refine q_aload_n C dX1_copyFrom_98 rfl rfl ?_
  refine q_getR C flX1_25 q_s93 rfl dX1_copyFrom_99 ?_
  refine q_iconst (v := 0) C dX1_copyFrom_102 (by decide) ?_
  refine q_bipush (v := 48) C dX1_copyFrom_103 (by decide) ?_
  refine q_copyV (n := 48) (dp := 0) (sp := 0) (f := (va_cpy (S 5) (S 97) 0 0 48)) C q_s5 q_s97  rfl rfl rfl mlX1_57 w_copyN w_copyS w_copyI (by omega) (by omega) (by decide) (by decide) (by decide) (Nat.le_of_ble_eq_true rfl) dX1_copyFrom_105 rfl ?_
  refine q_aload_n C dX1_copyFrom_108 rfl rfl ?_
  refine q_getR C flX1_28 q_s1 rfl dX1_copyFrom_109 ?_
  refine q_iconst (v := 0) C dX1_copyFrom_112 (by decide) ?_
  refine q_aload_n C dX1_copyFrom_113 rfl rfl ?_
  refine q_getR C flX1_28 q_s93 rfl dX1_copyFrom_114 ?_
  refine q_iconst (v := 0) C dX1_copyFrom_117 (by decide) ?_
  refine q_bipush (v := 48) C dX1_copyFrom_118 (by decide) ?_
  refine q_copyV (n := 48) (dp := 0) (sp := 0) (f := (va_cpy (S 6) (S 98) 0 0 48)) C q_s6 q_s98  rfl rfl rfl mlX1_57 w_copyN w_copyS w_copyI (by omega) (by omega) (by decide) (by decide) (by decide) (Nat.le_of_ble_eq_true rfl) dX1_copyFrom_120 rfl ?_
  refine q_aload_n C dX1_copyFrom_123 rfl rfl ?_
  refine q_getR C flX1_31 q_s1 rfl dX1_copyFrom_124 ?_
  refine q_iconst (v := 0) C dX1_copyFrom_127 (by decide) ?_
  refine q_aload_n C dX1_copyFrom_128 rfl rfl ?_
  refine q_getR C flX1_31 q_s93 rfl dX1_copyFrom_129 ?_
  refine q_iconst (v := 0) C dX1_copyFrom_132 (by decide) ?_
  refine q_bipush (v := 6) C dX1_copyFrom_133 (by decide) ?_
  refine q_copyV (n := 6) (dp := 0) (sp := 0) (f := (va_cpy (S 7) (S 99) 0 0 6)) C q_s7 q_s99  rfl rfl rfl mlX1_57 w_copyN w_copyS w_copyI (by omega) (by omega) (by decide) (by decide) (by decide) (Nat.le_of_ble_eq_true rfl) dX1_copyFrom_135 rfl ?_
  refine q_aload_n C dX1_copyFrom_138 rfl rfl ?_
  refine q_getR C flX1_34 q_s1 rfl dX1_copyFrom_139 ?_
  refine q_iconst (v := 0) C dX1_copyFrom_142 (by decide) ?_
  refine q_aload_n C dX1_copyFrom_143 rfl rfl ?_
  refine q_getR C flX1_34 q_s93 rfl dX1_copyFrom_144 ?_
  refine q_iconst (v := 0) C dX1_copyFrom_147 (by decide) ?_
  refine q_bipush (v := 6) C dX1_copyFrom_148 (by decide) ?_
  refine q_copyV (n := 6) (dp := 0) (sp := 0) (f := (va_cpy (S 8) (S 100) 0 0 6)) C q_s8 q_s100  rfl rfl rfl mlX1_57 w_copyN w_copyS w_copyI (by omega) (by omega) (by decide) (by decide) (by decide) (Nat.le_of_ble_eq_true rfl) dX1_copyFrom_150 rfl ?_
  refine q_iconst (v := 0) C dX1_copyFrom_153 (by decide) ?_
  refine q_istore_n (lv' := [(2, .int 0), (0, .ref 93), (1, .ref 1)]) C dX1_copyFrom_154 rfl (by decide) rfl ?_
  have loop_155 : ∀ (n_155 i_155 : Nat), i_155 + n_155 = 6 → q_V l K 155 [(0, .ref 93), (1, .ref 1), (2, .int (nI i_155))] [] (q_u (q_u (q_u (q_u (q_u (q_u (q_u (q_u (q_p (q_p (q_p (q_p (q_p (q_p S 93 0 (S 1 0)) 93 1 (S 1 1)) 93 2 (S 1 2)) 93 3 (S 1 3)) 93 4 (S 1 4)) 93 5 (S 1 5)) 94 (va_cpy (S 2) (S 94) 0 0 8)) 95 (va_cpy (S 3) (S 95) 0 0 8)) 96 (va_cpy (S 4) (S 96) 0 0 8)) 97 (va_cpy (S 5) (S 97) 0 0 48)) 98 (va_cpy (S 6) (S 98) 0 0 48)) 99 (va_cpy (S 7) (S 99) 0 0 6)) 100 (va_cpy (S 8) (S 100) 0 0 6)) 101 (va_cpy (S 9) (S 101) 0 0 i_155)) := by
    intro n_155
    induction n_155 with
    | zero =>
      intro i_155 hi_155
      have e_155 : i_155 = 6 := by omega
      refine q_iload_n C dX1_copyFrom_155 rfl rfl ?_
      refine q_bipush (v := 6) C dX1_copyFrom_156 (by decide) ?_
      refine q_icmp_geN (a := i_155) (b := 6) (tgt := 179) C dX1_copyFrom_158 (by decide) rfl rfl (by omega) (by omega) (fun c_158 => ?_) (fun c_158 => absurd c_158 (by omega))
      exact hret _ _ _ dX1_copyFrom_179 (by rw [e_155]; exact q_cp_eq S 93 1)
    | succ n_155 ih_155 =>
      intro i_155 hi_155
      refine q_iload_n C dX1_copyFrom_155 rfl rfl ?_
      refine q_bipush (v := 6) C dX1_copyFrom_156 (by decide) ?_
      refine q_icmp_geN (a := i_155) (b := 6) (tgt := 179) C dX1_copyFrom_158 (by decide) rfl rfl (by omega) (by omega) (fun c_158 => absurd c_158 (by omega)) (fun c_158 => ?_)
      refine q_aload_n C dX1_copyFrom_161 rfl rfl ?_
      refine q_getR C flX1_37 q_s93 rfl dX1_copyFrom_162 ?_
      refine q_iload_n C dX1_copyFrom_165 rfl rfl ?_
      refine q_aload_n C dX1_copyFrom_166 rfl rfl ?_
      refine q_getR C flX1_37 q_s1 rfl dX1_copyFrom_167 ?_
      refine q_iload_n C dX1_copyFrom_170 rfl rfl ?_
      refine q_zaldN (i := i_155) (x := S 9 i_155) C rfl q_s9 (by omega) (by decide) dX1_copyFrom_171 rfl ?_
      refine q_zastV (i := i_155) (v := S 9 i_155) C rfl q_s101 (by omega) (by decide) dX1_copyFrom_172 (q_nar_b (hz.2 _ (by omega))) ?_
      refine q_iinc (v := nI (i_155 + 1)) (lv' := [(2, .int (nI (i_155 + 1))), (0, .ref 93), (1, .ref 1)]) C dX1_copyFrom_173 rfl (nI_add _ _) (by decide) rfl ?_
      refine q_goto (tgt := 155) C dX1_copyFrom_176 (by decide) ?_
      exact q_V_to (ih_155 (i_155 + 1) (by omega)) ⟨rfl, rfl, rfl, trivial⟩ (q_u_s _ _ _ _ _)
  exact q_V_to (loop_155 (6 - 0) 0 (by omega)) ⟨rfl, rfl, rfl, trivial⟩ (q_u_0 _ _ _)
theorem c_X1_copy_1_30 (l : Launch) (S : q_St) (hz : q_bool S 30) : q_Fv l yX1_copyFrom kX1_copyFrom 1 [.ref 1, .ref 30] S (q_cp S 1 30) := by
  refine q_Fv_of (maxL := 3) rfl (by decide +kernel) (fun ad => Nat.le_of_ble_eq_true rfl) ?_
  intro K C hret
  have C : q_Cx K cX1_copyFrom RX1 1 3 := C
  show q_V l K 0 [(0, .ref 1), (1, .ref 30)] [] S
  refine q_aload_n C dX1_copyFrom_0 rfl rfl ?_
  refine q_aload_n C dX1_copyFrom_1 rfl rfl ?_
  refine q_getI (x := S 30 0) C flX1_41 q_s30 rfl dX1_copyFrom_2 rfl ?_
  refine q_put (ty9 := .int) C flX1_41 q_s1 rfl (fun _ _ _ h => by cases h; exact ⟨rfl, by decide +kernel⟩) rfl rfl dX1_copyFrom_5 ?_
  refine q_aload_n C dX1_copyFrom_8 rfl rfl ?_
  refine q_aload_n C dX1_copyFrom_9 rfl rfl ?_
  refine q_getI (x := S 30 1) C flX1_45 q_s30 rfl dX1_copyFrom_10 rfl ?_
  refine q_put (ty9 := .int) C flX1_45 q_s1 rfl (fun _ _ _ h => by cases h; exact ⟨rfl, by decide +kernel⟩) rfl rfl dX1_copyFrom_13 ?_
  refine q_aload_n C dX1_copyFrom_16 rfl rfl ?_
  refine q_aload_n C dX1_copyFrom_17 rfl rfl ?_
  refine q_getI (x := S 30 2) C flX1_48 q_s30 rfl dX1_copyFrom_18 rfl ?_
  refine q_put (ty9 := .int) C flX1_48 q_s1 rfl (fun _ _ _ h => by cases h; exact ⟨rfl, by decide +kernel⟩) rfl rfl dX1_copyFrom_21 ?_
  refine q_aload_n C dX1_copyFrom_24 rfl rfl ?_
  refine q_aload_n C dX1_copyFrom_25 rfl rfl ?_
  refine q_getI (x := S 30 3) C flX1_51 q_s30 rfl dX1_copyFrom_26 rfl ?_
  refine q_put (ty9 := .int) C flX1_51 q_s1 rfl (fun _ _ _ h => by cases h; exact ⟨rfl, by decide +kernel⟩) rfl rfl dX1_copyFrom_29 ?_
  refine q_aload_n C dX1_copyFrom_32 rfl rfl ?_
  refine q_aload_n C dX1_copyFrom_33 rfl rfl ?_
  refine q_getI (x := S 30 4) C flX1_54 q_s30 rfl dX1_copyFrom_34 rfl ?_
  refine q_put (ty9 := .int) C flX1_54 q_s1 rfl (fun _ _ _ h => by cases h; exact ⟨rfl, by decide +kernel⟩) rfl rfl dX1_copyFrom_37 ?_
  refine q_aload_n C dX1_copyFrom_40 rfl rfl ?_
  refine q_aload_n C dX1_copyFrom_41 rfl rfl ?_
  refine q_getI (x := S 30 5) C flX1_9 q_s30 rfl dX1_copyFrom_42 rfl ?_
  refine q_put (ty9 := .boolean) C flX1_9 q_s1 rfl (fun _ _ _ h => by cases h; exact ⟨rfl, by decide +kernel⟩) (q_narrow_b hz.1) (q_fits_b hz.1) dX1_copyFrom_45 ?_
  refine q_aload_n C dX1_copyFrom_48 rfl rfl ?_
  refine q_getR C flX1_15 q_s30 rfl dX1_copyFrom_49 ?_
  refine q_iconst (v := 0) C dX1_copyFrom_52 (by decide) ?_
  refine q_aload_n C dX1_copyFrom_53 rfl rfl ?_
  refine q_getR C flX1_15 q_s1 rfl dX1_copyFrom_54 ?_
  refine q_iconst (v := 0) C dX1_copyFrom_57 (by decide) ?_
  refine q_bipush (v := 8) C dX1_copyFrom_58 (by decide) ?_
  refine q_copyV (n := 8) (dp := 0) (sp := 0) (f := (va_cpy (S 31) (S 2) 0 0 8)) C q_s31 q_s2  rfl rfl rfl mlX1_57 w_copyN w_copyS w_copyI (by omega) (by omega) (by decide) (by decide) (by decide) (Nat.le_of_ble_eq_true rfl) dX1_copyFrom_60 rfl ?_
  refine q_aload_n C dX1_copyFrom_63 rfl rfl ?_
  refine q_getR C flX1_19 q_s30 rfl dX1_copyFrom_64 ?_
  refine q_iconst (v := 0) C dX1_copyFrom_67 (by decide) ?_
  refine q_aload_n C dX1_copyFrom_68 rfl rfl ?_
  refine q_getR C flX1_19 q_s1 rfl dX1_copyFrom_69 ?_
  refine q_iconst (v := 0) C dX1_copyFrom_72 (by decide) ?_
  refine q_bipush (v := 8) C dX1_copyFrom_73 (by decide) ?_
  refine q_copyV (n := 8) (dp := 0) (sp := 0) (f := (va_cpy (S 32) (S 3) 0 0 8)) C q_s32 q_s3  rfl rfl rfl mlX1_57 w_copyN w_copyS w_copyI (by omega) (by omega) (by decide) (by decide) (by decide) (Nat.le_of_ble_eq_true rfl) dX1_copyFrom_75 rfl ?_
  refine q_aload_n C dX1_copyFrom_78 rfl rfl ?_
  refine q_getR C flX1_22 q_s30 rfl dX1_copyFrom_79 ?_
  refine q_iconst (v := 0) C dX1_copyFrom_82 (by decide) ?_
  refine q_aload_n C dX1_copyFrom_83 rfl rfl ?_
  refine q_getR C flX1_22 q_s1 rfl dX1_copyFrom_84 ?_
  refine q_iconst (v := 0) C dX1_copyFrom_87 (by decide) ?_
  refine q_bipush (v := 8) C dX1_copyFrom_88 (by decide) ?_
  refine q_copyV (n := 8) (dp := 0) (sp := 0) (f := (va_cpy (S 33) (S 4) 0 0 8)) C q_s33 q_s4  rfl rfl rfl mlX1_57 w_copyN w_copyS w_copyI (by omega) (by omega) (by decide) (by decide) (by decide) (Nat.le_of_ble_eq_true rfl) dX1_copyFrom_90 rfl ?_
  refine q_aload_n C dX1_copyFrom_93 rfl rfl ?_
  refine q_getR C flX1_25 q_s30 rfl dX1_copyFrom_94 ?_
  refine q_iconst (v := 0) C dX1_copyFrom_97 (by decide) ?_
  refine q_aload_n C dX1_copyFrom_98 rfl rfl ?_
  refine q_getR C flX1_25 q_s1 rfl dX1_copyFrom_99 ?_
  refine q_iconst (v := 0) C dX1_copyFrom_102 (by decide) ?_
  refine q_bipush (v := 48) C dX1_copyFrom_103 (by decide) ?_
  refine q_copyV (n := 48) (dp := 0) (sp := 0) (f := (va_cpy (S 34) (S 5) 0 0 48)) C q_s34 q_s5  rfl rfl rfl mlX1_57 w_copyN w_copyS w_copyI (by omega) (by omega) (by decide) (by decide) (by decide) (Nat.le_of_ble_eq_true rfl) dX1_copyFrom_105 rfl ?_
  refine q_aload_n C dX1_copyFrom_108 rfl rfl ?_
  refine q_getR C flX1_28 q_s30 rfl dX1_copyFrom_109 ?_
  refine q_iconst (v := 0) C dX1_copyFrom_112 (by decide) ?_
  refine q_aload_n C dX1_copyFrom_113 rfl rfl ?_
  refine q_getR C flX1_28 q_s1 rfl dX1_copyFrom_114 ?_
  refine q_iconst (v := 0) C dX1_copyFrom_117 (by decide) ?_
  refine q_bipush (v := 48) C dX1_copyFrom_118 (by decide) ?_
  refine q_copyV (n := 48) (dp := 0) (sp := 0) (f := (va_cpy (S 35) (S 6) 0 0 48)) C q_s35 q_s6  rfl rfl rfl mlX1_57 w_copyN w_copyS w_copyI (by omega) (by omega) (by decide) (by decide) (by decide) (Nat.le_of_ble_eq_true rfl) dX1_copyFrom_120 rfl ?_
  refine q_aload_n C dX1_copyFrom_123 rfl rfl ?_
  refine q_getR C flX1_31 q_s30 rfl dX1_copyFrom_124 ?_
  refine q_iconst (v := 0) C dX1_copyFrom_127 (by decide) ?_
  refine q_aload_n C dX1_copyFrom_128 rfl rfl ?_
  refine q_getR C flX1_31 q_s1 rfl dX1_copyFrom_129 ?_
  refine q_iconst (v := 0) C dX1_copyFrom_132 (by decide) ?_
  refine q_bipush (v := 6) C dX1_copyFrom_133 (by decide) ?_
  refine q_copyV (n := 6) (dp := 0) (sp := 0) (f := (va_cpy (S 36) (S 7) 0 0 6)) C q_s36 q_s7  rfl rfl rfl mlX1_57 w_copyN w_copyS w_copyI (by omega) (by omega) (by decide) (by decide) (by decide) (Nat.le_of_ble_eq_true rfl) dX1_copyFrom_135 rfl ?_
  refine q_aload_n C dX1_copyFrom_138 rfl rfl ?_
  refine q_getR C flX1_34 q_s30 rfl dX1_copyFrom_139 ?_
  refine q_iconst (v := 0) C dX1_copyFrom_142 (by decide) ?_
  refine q_aload_n C dX1_copyFrom_143 rfl rfl ?_
  refine q_getR C flX1_34 q_s1 rfl dX1_copyFrom_144 ?_
  refine q_iconst (v := 0) C dX1_copyFrom_147 (by decide) ?_
  refine q_bipush (v := 6) C dX1_copyFrom_148 (by decide) ?_
  refine q_copyV (n := 6) (dp := 0) (sp := 0) (f := (va_cpy (S 37) (S 8) 0 0 6)) C q_s37 q_s8  rfl rfl rfl mlX1_57 w_copyN w_copyS w_copyI (by omega) (by omega) (by decide) (by decide) (by decide) (Nat.le_of_ble_eq_true rfl) dX1_copyFrom_150 rfl ?_
  refine q_iconst (v := 0) C dX1_copyFrom_153 (by decide) ?_
  refine q_istore_n (lv' := [(2, .int 0), (0, .ref 1), (1, .ref 30)]) C dX1_copyFrom_154 rfl (by decide) rfl ?_
  have loop_155 : ∀ (n_155 i_155 : Nat), i_155 + n_155 = 6 → q_V l K 155 [(0, .ref 1), (1, .ref 30), (2, .int (nI i_155))] [] (q_u (q_u (q_u (q_u (q_u (q_u (q_u (q_u (q_p (q_p (q_p (q_p (q_p (q_p S 1 0 (S 30 0)) 1 1 (S 30 1)) 1 2 (S 30 2)) 1 3 (S 30 3)) 1 4 (S 30 4)) 1 5 (S 30 5)) 2 (va_cpy (S 31) (S 2) 0 0 8)) 3 (va_cpy (S 32) (S 3) 0 0 8)) 4 (va_cpy (S 33) (S 4) 0 0 8)) 5 (va_cpy (S 34) (S 5) 0 0 48)) 6 (va_cpy (S 35) (S 6) 0 0 48)) 7 (va_cpy (S 36) (S 7) 0 0 6)) 8 (va_cpy (S 37) (S 8) 0 0 6)) 9 (va_cpy (S 38) (S 9) 0 0 i_155)) := by
    intro n_155
    induction n_155 with
    | zero =>
      intro i_155 hi_155
      have e_155 : i_155 = 6 := by omega
      refine q_iload_n C dX1_copyFrom_155 rfl rfl ?_
      refine q_bipush (v := 6) C dX1_copyFrom_156 (by decide) ?_
      refine q_icmp_geN (a := i_155) (b := 6) (tgt := 179) C dX1_copyFrom_158 (by decide) rfl rfl (by omega) (by omega) (fun c_158 => ?_) (fun c_158 => absurd c_158 (by omega))
      exact hret _ _ _ dX1_copyFrom_179 (by rw [e_155]; exact q_cp_eq S 1 30)
    | succ n_155 ih_155 =>
      intro i_155 hi_155
      refine q_iload_n C dX1_copyFrom_155 rfl rfl ?_
      refine q_bipush (v := 6) C dX1_copyFrom_156 (by decide) ?_
      refine q_icmp_geN (a := i_155) (b := 6) (tgt := 179) C dX1_copyFrom_158 (by decide) rfl rfl (by omega) (by omega) (fun c_158 => absurd c_158 (by omega)) (fun c_158 => ?_)
      refine q_aload_n C dX1_copyFrom_161 rfl rfl ?_
      refine q_getR C flX1_37 q_s1 rfl dX1_copyFrom_162 ?_
      refine q_iload_n C dX1_copyFrom_165 rfl rfl ?_
      refine q_aload_n C dX1_copyFrom_166 rfl rfl ?_
      refine q_getR C flX1_37 q_s30 rfl dX1_copyFrom_167 ?_
      refine q_iload_n C dX1_copyFrom_170 rfl rfl ?_
      refine q_zaldN (i := i_155) (x := S 38 i_155) C rfl q_s38 (by omega) (by decide) dX1_copyFrom_171 rfl ?_
      refine q_zastV (i := i_155) (v := S 38 i_155) C rfl q_s9 (by omega) (by decide) dX1_copyFrom_172 (q_nar_b (hz.2 _ (by omega))) ?_
      refine q_iinc (v := nI (i_155 + 1)) (lv' := [(2, .int (nI (i_155 + 1))), (0, .ref 1), (1, .ref 30)]) C dX1_copyFrom_173 rfl (nI_add _ _) (by decide) rfl ?_
      refine q_goto (tgt := 155) C dX1_copyFrom_176 (by decide) ?_
      exact q_V_to (ih_155 (i_155 + 1) (by omega)) ⟨rfl, rfl, rfl, trivial⟩ (q_u_s _ _ _ _ _)
  exact q_V_to (loop_155 (6 - 0) 0 (by omega)) ⟨rfl, rfl, rfl, trivial⟩ (q_u_0 _ _ _)
theorem c_X1_copy_1_39 (l : Launch) (S : q_St) (hz : q_bool S 39) : q_Fv l yX1_copyFrom kX1_copyFrom 1 [.ref 1, .ref 39] S (q_cp S 1 39) := by
  refine q_Fv_of (maxL := 3) rfl (by decide +kernel) (fun ad => Nat.le_of_ble_eq_true rfl) ?_
  intro K C hret
  have C : q_Cx K cX1_copyFrom RX1 1 3 := C
  show q_V l K 0 [(0, .ref 1), (1, .ref 39)] [] S
  refine q_aload_n C dX1_copyFrom_0 rfl rfl ?_
  refine q_aload_n C dX1_copyFrom_1 rfl rfl ?_
  refine q_getI (x := S 39 0) C flX1_41 q_s39 rfl dX1_copyFrom_2 rfl ?_
  refine q_put (ty9 := .int) C flX1_41 q_s1 rfl (fun _ _ _ h => by cases h; exact ⟨rfl, by decide +kernel⟩) rfl rfl dX1_copyFrom_5 ?_
  refine q_aload_n C dX1_copyFrom_8 rfl rfl ?_
  refine q_aload_n C dX1_copyFrom_9 rfl rfl ?_
  refine q_getI (x := S 39 1) C flX1_45 q_s39 rfl dX1_copyFrom_10 rfl ?_
  refine q_put (ty9 := .int) C flX1_45 q_s1 rfl (fun _ _ _ h => by cases h; exact ⟨rfl, by decide +kernel⟩) rfl rfl dX1_copyFrom_13 ?_
  refine q_aload_n C dX1_copyFrom_16 rfl rfl ?_
  refine q_aload_n C dX1_copyFrom_17 rfl rfl ?_
  refine q_getI (x := S 39 2) C flX1_48 q_s39 rfl dX1_copyFrom_18 rfl ?_
  refine q_put (ty9 := .int) C flX1_48 q_s1 rfl (fun _ _ _ h => by cases h; exact ⟨rfl, by decide +kernel⟩) rfl rfl dX1_copyFrom_21 ?_
  refine q_aload_n C dX1_copyFrom_24 rfl rfl ?_
  refine q_aload_n C dX1_copyFrom_25 rfl rfl ?_
  refine q_getI (x := S 39 3) C flX1_51 q_s39 rfl dX1_copyFrom_26 rfl ?_
  refine q_put (ty9 := .int) C flX1_51 q_s1 rfl (fun _ _ _ h => by cases h; exact ⟨rfl, by decide +kernel⟩) rfl rfl dX1_copyFrom_29 ?_
  refine q_aload_n C dX1_copyFrom_32 rfl rfl ?_
  refine q_aload_n C dX1_copyFrom_33 rfl rfl ?_
  refine q_getI (x := S 39 4) C flX1_54 q_s39 rfl dX1_copyFrom_34 rfl ?_
  refine q_put (ty9 := .int) C flX1_54 q_s1 rfl (fun _ _ _ h => by cases h; exact ⟨rfl, by decide +kernel⟩) rfl rfl dX1_copyFrom_37 ?_
  refine q_aload_n C dX1_copyFrom_40 rfl rfl ?_
  refine q_aload_n C dX1_copyFrom_41 rfl rfl ?_
  refine q_getI (x := S 39 5) C flX1_9 q_s39 rfl dX1_copyFrom_42 rfl ?_
  refine q_put (ty9 := .boolean) C flX1_9 q_s1 rfl (fun _ _ _ h => by cases h; exact ⟨rfl, by decide +kernel⟩) (q_narrow_b hz.1) (q_fits_b hz.1) dX1_copyFrom_45 ?_
  refine q_aload_n C dX1_copyFrom_48 rfl rfl ?_
  refine q_getR C flX1_15 q_s39 rfl dX1_copyFrom_49 ?_
  refine q_iconst (v := 0) C dX1_copyFrom_52 (by decide) ?_
  refine q_aload_n C dX1_copyFrom_53 rfl rfl ?_
  refine q_getR C flX1_15 q_s1 rfl dX1_copyFrom_54 ?_
  refine q_iconst (v := 0) C dX1_copyFrom_57 (by decide) ?_
  refine q_bipush (v := 8) C dX1_copyFrom_58 (by decide) ?_
  refine q_copyV (n := 8) (dp := 0) (sp := 0) (f := (va_cpy (S 40) (S 2) 0 0 8)) C q_s40 q_s2  rfl rfl rfl mlX1_57 w_copyN w_copyS w_copyI (by omega) (by omega) (by decide) (by decide) (by decide) (Nat.le_of_ble_eq_true rfl) dX1_copyFrom_60 rfl ?_
  refine q_aload_n C dX1_copyFrom_63 rfl rfl ?_
  refine q_getR C flX1_19 q_s39 rfl dX1_copyFrom_64 ?_
  refine q_iconst (v := 0) C dX1_copyFrom_67 (by decide) ?_
  refine q_aload_n C dX1_copyFrom_68 rfl rfl ?_
  refine q_getR C flX1_19 q_s1 rfl dX1_copyFrom_69 ?_
  refine q_iconst (v := 0) C dX1_copyFrom_72 (by decide) ?_
  refine q_bipush (v := 8) C dX1_copyFrom_73 (by decide) ?_
  refine q_copyV (n := 8) (dp := 0) (sp := 0) (f := (va_cpy (S 41) (S 3) 0 0 8)) C q_s41 q_s3  rfl rfl rfl mlX1_57 w_copyN w_copyS w_copyI (by omega) (by omega) (by decide) (by decide) (by decide) (Nat.le_of_ble_eq_true rfl) dX1_copyFrom_75 rfl ?_
  refine q_aload_n C dX1_copyFrom_78 rfl rfl ?_
  refine q_getR C flX1_22 q_s39 rfl dX1_copyFrom_79 ?_
  refine q_iconst (v := 0) C dX1_copyFrom_82 (by decide) ?_
  refine q_aload_n C dX1_copyFrom_83 rfl rfl ?_
  refine q_getR C flX1_22 q_s1 rfl dX1_copyFrom_84 ?_
  refine q_iconst (v := 0) C dX1_copyFrom_87 (by decide) ?_
  refine q_bipush (v := 8) C dX1_copyFrom_88 (by decide) ?_
  refine q_copyV (n := 8) (dp := 0) (sp := 0) (f := (va_cpy (S 42) (S 4) 0 0 8)) C q_s42 q_s4  rfl rfl rfl mlX1_57 w_copyN w_copyS w_copyI (by omega) (by omega) (by decide) (by decide) (by decide) (Nat.le_of_ble_eq_true rfl) dX1_copyFrom_90 rfl ?_
  refine q_aload_n C dX1_copyFrom_93 rfl rfl ?_
  refine q_getR C flX1_25 q_s39 rfl dX1_copyFrom_94 ?_
  refine q_iconst (v := 0) C dX1_copyFrom_97 (by decide) ?_
  refine q_aload_n C dX1_copyFrom_98 rfl rfl ?_
  refine q_getR C flX1_25 q_s1 rfl dX1_copyFrom_99 ?_
  refine q_iconst (v := 0) C dX1_copyFrom_102 (by decide) ?_
  refine q_bipush (v := 48) C dX1_copyFrom_103 (by decide) ?_
  refine q_copyV (n := 48) (dp := 0) (sp := 0) (f := (va_cpy (S 43) (S 5) 0 0 48)) C q_s43 q_s5  rfl rfl rfl mlX1_57 w_copyN w_copyS w_copyI (by omega) (by omega) (by decide) (by decide) (by decide) (Nat.le_of_ble_eq_true rfl) dX1_copyFrom_105 rfl ?_
  refine q_aload_n C dX1_copyFrom_108 rfl rfl ?_
  refine q_getR C flX1_28 q_s39 rfl dX1_copyFrom_109 ?_
  refine q_iconst (v := 0) C dX1_copyFrom_112 (by decide) ?_
  refine q_aload_n C dX1_copyFrom_113 rfl rfl ?_
  refine q_getR C flX1_28 q_s1 rfl dX1_copyFrom_114 ?_
  refine q_iconst (v := 0) C dX1_copyFrom_117 (by decide) ?_
  refine q_bipush (v := 48) C dX1_copyFrom_118 (by decide) ?_
  refine q_copyV (n := 48) (dp := 0) (sp := 0) (f := (va_cpy (S 44) (S 6) 0 0 48)) C q_s44 q_s6  rfl rfl rfl mlX1_57 w_copyN w_copyS w_copyI (by omega) (by omega) (by decide) (by decide) (by decide) (Nat.le_of_ble_eq_true rfl) dX1_copyFrom_120 rfl ?_
  refine q_aload_n C dX1_copyFrom_123 rfl rfl ?_
  refine q_getR C flX1_31 q_s39 rfl dX1_copyFrom_124 ?_
  refine q_iconst (v := 0) C dX1_copyFrom_127 (by decide) ?_
  refine q_aload_n C dX1_copyFrom_128 rfl rfl ?_
  refine q_getR C flX1_31 q_s1 rfl dX1_copyFrom_129 ?_
  refine q_iconst (v := 0) C dX1_copyFrom_132 (by decide) ?_
  refine q_bipush (v := 6) C dX1_copyFrom_133 (by decide) ?_
  refine q_copyV (n := 6) (dp := 0) (sp := 0) (f := (va_cpy (S 45) (S 7) 0 0 6)) C q_s45 q_s7  rfl rfl rfl mlX1_57 w_copyN w_copyS w_copyI (by omega) (by omega) (by decide) (by decide) (by decide) (Nat.le_of_ble_eq_true rfl) dX1_copyFrom_135 rfl ?_
  refine q_aload_n C dX1_copyFrom_138 rfl rfl ?_
  refine q_getR C flX1_34 q_s39 rfl dX1_copyFrom_139 ?_
  refine q_iconst (v := 0) C dX1_copyFrom_142 (by decide) ?_
  refine q_aload_n C dX1_copyFrom_143 rfl rfl ?_
  refine q_getR C flX1_34 q_s1 rfl dX1_copyFrom_144 ?_
  refine q_iconst (v := 0) C dX1_copyFrom_147 (by decide) ?_
  refine q_bipush (v := 6) C dX1_copyFrom_148 (by decide) ?_
  refine q_copyV (n := 6) (dp := 0) (sp := 0) (f := (va_cpy (S 46) (S 8) 0 0 6)) C q_s46 q_s8  rfl rfl rfl mlX1_57 w_copyN w_copyS w_copyI (by omega) (by omega) (by decide) (by decide) (by decide) (Nat.le_of_ble_eq_true rfl) dX1_copyFrom_150 rfl ?_
  refine q_iconst (v := 0) C dX1_copyFrom_153 (by decide) ?_
  refine q_istore_n (lv' := [(2, .int 0), (0, .ref 1), (1, .ref 39)]) C dX1_copyFrom_154 rfl (by decide) rfl ?_
  have loop_155 : ∀ (n_155 i_155 : Nat), i_155 + n_155 = 6 → q_V l K 155 [(0, .ref 1), (1, .ref 39), (2, .int (nI i_155))] [] (q_u (q_u (q_u (q_u (q_u (q_u (q_u (q_u (q_p (q_p (q_p (q_p (q_p (q_p S 1 0 (S 39 0)) 1 1 (S 39 1)) 1 2 (S 39 2)) 1 3 (S 39 3)) 1 4 (S 39 4)) 1 5 (S 39 5)) 2 (va_cpy (S 40) (S 2) 0 0 8)) 3 (va_cpy (S 41) (S 3) 0 0 8)) 4 (va_cpy (S 42) (S 4) 0 0 8)) 5 (va_cpy (S 43) (S 5) 0 0 48)) 6 (va_cpy (S 44) (S 6) 0 0 48)) 7 (va_cpy (S 45) (S 7) 0 0 6)) 8 (va_cpy (S 46) (S 8) 0 0 6)) 9 (va_cpy (S 47) (S 9) 0 0 i_155)) := by
    intro n_155
    induction n_155 with
    | zero =>
      intro i_155 hi_155
      have e_155 : i_155 = 6 := by omega
      refine q_iload_n C dX1_copyFrom_155 rfl rfl ?_
      refine q_bipush (v := 6) C dX1_copyFrom_156 (by decide) ?_
      refine q_icmp_geN (a := i_155) (b := 6) (tgt := 179) C dX1_copyFrom_158 (by decide) rfl rfl (by omega) (by omega) (fun c_158 => ?_) (fun c_158 => absurd c_158 (by omega))
      exact hret _ _ _ dX1_copyFrom_179 (by rw [e_155]; exact q_cp_eq S 1 39)
    | succ n_155 ih_155 =>
      intro i_155 hi_155
      refine q_iload_n C dX1_copyFrom_155 rfl rfl ?_
      refine q_bipush (v := 6) C dX1_copyFrom_156 (by decide) ?_
      refine q_icmp_geN (a := i_155) (b := 6) (tgt := 179) C dX1_copyFrom_158 (by decide) rfl rfl (by omega) (by omega) (fun c_158 => absurd c_158 (by omega)) (fun c_158 => ?_)
      refine q_aload_n C dX1_copyFrom_161 rfl rfl ?_
      refine q_getR C flX1_37 q_s1 rfl dX1_copyFrom_162 ?_
      refine q_iload_n C dX1_copyFrom_165 rfl rfl ?_
      refine q_aload_n C dX1_copyFrom_166 rfl rfl ?_
      refine q_getR C flX1_37 q_s39 rfl dX1_copyFrom_167 ?_
      refine q_iload_n C dX1_copyFrom_170 rfl rfl ?_
      refine q_zaldN (i := i_155) (x := S 47 i_155) C rfl q_s47 (by omega) (by decide) dX1_copyFrom_171 rfl ?_
      refine q_zastV (i := i_155) (v := S 47 i_155) C rfl q_s9 (by omega) (by decide) dX1_copyFrom_172 (q_nar_b (hz.2 _ (by omega))) ?_
      refine q_iinc (v := nI (i_155 + 1)) (lv' := [(2, .int (nI (i_155 + 1))), (0, .ref 1), (1, .ref 39)]) C dX1_copyFrom_173 rfl (nI_add _ _) (by decide) rfl ?_
      refine q_goto (tgt := 155) C dX1_copyFrom_176 (by decide) ?_
      exact q_V_to (ih_155 (i_155 + 1) (by omega)) ⟨rfl, rfl, rfl, trivial⟩ (q_u_s _ _ _ _ _)
  exact q_V_to (loop_155 (6 - 0) 0 (by omega)) ⟨rfl, rfl, rfl, trivial⟩ (q_u_0 _ _ _)
theorem c_X1_copy_1_48 (l : Launch) (S : q_St) (hz : q_bool S 48) : q_Fv l yX1_copyFrom kX1_copyFrom 1 [.ref 1, .ref 48] S (q_cp S 1 48) := by
  refine q_Fv_of (maxL := 3) rfl (by decide +kernel) (fun ad => Nat.le_of_ble_eq_true rfl) ?_
  intro K C hret
  have C : q_Cx K cX1_copyFrom RX1 1 3 := C
  show q_V l K 0 [(0, .ref 1), (1, .ref 48)] [] S
  refine q_aload_n C dX1_copyFrom_0 rfl rfl ?_
  refine q_aload_n C dX1_copyFrom_1 rfl rfl ?_
  refine q_getI (x := S 48 0) C flX1_41 q_s48 rfl dX1_copyFrom_2 rfl ?_
  refine q_put (ty9 := .int) C flX1_41 q_s1 rfl (fun _ _ _ h => by cases h; exact ⟨rfl, by decide +kernel⟩) rfl rfl dX1_copyFrom_5 ?_
  refine q_aload_n C dX1_copyFrom_8 rfl rfl ?_
  refine q_aload_n C dX1_copyFrom_9 rfl rfl ?_
  refine q_getI (x := S 48 1) C flX1_45 q_s48 rfl dX1_copyFrom_10 rfl ?_
  refine q_put (ty9 := .int) C flX1_45 q_s1 rfl (fun _ _ _ h => by cases h; exact ⟨rfl, by decide +kernel⟩) rfl rfl dX1_copyFrom_13 ?_
  refine q_aload_n C dX1_copyFrom_16 rfl rfl ?_
  refine q_aload_n C dX1_copyFrom_17 rfl rfl ?_
  refine q_getI (x := S 48 2) C flX1_48 q_s48 rfl dX1_copyFrom_18 rfl ?_
  refine q_put (ty9 := .int) C flX1_48 q_s1 rfl (fun _ _ _ h => by cases h; exact ⟨rfl, by decide +kernel⟩) rfl rfl dX1_copyFrom_21 ?_
  refine q_aload_n C dX1_copyFrom_24 rfl rfl ?_
  refine q_aload_n C dX1_copyFrom_25 rfl rfl ?_
  refine q_getI (x := S 48 3) C flX1_51 q_s48 rfl dX1_copyFrom_26 rfl ?_
  refine q_put (ty9 := .int) C flX1_51 q_s1 rfl (fun _ _ _ h => by cases h; exact ⟨rfl, by decide +kernel⟩) rfl rfl dX1_copyFrom_29 ?_
  refine q_aload_n C dX1_copyFrom_32 rfl rfl ?_
  refine q_aload_n C dX1_copyFrom_33 rfl rfl ?_
  refine q_getI (x := S 48 4) C flX1_54 q_s48 rfl dX1_copyFrom_34 rfl ?_
  refine q_put (ty9 := .int) C flX1_54 q_s1 rfl (fun _ _ _ h => by cases h; exact ⟨rfl, by decide +kernel⟩) rfl rfl dX1_copyFrom_37 ?_
  refine q_aload_n C dX1_copyFrom_40 rfl rfl ?_
  refine q_aload_n C dX1_copyFrom_41 rfl rfl ?_
  refine q_getI (x := S 48 5) C flX1_9 q_s48 rfl dX1_copyFrom_42 rfl ?_
  refine q_put (ty9 := .boolean) C flX1_9 q_s1 rfl (fun _ _ _ h => by cases h; exact ⟨rfl, by decide +kernel⟩) (q_narrow_b hz.1) (q_fits_b hz.1) dX1_copyFrom_45 ?_
  refine q_aload_n C dX1_copyFrom_48 rfl rfl ?_
  refine q_getR C flX1_15 q_s48 rfl dX1_copyFrom_49 ?_
  refine q_iconst (v := 0) C dX1_copyFrom_52 (by decide) ?_
  refine q_aload_n C dX1_copyFrom_53 rfl rfl ?_
  refine q_getR C flX1_15 q_s1 rfl dX1_copyFrom_54 ?_
  refine q_iconst (v := 0) C dX1_copyFrom_57 (by decide) ?_
  refine q_bipush (v := 8) C dX1_copyFrom_58 (by decide) ?_
  refine q_copyV (n := 8) (dp := 0) (sp := 0) (f := (va_cpy (S 49) (S 2) 0 0 8)) C q_s49 q_s2  rfl rfl rfl mlX1_57 w_copyN w_copyS w_copyI (by omega) (by omega) (by decide) (by decide) (by decide) (Nat.le_of_ble_eq_true rfl) dX1_copyFrom_60 rfl ?_
  refine q_aload_n C dX1_copyFrom_63 rfl rfl ?_
  refine q_getR C flX1_19 q_s48 rfl dX1_copyFrom_64 ?_
  refine q_iconst (v := 0) C dX1_copyFrom_67 (by decide) ?_
  refine q_aload_n C dX1_copyFrom_68 rfl rfl ?_
  refine q_getR C flX1_19 q_s1 rfl dX1_copyFrom_69 ?_
  refine q_iconst (v := 0) C dX1_copyFrom_72 (by decide) ?_
  refine q_bipush (v := 8) C dX1_copyFrom_73 (by decide) ?_
  refine q_copyV (n := 8) (dp := 0) (sp := 0) (f := (va_cpy (S 50) (S 3) 0 0 8)) C q_s50 q_s3  rfl rfl rfl mlX1_57 w_copyN w_copyS w_copyI (by omega) (by omega) (by decide) (by decide) (by decide) (Nat.le_of_ble_eq_true rfl) dX1_copyFrom_75 rfl ?_
  refine q_aload_n C dX1_copyFrom_78 rfl rfl ?_
  refine q_getR C flX1_22 q_s48 rfl dX1_copyFrom_79 ?_
  refine q_iconst (v := 0) C dX1_copyFrom_82 (by decide) ?_
  refine q_aload_n C dX1_copyFrom_83 rfl rfl ?_
  refine q_getR C flX1_22 q_s1 rfl dX1_copyFrom_84 ?_
  refine q_iconst (v := 0) C dX1_copyFrom_87 (by decide) ?_
  refine q_bipush (v := 8) C dX1_copyFrom_88 (by decide) ?_
  refine q_copyV (n := 8) (dp := 0) (sp := 0) (f := (va_cpy (S 51) (S 4) 0 0 8)) C q_s51 q_s4  rfl rfl rfl mlX1_57 w_copyN w_copyS w_copyI (by omega) (by omega) (by decide) (by decide) (by decide) (Nat.le_of_ble_eq_true rfl) dX1_copyFrom_90 rfl ?_
  refine q_aload_n C dX1_copyFrom_93 rfl rfl ?_
  refine q_getR C flX1_25 q_s48 rfl dX1_copyFrom_94 ?_
  refine q_iconst (v := 0) C dX1_copyFrom_97 (by decide) ?_
  refine q_aload_n C dX1_copyFrom_98 rfl rfl ?_
  refine q_getR C flX1_25 q_s1 rfl dX1_copyFrom_99 ?_
  refine q_iconst (v := 0) C dX1_copyFrom_102 (by decide) ?_
  refine q_bipush (v := 48) C dX1_copyFrom_103 (by decide) ?_
  refine q_copyV (n := 48) (dp := 0) (sp := 0) (f := (va_cpy (S 52) (S 5) 0 0 48)) C q_s52 q_s5  rfl rfl rfl mlX1_57 w_copyN w_copyS w_copyI (by omega) (by omega) (by decide) (by decide) (by decide) (Nat.le_of_ble_eq_true rfl) dX1_copyFrom_105 rfl ?_
  refine q_aload_n C dX1_copyFrom_108 rfl rfl ?_
  refine q_getR C flX1_28 q_s48 rfl dX1_copyFrom_109 ?_
  refine q_iconst (v := 0) C dX1_copyFrom_112 (by decide) ?_
  refine q_aload_n C dX1_copyFrom_113 rfl rfl ?_
  refine q_getR C flX1_28 q_s1 rfl dX1_copyFrom_114 ?_
  refine q_iconst (v := 0) C dX1_copyFrom_117 (by decide) ?_
  refine q_bipush (v := 48) C dX1_copyFrom_118 (by decide) ?_
  refine q_copyV (n := 48) (dp := 0) (sp := 0) (f := (va_cpy (S 53) (S 6) 0 0 48)) C q_s53 q_s6  rfl rfl rfl mlX1_57 w_copyN w_copyS w_copyI (by omega) (by omega) (by decide) (by decide) (by decide) (Nat.le_of_ble_eq_true rfl) dX1_copyFrom_120 rfl ?_
  refine q_aload_n C dX1_copyFrom_123 rfl rfl ?_
  refine q_getR C flX1_31 q_s48 rfl dX1_copyFrom_124 ?_
  refine q_iconst (v := 0) C dX1_copyFrom_127 (by decide) ?_
  refine q_aload_n C dX1_copyFrom_128 rfl rfl ?_
  refine q_getR C flX1_31 q_s1 rfl dX1_copyFrom_129 ?_
  refine q_iconst (v := 0) C dX1_copyFrom_132 (by decide) ?_
  refine q_bipush (v := 6) C dX1_copyFrom_133 (by decide) ?_
  refine q_copyV (n := 6) (dp := 0) (sp := 0) (f := (va_cpy (S 54) (S 7) 0 0 6)) C q_s54 q_s7  rfl rfl rfl mlX1_57 w_copyN w_copyS w_copyI (by omega) (by omega) (by decide) (by decide) (by decide) (Nat.le_of_ble_eq_true rfl) dX1_copyFrom_135 rfl ?_
  refine q_aload_n C dX1_copyFrom_138 rfl rfl ?_
  refine q_getR C flX1_34 q_s48 rfl dX1_copyFrom_139 ?_
  refine q_iconst (v := 0) C dX1_copyFrom_142 (by decide) ?_
  refine q_aload_n C dX1_copyFrom_143 rfl rfl ?_
  refine q_getR C flX1_34 q_s1 rfl dX1_copyFrom_144 ?_
  refine q_iconst (v := 0) C dX1_copyFrom_147 (by decide) ?_
  refine q_bipush (v := 6) C dX1_copyFrom_148 (by decide) ?_
  refine q_copyV (n := 6) (dp := 0) (sp := 0) (f := (va_cpy (S 55) (S 8) 0 0 6)) C q_s55 q_s8  rfl rfl rfl mlX1_57 w_copyN w_copyS w_copyI (by omega) (by omega) (by decide) (by decide) (by decide) (Nat.le_of_ble_eq_true rfl) dX1_copyFrom_150 rfl ?_
  refine q_iconst (v := 0) C dX1_copyFrom_153 (by decide) ?_
  refine q_istore_n (lv' := [(2, .int 0), (0, .ref 1), (1, .ref 48)]) C dX1_copyFrom_154 rfl (by decide) rfl ?_
  have loop_155 : ∀ (n_155 i_155 : Nat), i_155 + n_155 = 6 → q_V l K 155 [(0, .ref 1), (1, .ref 48), (2, .int (nI i_155))] [] (q_u (q_u (q_u (q_u (q_u (q_u (q_u (q_u (q_p (q_p (q_p (q_p (q_p (q_p S 1 0 (S 48 0)) 1 1 (S 48 1)) 1 2 (S 48 2)) 1 3 (S 48 3)) 1 4 (S 48 4)) 1 5 (S 48 5)) 2 (va_cpy (S 49) (S 2) 0 0 8)) 3 (va_cpy (S 50) (S 3) 0 0 8)) 4 (va_cpy (S 51) (S 4) 0 0 8)) 5 (va_cpy (S 52) (S 5) 0 0 48)) 6 (va_cpy (S 53) (S 6) 0 0 48)) 7 (va_cpy (S 54) (S 7) 0 0 6)) 8 (va_cpy (S 55) (S 8) 0 0 6)) 9 (va_cpy (S 56) (S 9) 0 0 i_155)) := by
    intro n_155
    induction n_155 with
    | zero =>
      intro i_155 hi_155
      have e_155 : i_155 = 6 := by omega
      refine q_iload_n C dX1_copyFrom_155 rfl rfl ?_
      refine q_bipush (v := 6) C dX1_copyFrom_156 (by decide) ?_
      refine q_icmp_geN (a := i_155) (b := 6) (tgt := 179) C dX1_copyFrom_158 (by decide) rfl rfl (by omega) (by omega) (fun c_158 => ?_) (fun c_158 => absurd c_158 (by omega))
      exact hret _ _ _ dX1_copyFrom_179 (by rw [e_155]; exact q_cp_eq S 1 48)
    | succ n_155 ih_155 =>
      intro i_155 hi_155
      refine q_iload_n C dX1_copyFrom_155 rfl rfl ?_
      refine q_bipush (v := 6) C dX1_copyFrom_156 (by decide) ?_
      refine q_icmp_geN (a := i_155) (b := 6) (tgt := 179) C dX1_copyFrom_158 (by decide) rfl rfl (by omega) (by omega) (fun c_158 => absurd c_158 (by omega)) (fun c_158 => ?_)
      refine q_aload_n C dX1_copyFrom_161 rfl rfl ?_
      refine q_getR C flX1_37 q_s1 rfl dX1_copyFrom_162 ?_
      refine q_iload_n C dX1_copyFrom_165 rfl rfl ?_
      refine q_aload_n C dX1_copyFrom_166 rfl rfl ?_
      refine q_getR C flX1_37 q_s48 rfl dX1_copyFrom_167 ?_
      refine q_iload_n C dX1_copyFrom_170 rfl rfl ?_
      refine q_zaldN (i := i_155) (x := S 56 i_155) C rfl q_s56 (by omega) (by decide) dX1_copyFrom_171 rfl ?_
      refine q_zastV (i := i_155) (v := S 56 i_155) C rfl q_s9 (by omega) (by decide) dX1_copyFrom_172 (q_nar_b (hz.2 _ (by omega))) ?_
      refine q_iinc (v := nI (i_155 + 1)) (lv' := [(2, .int (nI (i_155 + 1))), (0, .ref 1), (1, .ref 48)]) C dX1_copyFrom_173 rfl (nI_add _ _) (by decide) rfl ?_
      refine q_goto (tgt := 155) C dX1_copyFrom_176 (by decide) ?_
      exact q_V_to (ih_155 (i_155 + 1) (by omega)) ⟨rfl, rfl, rfl, trivial⟩ (q_u_s _ _ _ _ _)
  exact q_V_to (loop_155 (6 - 0) 0 (by omega)) ⟨rfl, rfl, rfl, trivial⟩ (q_u_0 _ _ _)
theorem c_X1_copy_1_57 (l : Launch) (S : q_St) (hz : q_bool S 57) : q_Fv l yX1_copyFrom kX1_copyFrom 1 [.ref 1, .ref 57] S (q_cp S 1 57) := by
  refine q_Fv_of (maxL := 3) rfl (by decide +kernel) (fun ad => Nat.le_of_ble_eq_true rfl) ?_
  intro K C hret
  have C : q_Cx K cX1_copyFrom RX1 1 3 := C
  show q_V l K 0 [(0, .ref 1), (1, .ref 57)] [] S
  refine q_aload_n C dX1_copyFrom_0 rfl rfl ?_
  refine q_aload_n C dX1_copyFrom_1 rfl rfl ?_
  refine q_getI (x := S 57 0) C flX1_41 q_s57 rfl dX1_copyFrom_2 rfl ?_
  refine q_put (ty9 := .int) C flX1_41 q_s1 rfl (fun _ _ _ h => by cases h; exact ⟨rfl, by decide +kernel⟩) rfl rfl dX1_copyFrom_5 ?_
  refine q_aload_n C dX1_copyFrom_8 rfl rfl ?_
  refine q_aload_n C dX1_copyFrom_9 rfl rfl ?_
  refine q_getI (x := S 57 1) C flX1_45 q_s57 rfl dX1_copyFrom_10 rfl ?_
  refine q_put (ty9 := .int) C flX1_45 q_s1 rfl (fun _ _ _ h => by cases h; exact ⟨rfl, by decide +kernel⟩) rfl rfl dX1_copyFrom_13 ?_
  refine q_aload_n C dX1_copyFrom_16 rfl rfl ?_
  refine q_aload_n C dX1_copyFrom_17 rfl rfl ?_
  refine q_getI (x := S 57 2) C flX1_48 q_s57 rfl dX1_copyFrom_18 rfl ?_
  refine q_put (ty9 := .int) C flX1_48 q_s1 rfl (fun _ _ _ h => by cases h; exact ⟨rfl, by decide +kernel⟩) rfl rfl dX1_copyFrom_21 ?_
  refine q_aload_n C dX1_copyFrom_24 rfl rfl ?_
  refine q_aload_n C dX1_copyFrom_25 rfl rfl ?_
  refine q_getI (x := S 57 3) C flX1_51 q_s57 rfl dX1_copyFrom_26 rfl ?_
  refine q_put (ty9 := .int) C flX1_51 q_s1 rfl (fun _ _ _ h => by cases h; exact ⟨rfl, by decide +kernel⟩) rfl rfl dX1_copyFrom_29 ?_
  refine q_aload_n C dX1_copyFrom_32 rfl rfl ?_
  refine q_aload_n C dX1_copyFrom_33 rfl rfl ?_
  refine q_getI (x := S 57 4) C flX1_54 q_s57 rfl dX1_copyFrom_34 rfl ?_
  refine q_put (ty9 := .int) C flX1_54 q_s1 rfl (fun _ _ _ h => by cases h; exact ⟨rfl, by decide +kernel⟩) rfl rfl dX1_copyFrom_37 ?_
  refine q_aload_n C dX1_copyFrom_40 rfl rfl ?_
  refine q_aload_n C dX1_copyFrom_41 rfl rfl ?_
  refine q_getI (x := S 57 5) C flX1_9 q_s57 rfl dX1_copyFrom_42 rfl ?_
  refine q_put (ty9 := .boolean) C flX1_9 q_s1 rfl (fun _ _ _ h => by cases h; exact ⟨rfl, by decide +kernel⟩) (q_narrow_b hz.1) (q_fits_b hz.1) dX1_copyFrom_45 ?_
  refine q_aload_n C dX1_copyFrom_48 rfl rfl ?_
  refine q_getR C flX1_15 q_s57 rfl dX1_copyFrom_49 ?_
  refine q_iconst (v := 0) C dX1_copyFrom_52 (by decide) ?_
  refine q_aload_n C dX1_copyFrom_53 rfl rfl ?_
  refine q_getR C flX1_15 q_s1 rfl dX1_copyFrom_54 ?_
  refine q_iconst (v := 0) C dX1_copyFrom_57 (by decide) ?_
  refine q_bipush (v := 8) C dX1_copyFrom_58 (by decide) ?_
  refine q_copyV (n := 8) (dp := 0) (sp := 0) (f := (va_cpy (S 58) (S 2) 0 0 8)) C q_s58 q_s2  rfl rfl rfl mlX1_57 w_copyN w_copyS w_copyI (by omega) (by omega) (by decide) (by decide) (by decide) (Nat.le_of_ble_eq_true rfl) dX1_copyFrom_60 rfl ?_
  refine q_aload_n C dX1_copyFrom_63 rfl rfl ?_
  refine q_getR C flX1_19 q_s57 rfl dX1_copyFrom_64 ?_
  refine q_iconst (v := 0) C dX1_copyFrom_67 (by decide) ?_
  refine q_aload_n C dX1_copyFrom_68 rfl rfl ?_
  refine q_getR C flX1_19 q_s1 rfl dX1_copyFrom_69 ?_
  refine q_iconst (v := 0) C dX1_copyFrom_72 (by decide) ?_
  refine q_bipush (v := 8) C dX1_copyFrom_73 (by decide) ?_
  refine q_copyV (n := 8) (dp := 0) (sp := 0) (f := (va_cpy (S 59) (S 3) 0 0 8)) C q_s59 q_s3  rfl rfl rfl mlX1_57 w_copyN w_copyS w_copyI (by omega) (by omega) (by decide) (by decide) (by decide) (Nat.le_of_ble_eq_true rfl) dX1_copyFrom_75 rfl ?_
  refine q_aload_n C dX1_copyFrom_78 rfl rfl ?_
  refine q_getR C flX1_22 q_s57 rfl dX1_copyFrom_79 ?_
  refine q_iconst (v := 0) C dX1_copyFrom_82 (by decide) ?_
  refine q_aload_n C dX1_copyFrom_83 rfl rfl ?_
  refine q_getR C flX1_22 q_s1 rfl dX1_copyFrom_84 ?_
  refine q_iconst (v := 0) C dX1_copyFrom_87 (by decide) ?_
  refine q_bipush (v := 8) C dX1_copyFrom_88 (by decide) ?_
  refine q_copyV (n := 8) (dp := 0) (sp := 0) (f := (va_cpy (S 60) (S 4) 0 0 8)) C q_s60 q_s4  rfl rfl rfl mlX1_57 w_copyN w_copyS w_copyI (by omega) (by omega) (by decide) (by decide) (by decide) (Nat.le_of_ble_eq_true rfl) dX1_copyFrom_90 rfl ?_
  refine q_aload_n C dX1_copyFrom_93 rfl rfl ?_
  refine q_getR C flX1_25 q_s57 rfl dX1_copyFrom_94 ?_
  refine q_iconst (v := 0) C dX1_copyFrom_97 (by decide) ?_
  refine q_aload_n C dX1_copyFrom_98 rfl rfl ?_
  refine q_getR C flX1_25 q_s1 rfl dX1_copyFrom_99 ?_
  refine q_iconst (v := 0) C dX1_copyFrom_102 (by decide) ?_
  refine q_bipush (v := 48) C dX1_copyFrom_103 (by decide) ?_
  refine q_copyV (n := 48) (dp := 0) (sp := 0) (f := (va_cpy (S 61) (S 5) 0 0 48)) C q_s61 q_s5  rfl rfl rfl mlX1_57 w_copyN w_copyS w_copyI (by omega) (by omega) (by decide) (by decide) (by decide) (Nat.le_of_ble_eq_true rfl) dX1_copyFrom_105 rfl ?_
  refine q_aload_n C dX1_copyFrom_108 rfl rfl ?_
  refine q_getR C flX1_28 q_s57 rfl dX1_copyFrom_109 ?_
  refine q_iconst (v := 0) C dX1_copyFrom_112 (by decide) ?_
  refine q_aload_n C dX1_copyFrom_113 rfl rfl ?_
  refine q_getR C flX1_28 q_s1 rfl dX1_copyFrom_114 ?_
  refine q_iconst (v := 0) C dX1_copyFrom_117 (by decide) ?_
  refine q_bipush (v := 48) C dX1_copyFrom_118 (by decide) ?_
  refine q_copyV (n := 48) (dp := 0) (sp := 0) (f := (va_cpy (S 62) (S 6) 0 0 48)) C q_s62 q_s6  rfl rfl rfl mlX1_57 w_copyN w_copyS w_copyI (by omega) (by omega) (by decide) (by decide) (by decide) (Nat.le_of_ble_eq_true rfl) dX1_copyFrom_120 rfl ?_
  refine q_aload_n C dX1_copyFrom_123 rfl rfl ?_
  refine q_getR C flX1_31 q_s57 rfl dX1_copyFrom_124 ?_
  refine q_iconst (v := 0) C dX1_copyFrom_127 (by decide) ?_
  refine q_aload_n C dX1_copyFrom_128 rfl rfl ?_
  refine q_getR C flX1_31 q_s1 rfl dX1_copyFrom_129 ?_
  refine q_iconst (v := 0) C dX1_copyFrom_132 (by decide) ?_
  refine q_bipush (v := 6) C dX1_copyFrom_133 (by decide) ?_
  refine q_copyV (n := 6) (dp := 0) (sp := 0) (f := (va_cpy (S 63) (S 7) 0 0 6)) C q_s63 q_s7  rfl rfl rfl mlX1_57 w_copyN w_copyS w_copyI (by omega) (by omega) (by decide) (by decide) (by decide) (Nat.le_of_ble_eq_true rfl) dX1_copyFrom_135 rfl ?_
  refine q_aload_n C dX1_copyFrom_138 rfl rfl ?_
  refine q_getR C flX1_34 q_s57 rfl dX1_copyFrom_139 ?_
  refine q_iconst (v := 0) C dX1_copyFrom_142 (by decide) ?_
  refine q_aload_n C dX1_copyFrom_143 rfl rfl ?_
  refine q_getR C flX1_34 q_s1 rfl dX1_copyFrom_144 ?_
  refine q_iconst (v := 0) C dX1_copyFrom_147 (by decide) ?_
  refine q_bipush (v := 6) C dX1_copyFrom_148 (by decide) ?_
  refine q_copyV (n := 6) (dp := 0) (sp := 0) (f := (va_cpy (S 64) (S 8) 0 0 6)) C q_s64 q_s8  rfl rfl rfl mlX1_57 w_copyN w_copyS w_copyI (by omega) (by omega) (by decide) (by decide) (by decide) (Nat.le_of_ble_eq_true rfl) dX1_copyFrom_150 rfl ?_
  refine q_iconst (v := 0) C dX1_copyFrom_153 (by decide) ?_
  refine q_istore_n (lv' := [(2, .int 0), (0, .ref 1), (1, .ref 57)]) C dX1_copyFrom_154 rfl (by decide) rfl ?_
  have loop_155 : ∀ (n_155 i_155 : Nat), i_155 + n_155 = 6 → q_V l K 155 [(0, .ref 1), (1, .ref 57), (2, .int (nI i_155))] [] (q_u (q_u (q_u (q_u (q_u (q_u (q_u (q_u (q_p (q_p (q_p (q_p (q_p (q_p S 1 0 (S 57 0)) 1 1 (S 57 1)) 1 2 (S 57 2)) 1 3 (S 57 3)) 1 4 (S 57 4)) 1 5 (S 57 5)) 2 (va_cpy (S 58) (S 2) 0 0 8)) 3 (va_cpy (S 59) (S 3) 0 0 8)) 4 (va_cpy (S 60) (S 4) 0 0 8)) 5 (va_cpy (S 61) (S 5) 0 0 48)) 6 (va_cpy (S 62) (S 6) 0 0 48)) 7 (va_cpy (S 63) (S 7) 0 0 6)) 8 (va_cpy (S 64) (S 8) 0 0 6)) 9 (va_cpy (S 65) (S 9) 0 0 i_155)) := by
    intro n_155
    induction n_155 with
    | zero =>
      intro i_155 hi_155
      have e_155 : i_155 = 6 := by omega
      refine q_iload_n C dX1_copyFrom_155 rfl rfl ?_
      refine q_bipush (v := 6) C dX1_copyFrom_156 (by decide) ?_
      refine q_icmp_geN (a := i_155) (b := 6) (tgt := 179) C dX1_copyFrom_158 (by decide) rfl rfl (by omega) (by omega) (fun c_158 => ?_) (fun c_158 => absurd c_158 (by omega))
      exact hret _ _ _ dX1_copyFrom_179 (by rw [e_155]; exact q_cp_eq S 1 57)
    | succ n_155 ih_155 =>
      intro i_155 hi_155
      refine q_iload_n C dX1_copyFrom_155 rfl rfl ?_
      refine q_bipush (v := 6) C dX1_copyFrom_156 (by decide) ?_
      refine q_icmp_geN (a := i_155) (b := 6) (tgt := 179) C dX1_copyFrom_158 (by decide) rfl rfl (by omega) (by omega) (fun c_158 => absurd c_158 (by omega)) (fun c_158 => ?_)
      refine q_aload_n C dX1_copyFrom_161 rfl rfl ?_
      refine q_getR C flX1_37 q_s1 rfl dX1_copyFrom_162 ?_
      refine q_iload_n C dX1_copyFrom_165 rfl rfl ?_
      refine q_aload_n C dX1_copyFrom_166 rfl rfl ?_
      refine q_getR C flX1_37 q_s57 rfl dX1_copyFrom_167 ?_
      refine q_iload_n C dX1_copyFrom_170 rfl rfl ?_
      refine q_zaldN (i := i_155) (x := S 65 i_155) C rfl q_s65 (by omega) (by decide) dX1_copyFrom_171 rfl ?_
      refine q_zastV (i := i_155) (v := S 65 i_155) C rfl q_s9 (by omega) (by decide) dX1_copyFrom_172 (q_nar_b (hz.2 _ (by omega))) ?_
      refine q_iinc (v := nI (i_155 + 1)) (lv' := [(2, .int (nI (i_155 + 1))), (0, .ref 1), (1, .ref 57)]) C dX1_copyFrom_173 rfl (nI_add _ _) (by decide) rfl ?_
      refine q_goto (tgt := 155) C dX1_copyFrom_176 (by decide) ?_
      exact q_V_to (ih_155 (i_155 + 1) (by omega)) ⟨rfl, rfl, rfl, trivial⟩ (q_u_s _ _ _ _ _)
  exact q_V_to (loop_155 (6 - 0) 0 (by omega)) ⟨rfl, rfl, rfl, trivial⟩ (q_u_0 _ _ _)
theorem c_X1_copy_1_66 (l : Launch) (S : q_St) (hz : q_bool S 66) : q_Fv l yX1_copyFrom kX1_copyFrom 1 [.ref 1, .ref 66] S (q_cp S 1 66) := by
  refine q_Fv_of (maxL := 3) rfl (by decide +kernel) (fun ad => Nat.le_of_ble_eq_true rfl) ?_
  intro K C hret
  have C : q_Cx K cX1_copyFrom RX1 1 3 := C
  show q_V l K 0 [(0, .ref 1), (1, .ref 66)] [] S
  refine q_aload_n C dX1_copyFrom_0 rfl rfl ?_
  refine q_aload_n C dX1_copyFrom_1 rfl rfl ?_
  refine q_getI (x := S 66 0) C flX1_41 q_s66 rfl dX1_copyFrom_2 rfl ?_
  refine q_put (ty9 := .int) C flX1_41 q_s1 rfl (fun _ _ _ h => by cases h; exact ⟨rfl, by decide +kernel⟩) rfl rfl dX1_copyFrom_5 ?_
  refine q_aload_n C dX1_copyFrom_8 rfl rfl ?_
  refine q_aload_n C dX1_copyFrom_9 rfl rfl ?_
  refine q_getI (x := S 66 1) C flX1_45 q_s66 rfl dX1_copyFrom_10 rfl ?_
  refine q_put (ty9 := .int) C flX1_45 q_s1 rfl (fun _ _ _ h => by cases h; exact ⟨rfl, by decide +kernel⟩) rfl rfl dX1_copyFrom_13 ?_
  refine q_aload_n C dX1_copyFrom_16 rfl rfl ?_
  refine q_aload_n C dX1_copyFrom_17 rfl rfl ?_
  refine q_getI (x := S 66 2) C flX1_48 q_s66 rfl dX1_copyFrom_18 rfl ?_
  refine q_put (ty9 := .int) C flX1_48 q_s1 rfl (fun _ _ _ h => by cases h; exact ⟨rfl, by decide +kernel⟩) rfl rfl dX1_copyFrom_21 ?_
  refine q_aload_n C dX1_copyFrom_24 rfl rfl ?_
  refine q_aload_n C dX1_copyFrom_25 rfl rfl ?_
  refine q_getI (x := S 66 3) C flX1_51 q_s66 rfl dX1_copyFrom_26 rfl ?_
  refine q_put (ty9 := .int) C flX1_51 q_s1 rfl (fun _ _ _ h => by cases h; exact ⟨rfl, by decide +kernel⟩) rfl rfl dX1_copyFrom_29 ?_
  refine q_aload_n C dX1_copyFrom_32 rfl rfl ?_
  refine q_aload_n C dX1_copyFrom_33 rfl rfl ?_
  refine q_getI (x := S 66 4) C flX1_54 q_s66 rfl dX1_copyFrom_34 rfl ?_
  refine q_put (ty9 := .int) C flX1_54 q_s1 rfl (fun _ _ _ h => by cases h; exact ⟨rfl, by decide +kernel⟩) rfl rfl dX1_copyFrom_37 ?_
  refine q_aload_n C dX1_copyFrom_40 rfl rfl ?_
  refine q_aload_n C dX1_copyFrom_41 rfl rfl ?_
  refine q_getI (x := S 66 5) C flX1_9 q_s66 rfl dX1_copyFrom_42 rfl ?_
  refine q_put (ty9 := .boolean) C flX1_9 q_s1 rfl (fun _ _ _ h => by cases h; exact ⟨rfl, by decide +kernel⟩) (q_narrow_b hz.1) (q_fits_b hz.1) dX1_copyFrom_45 ?_
  refine q_aload_n C dX1_copyFrom_48 rfl rfl ?_
  refine q_getR C flX1_15 q_s66 rfl dX1_copyFrom_49 ?_
  refine q_iconst (v := 0) C dX1_copyFrom_52 (by decide) ?_
  refine q_aload_n C dX1_copyFrom_53 rfl rfl ?_
  refine q_getR C flX1_15 q_s1 rfl dX1_copyFrom_54 ?_
  refine q_iconst (v := 0) C dX1_copyFrom_57 (by decide) ?_
  refine q_bipush (v := 8) C dX1_copyFrom_58 (by decide) ?_
  refine q_copyV (n := 8) (dp := 0) (sp := 0) (f := (va_cpy (S 67) (S 2) 0 0 8)) C q_s67 q_s2  rfl rfl rfl mlX1_57 w_copyN w_copyS w_copyI (by omega) (by omega) (by decide) (by decide) (by decide) (Nat.le_of_ble_eq_true rfl) dX1_copyFrom_60 rfl ?_
  refine q_aload_n C dX1_copyFrom_63 rfl rfl ?_
  refine q_getR C flX1_19 q_s66 rfl dX1_copyFrom_64 ?_
  refine q_iconst (v := 0) C dX1_copyFrom_67 (by decide) ?_
  refine q_aload_n C dX1_copyFrom_68 rfl rfl ?_
  refine q_getR C flX1_19 q_s1 rfl dX1_copyFrom_69 ?_
  refine q_iconst (v := 0) C dX1_copyFrom_72 (by decide) ?_
  refine q_bipush (v := 8) C dX1_copyFrom_73 (by decide) ?_
  refine q_copyV (n := 8) (dp := 0) (sp := 0) (f := (va_cpy (S 68) (S 3) 0 0 8)) C q_s68 q_s3  rfl rfl rfl mlX1_57 w_copyN w_copyS w_copyI (by omega) (by omega) (by decide) (by decide) (by decide) (Nat.le_of_ble_eq_true rfl) dX1_copyFrom_75 rfl ?_
  refine q_aload_n C dX1_copyFrom_78 rfl rfl ?_
  refine q_getR C flX1_22 q_s66 rfl dX1_copyFrom_79 ?_
  refine q_iconst (v := 0) C dX1_copyFrom_82 (by decide) ?_
  refine q_aload_n C dX1_copyFrom_83 rfl rfl ?_
  refine q_getR C flX1_22 q_s1 rfl dX1_copyFrom_84 ?_
  refine q_iconst (v := 0) C dX1_copyFrom_87 (by decide) ?_
  refine q_bipush (v := 8) C dX1_copyFrom_88 (by decide) ?_
  refine q_copyV (n := 8) (dp := 0) (sp := 0) (f := (va_cpy (S 69) (S 4) 0 0 8)) C q_s69 q_s4  rfl rfl rfl mlX1_57 w_copyN w_copyS w_copyI (by omega) (by omega) (by decide) (by decide) (by decide) (Nat.le_of_ble_eq_true rfl) dX1_copyFrom_90 rfl ?_
  refine q_aload_n C dX1_copyFrom_93 rfl rfl ?_
  refine q_getR C flX1_25 q_s66 rfl dX1_copyFrom_94 ?_
  refine q_iconst (v := 0) C dX1_copyFrom_97 (by decide) ?_
  refine q_aload_n C dX1_copyFrom_98 rfl rfl ?_
  refine q_getR C flX1_25 q_s1 rfl dX1_copyFrom_99 ?_
  refine q_iconst (v := 0) C dX1_copyFrom_102 (by decide) ?_
  refine q_bipush (v := 48) C dX1_copyFrom_103 (by decide) ?_
  refine q_copyV (n := 48) (dp := 0) (sp := 0) (f := (va_cpy (S 70) (S 5) 0 0 48)) C q_s70 q_s5  rfl rfl rfl mlX1_57 w_copyN w_copyS w_copyI (by omega) (by omega) (by decide) (by decide) (by decide) (Nat.le_of_ble_eq_true rfl) dX1_copyFrom_105 rfl ?_
  refine q_aload_n C dX1_copyFrom_108 rfl rfl ?_
  refine q_getR C flX1_28 q_s66 rfl dX1_copyFrom_109 ?_
  refine q_iconst (v := 0) C dX1_copyFrom_112 (by decide) ?_
  refine q_aload_n C dX1_copyFrom_113 rfl rfl ?_
  refine q_getR C flX1_28 q_s1 rfl dX1_copyFrom_114 ?_
  refine q_iconst (v := 0) C dX1_copyFrom_117 (by decide) ?_
  refine q_bipush (v := 48) C dX1_copyFrom_118 (by decide) ?_
  refine q_copyV (n := 48) (dp := 0) (sp := 0) (f := (va_cpy (S 71) (S 6) 0 0 48)) C q_s71 q_s6  rfl rfl rfl mlX1_57 w_copyN w_copyS w_copyI (by omega) (by omega) (by decide) (by decide) (by decide) (Nat.le_of_ble_eq_true rfl) dX1_copyFrom_120 rfl ?_
  refine q_aload_n C dX1_copyFrom_123 rfl rfl ?_
  refine q_getR C flX1_31 q_s66 rfl dX1_copyFrom_124 ?_
  refine q_iconst (v := 0) C dX1_copyFrom_127 (by decide) ?_
  refine q_aload_n C dX1_copyFrom_128 rfl rfl ?_
  refine q_getR C flX1_31 q_s1 rfl dX1_copyFrom_129 ?_
  refine q_iconst (v := 0) C dX1_copyFrom_132 (by decide) ?_
  refine q_bipush (v := 6) C dX1_copyFrom_133 (by decide) ?_
  refine q_copyV (n := 6) (dp := 0) (sp := 0) (f := (va_cpy (S 72) (S 7) 0 0 6)) C q_s72 q_s7  rfl rfl rfl mlX1_57 w_copyN w_copyS w_copyI (by omega) (by omega) (by decide) (by decide) (by decide) (Nat.le_of_ble_eq_true rfl) dX1_copyFrom_135 rfl ?_
  refine q_aload_n C dX1_copyFrom_138 rfl rfl ?_
  refine q_getR C flX1_34 q_s66 rfl dX1_copyFrom_139 ?_
  refine q_iconst (v := 0) C dX1_copyFrom_142 (by decide) ?_
  refine q_aload_n C dX1_copyFrom_143 rfl rfl ?_
  refine q_getR C flX1_34 q_s1 rfl dX1_copyFrom_144 ?_
  refine q_iconst (v := 0) C dX1_copyFrom_147 (by decide) ?_
  refine q_bipush (v := 6) C dX1_copyFrom_148 (by decide) ?_
  refine q_copyV (n := 6) (dp := 0) (sp := 0) (f := (va_cpy (S 73) (S 8) 0 0 6)) C q_s73 q_s8  rfl rfl rfl mlX1_57 w_copyN w_copyS w_copyI (by omega) (by omega) (by decide) (by decide) (by decide) (Nat.le_of_ble_eq_true rfl) dX1_copyFrom_150 rfl ?_
  refine q_iconst (v := 0) C dX1_copyFrom_153 (by decide) ?_
  refine q_istore_n (lv' := [(2, .int 0), (0, .ref 1), (1, .ref 66)]) C dX1_copyFrom_154 rfl (by decide) rfl ?_
  have loop_155 : ∀ (n_155 i_155 : Nat), i_155 + n_155 = 6 → q_V l K 155 [(0, .ref 1), (1, .ref 66), (2, .int (nI i_155))] [] (q_u (q_u (q_u (q_u (q_u (q_u (q_u (q_u (q_p (q_p (q_p (q_p (q_p (q_p S 1 0 (S 66 0)) 1 1 (S 66 1)) 1 2 (S 66 2)) 1 3 (S 66 3)) 1 4 (S 66 4)) 1 5 (S 66 5)) 2 (va_cpy (S 67) (S 2) 0 0 8)) 3 (va_cpy (S 68) (S 3) 0 0 8)) 4 (va_cpy (S 69) (S 4) 0 0 8)) 5 (va_cpy (S 70) (S 5) 0 0 48)) 6 (va_cpy (S 71) (S 6) 0 0 48)) 7 (va_cpy (S 72) (S 7) 0 0 6)) 8 (va_cpy (S 73) (S 8) 0 0 6)) 9 (va_cpy (S 74) (S 9) 0 0 i_155)) := by
    intro n_155
    induction n_155 with
    | zero =>
      intro i_155 hi_155
      have e_155 : i_155 = 6 := by omega
      refine q_iload_n C dX1_copyFrom_155 rfl rfl ?_
      refine q_bipush (v := 6) C dX1_copyFrom_156 (by decide) ?_
      refine q_icmp_geN (a := i_155) (b := 6) (tgt := 179) C dX1_copyFrom_158 (by decide) rfl rfl (by omega) (by omega) (fun c_158 => ?_) (fun c_158 => absurd c_158 (by omega))
      exact hret _ _ _ dX1_copyFrom_179 (by rw [e_155]; exact q_cp_eq S 1 66)
    | succ n_155 ih_155 =>
      intro i_155 hi_155
      refine q_iload_n C dX1_copyFrom_155 rfl rfl ?_
      refine q_bipush (v := 6) C dX1_copyFrom_156 (by decide) ?_
      refine q_icmp_geN (a := i_155) (b := 6) (tgt := 179) C dX1_copyFrom_158 (by decide) rfl rfl (by omega) (by omega) (fun c_158 => absurd c_158 (by omega)) (fun c_158 => ?_)
      refine q_aload_n C dX1_copyFrom_161 rfl rfl ?_
      refine q_getR C flX1_37 q_s1 rfl dX1_copyFrom_162 ?_
      refine q_iload_n C dX1_copyFrom_165 rfl rfl ?_
      refine q_aload_n C dX1_copyFrom_166 rfl rfl ?_
      refine q_getR C flX1_37 q_s66 rfl dX1_copyFrom_167 ?_
      refine q_iload_n C dX1_copyFrom_170 rfl rfl ?_
      refine q_zaldN (i := i_155) (x := S 74 i_155) C rfl q_s74 (by omega) (by decide) dX1_copyFrom_171 rfl ?_
      refine q_zastV (i := i_155) (v := S 74 i_155) C rfl q_s9 (by omega) (by decide) dX1_copyFrom_172 (q_nar_b (hz.2 _ (by omega))) ?_
      refine q_iinc (v := nI (i_155 + 1)) (lv' := [(2, .int (nI (i_155 + 1))), (0, .ref 1), (1, .ref 66)]) C dX1_copyFrom_173 rfl (nI_add _ _) (by decide) rfl ?_
      refine q_goto (tgt := 155) C dX1_copyFrom_176 (by decide) ?_
      exact q_V_to (ih_155 (i_155 + 1) (by omega)) ⟨rfl, rfl, rfl, trivial⟩ (q_u_s _ _ _ _ _)
  exact q_V_to (loop_155 (6 - 0) 0 (by omega)) ⟨rfl, rfl, rfl, trivial⟩ (q_u_0 _ _ _)
theorem c_X1_copy_1_75 (l : Launch) (S : q_St) (hz : q_bool S 75) : q_Fv l yX1_copyFrom kX1_copyFrom 1 [.ref 1, .ref 75] S (q_cp S 1 75) := by
  refine q_Fv_of (maxL := 3) rfl (by decide +kernel) (fun ad => Nat.le_of_ble_eq_true rfl) ?_
  intro K C hret
  have C : q_Cx K cX1_copyFrom RX1 1 3 := C
  show q_V l K 0 [(0, .ref 1), (1, .ref 75)] [] S
  refine q_aload_n C dX1_copyFrom_0 rfl rfl ?_
  refine q_aload_n C dX1_copyFrom_1 rfl rfl ?_
  refine q_getI (x := S 75 0) C flX1_41 q_s75 rfl dX1_copyFrom_2 rfl ?_
  refine q_put (ty9 := .int) C flX1_41 q_s1 rfl (fun _ _ _ h => by cases h; exact ⟨rfl, by decide +kernel⟩) rfl rfl dX1_copyFrom_5 ?_
  refine q_aload_n C dX1_copyFrom_8 rfl rfl ?_
  refine q_aload_n C dX1_copyFrom_9 rfl rfl ?_
  refine q_getI (x := S 75 1) C flX1_45 q_s75 rfl dX1_copyFrom_10 rfl ?_
  refine q_put (ty9 := .int) C flX1_45 q_s1 rfl (fun _ _ _ h => by cases h; exact ⟨rfl, by decide +kernel⟩) rfl rfl dX1_copyFrom_13 ?_
  refine q_aload_n C dX1_copyFrom_16 rfl rfl ?_
  refine q_aload_n C dX1_copyFrom_17 rfl rfl ?_
  refine q_getI (x := S 75 2) C flX1_48 q_s75 rfl dX1_copyFrom_18 rfl ?_
  refine q_put (ty9 := .int) C flX1_48 q_s1 rfl (fun _ _ _ h => by cases h; exact ⟨rfl, by decide +kernel⟩) rfl rfl dX1_copyFrom_21 ?_
  refine q_aload_n C dX1_copyFrom_24 rfl rfl ?_
  refine q_aload_n C dX1_copyFrom_25 rfl rfl ?_
  refine q_getI (x := S 75 3) C flX1_51 q_s75 rfl dX1_copyFrom_26 rfl ?_
  refine q_put (ty9 := .int) C flX1_51 q_s1 rfl (fun _ _ _ h => by cases h; exact ⟨rfl, by decide +kernel⟩) rfl rfl dX1_copyFrom_29 ?_
  refine q_aload_n C dX1_copyFrom_32 rfl rfl ?_
  refine q_aload_n C dX1_copyFrom_33 rfl rfl ?_
  refine q_getI (x := S 75 4) C flX1_54 q_s75 rfl dX1_copyFrom_34 rfl ?_
  refine q_put (ty9 := .int) C flX1_54 q_s1 rfl (fun _ _ _ h => by cases h; exact ⟨rfl, by decide +kernel⟩) rfl rfl dX1_copyFrom_37 ?_
  refine q_aload_n C dX1_copyFrom_40 rfl rfl ?_
  refine q_aload_n C dX1_copyFrom_41 rfl rfl ?_
  refine q_getI (x := S 75 5) C flX1_9 q_s75 rfl dX1_copyFrom_42 rfl ?_
  refine q_put (ty9 := .boolean) C flX1_9 q_s1 rfl (fun _ _ _ h => by cases h; exact ⟨rfl, by decide +kernel⟩) (q_narrow_b hz.1) (q_fits_b hz.1) dX1_copyFrom_45 ?_
  refine q_aload_n C dX1_copyFrom_48 rfl rfl ?_
  refine q_getR C flX1_15 q_s75 rfl dX1_copyFrom_49 ?_
  refine q_iconst (v := 0) C dX1_copyFrom_52 (by decide) ?_
  refine q_aload_n C dX1_copyFrom_53 rfl rfl ?_
  refine q_getR C flX1_15 q_s1 rfl dX1_copyFrom_54 ?_
  refine q_iconst (v := 0) C dX1_copyFrom_57 (by decide) ?_
  refine q_bipush (v := 8) C dX1_copyFrom_58 (by decide) ?_
  refine q_copyV (n := 8) (dp := 0) (sp := 0) (f := (va_cpy (S 76) (S 2) 0 0 8)) C q_s76 q_s2  rfl rfl rfl mlX1_57 w_copyN w_copyS w_copyI (by omega) (by omega) (by decide) (by decide) (by decide) (Nat.le_of_ble_eq_true rfl) dX1_copyFrom_60 rfl ?_
  refine q_aload_n C dX1_copyFrom_63 rfl rfl ?_
  refine q_getR C flX1_19 q_s75 rfl dX1_copyFrom_64 ?_
  refine q_iconst (v := 0) C dX1_copyFrom_67 (by decide) ?_
  refine q_aload_n C dX1_copyFrom_68 rfl rfl ?_
  refine q_getR C flX1_19 q_s1 rfl dX1_copyFrom_69 ?_
  refine q_iconst (v := 0) C dX1_copyFrom_72 (by decide) ?_
  refine q_bipush (v := 8) C dX1_copyFrom_73 (by decide) ?_
  refine q_copyV (n := 8) (dp := 0) (sp := 0) (f := (va_cpy (S 77) (S 3) 0 0 8)) C q_s77 q_s3  rfl rfl rfl mlX1_57 w_copyN w_copyS w_copyI (by omega) (by omega) (by decide) (by decide) (by decide) (Nat.le_of_ble_eq_true rfl) dX1_copyFrom_75 rfl ?_
  refine q_aload_n C dX1_copyFrom_78 rfl rfl ?_
  refine q_getR C flX1_22 q_s75 rfl dX1_copyFrom_79 ?_
  refine q_iconst (v := 0) C dX1_copyFrom_82 (by decide) ?_
  refine q_aload_n C dX1_copyFrom_83 rfl rfl ?_
  refine q_getR C flX1_22 q_s1 rfl dX1_copyFrom_84 ?_
  refine q_iconst (v := 0) C dX1_copyFrom_87 (by decide) ?_
  refine q_bipush (v := 8) C dX1_copyFrom_88 (by decide) ?_
  refine q_copyV (n := 8) (dp := 0) (sp := 0) (f := (va_cpy (S 78) (S 4) 0 0 8)) C q_s78 q_s4  rfl rfl rfl mlX1_57 w_copyN w_copyS w_copyI (by omega) (by omega) (by decide) (by decide) (by decide) (Nat.le_of_ble_eq_true rfl) dX1_copyFrom_90 rfl ?_
  refine q_aload_n C dX1_copyFrom_93 rfl rfl ?_
  refine q_getR C flX1_25 q_s75 rfl dX1_copyFrom_94 ?_
  refine q_iconst (v := 0) C dX1_copyFrom_97 (by decide) ?_
  refine q_aload_n C dX1_copyFrom_98 rfl rfl ?_
  refine q_getR C flX1_25 q_s1 rfl dX1_copyFrom_99 ?_
  refine q_iconst (v := 0) C dX1_copyFrom_102 (by decide) ?_
  refine q_bipush (v := 48) C dX1_copyFrom_103 (by decide) ?_
  refine q_copyV (n := 48) (dp := 0) (sp := 0) (f := (va_cpy (S 79) (S 5) 0 0 48)) C q_s79 q_s5  rfl rfl rfl mlX1_57 w_copyN w_copyS w_copyI (by omega) (by omega) (by decide) (by decide) (by decide) (Nat.le_of_ble_eq_true rfl) dX1_copyFrom_105 rfl ?_
  refine q_aload_n C dX1_copyFrom_108 rfl rfl ?_
  refine q_getR C flX1_28 q_s75 rfl dX1_copyFrom_109 ?_
  refine q_iconst (v := 0) C dX1_copyFrom_112 (by decide) ?_
  refine q_aload_n C dX1_copyFrom_113 rfl rfl ?_
  refine q_getR C flX1_28 q_s1 rfl dX1_copyFrom_114 ?_
  refine q_iconst (v := 0) C dX1_copyFrom_117 (by decide) ?_
  refine q_bipush (v := 48) C dX1_copyFrom_118 (by decide) ?_
  refine q_copyV (n := 48) (dp := 0) (sp := 0) (f := (va_cpy (S 80) (S 6) 0 0 48)) C q_s80 q_s6  rfl rfl rfl mlX1_57 w_copyN w_copyS w_copyI (by omega) (by omega) (by decide) (by decide) (by decide) (Nat.le_of_ble_eq_true rfl) dX1_copyFrom_120 rfl ?_
  refine q_aload_n C dX1_copyFrom_123 rfl rfl ?_
  refine q_getR C flX1_31 q_s75 rfl dX1_copyFrom_124 ?_
  refine q_iconst (v := 0) C dX1_copyFrom_127 (by decide) ?_
  refine q_aload_n C dX1_copyFrom_128 rfl rfl ?_
  refine q_getR C flX1_31 q_s1 rfl dX1_copyFrom_129 ?_
  refine q_iconst (v := 0) C dX1_copyFrom_132 (by decide) ?_
  refine q_bipush (v := 6) C dX1_copyFrom_133 (by decide) ?_
  refine q_copyV (n := 6) (dp := 0) (sp := 0) (f := (va_cpy (S 81) (S 7) 0 0 6)) C q_s81 q_s7  rfl rfl rfl mlX1_57 w_copyN w_copyS w_copyI (by omega) (by omega) (by decide) (by decide) (by decide) (Nat.le_of_ble_eq_true rfl) dX1_copyFrom_135 rfl ?_
  refine q_aload_n C dX1_copyFrom_138 rfl rfl ?_
  refine q_getR C flX1_34 q_s75 rfl dX1_copyFrom_139 ?_
  refine q_iconst (v := 0) C dX1_copyFrom_142 (by decide) ?_
  refine q_aload_n C dX1_copyFrom_143 rfl rfl ?_
  refine q_getR C flX1_34 q_s1 rfl dX1_copyFrom_144 ?_
  refine q_iconst (v := 0) C dX1_copyFrom_147 (by decide) ?_
  refine q_bipush (v := 6) C dX1_copyFrom_148 (by decide) ?_
  refine q_copyV (n := 6) (dp := 0) (sp := 0) (f := (va_cpy (S 82) (S 8) 0 0 6)) C q_s82 q_s8  rfl rfl rfl mlX1_57 w_copyN w_copyS w_copyI (by omega) (by omega) (by decide) (by decide) (by decide) (Nat.le_of_ble_eq_true rfl) dX1_copyFrom_150 rfl ?_
  refine q_iconst (v := 0) C dX1_copyFrom_153 (by decide) ?_
  refine q_istore_n (lv' := [(2, .int 0), (0, .ref 1), (1, .ref 75)]) C dX1_copyFrom_154 rfl (by decide) rfl ?_
  have loop_155 : ∀ (n_155 i_155 : Nat), i_155 + n_155 = 6 → q_V l K 155 [(0, .ref 1), (1, .ref 75), (2, .int (nI i_155))] [] (q_u (q_u (q_u (q_u (q_u (q_u (q_u (q_u (q_p (q_p (q_p (q_p (q_p (q_p S 1 0 (S 75 0)) 1 1 (S 75 1)) 1 2 (S 75 2)) 1 3 (S 75 3)) 1 4 (S 75 4)) 1 5 (S 75 5)) 2 (va_cpy (S 76) (S 2) 0 0 8)) 3 (va_cpy (S 77) (S 3) 0 0 8)) 4 (va_cpy (S 78) (S 4) 0 0 8)) 5 (va_cpy (S 79) (S 5) 0 0 48)) 6 (va_cpy (S 80) (S 6) 0 0 48)) 7 (va_cpy (S 81) (S 7) 0 0 6)) 8 (va_cpy (S 82) (S 8) 0 0 6)) 9 (va_cpy (S 83) (S 9) 0 0 i_155)) := by
    intro n_155
    induction n_155 with
    | zero =>
      intro i_155 hi_155
      have e_155 : i_155 = 6 := by omega
      refine q_iload_n C dX1_copyFrom_155 rfl rfl ?_
      refine q_bipush (v := 6) C dX1_copyFrom_156 (by decide) ?_
      refine q_icmp_geN (a := i_155) (b := 6) (tgt := 179) C dX1_copyFrom_158 (by decide) rfl rfl (by omega) (by omega) (fun c_158 => ?_) (fun c_158 => absurd c_158 (by omega))
      exact hret _ _ _ dX1_copyFrom_179 (by rw [e_155]; exact q_cp_eq S 1 75)
    | succ n_155 ih_155 =>
      intro i_155 hi_155
      refine q_iload_n C dX1_copyFrom_155 rfl rfl ?_
      refine q_bipush (v := 6) C dX1_copyFrom_156 (by decide) ?_
      refine q_icmp_geN (a := i_155) (b := 6) (tgt := 179) C dX1_copyFrom_158 (by decide) rfl rfl (by omega) (by omega) (fun c_158 => absurd c_158 (by omega)) (fun c_158 => ?_)
      refine q_aload_n C dX1_copyFrom_161 rfl rfl ?_
      refine q_getR C flX1_37 q_s1 rfl dX1_copyFrom_162 ?_
      refine q_iload_n C dX1_copyFrom_165 rfl rfl ?_
      refine q_aload_n C dX1_copyFrom_166 rfl rfl ?_
      refine q_getR C flX1_37 q_s75 rfl dX1_copyFrom_167 ?_
      refine q_iload_n C dX1_copyFrom_170 rfl rfl ?_
      refine q_zaldN (i := i_155) (x := S 83 i_155) C rfl q_s83 (by omega) (by decide) dX1_copyFrom_171 rfl ?_
      refine q_zastV (i := i_155) (v := S 83 i_155) C rfl q_s9 (by omega) (by decide) dX1_copyFrom_172 (q_nar_b (hz.2 _ (by omega))) ?_
      refine q_iinc (v := nI (i_155 + 1)) (lv' := [(2, .int (nI (i_155 + 1))), (0, .ref 1), (1, .ref 75)]) C dX1_copyFrom_173 rfl (nI_add _ _) (by decide) rfl ?_
      refine q_goto (tgt := 155) C dX1_copyFrom_176 (by decide) ?_
      exact q_V_to (ih_155 (i_155 + 1) (by omega)) ⟨rfl, rfl, rfl, trivial⟩ (q_u_s _ _ _ _ _)
  exact q_V_to (loop_155 (6 - 0) 0 (by omega)) ⟨rfl, rfl, rfl, trivial⟩ (q_u_0 _ _ _)
theorem c_X1_copy_1_84 (l : Launch) (S : q_St) (hz : q_bool S 84) : q_Fv l yX1_copyFrom kX1_copyFrom 1 [.ref 1, .ref 84] S (q_cp S 1 84) := by
  refine q_Fv_of (maxL := 3) rfl (by decide +kernel) (fun ad => Nat.le_of_ble_eq_true rfl) ?_
  intro K C hret
  have C : q_Cx K cX1_copyFrom RX1 1 3 := C
  show q_V l K 0 [(0, .ref 1), (1, .ref 84)] [] S
  refine q_aload_n C dX1_copyFrom_0 rfl rfl ?_
  refine q_aload_n C dX1_copyFrom_1 rfl rfl ?_
  refine q_getI (x := S 84 0) C flX1_41 q_s84 rfl dX1_copyFrom_2 rfl ?_
  refine q_put (ty9 := .int) C flX1_41 q_s1 rfl (fun _ _ _ h => by cases h; exact ⟨rfl, by decide +kernel⟩) rfl rfl dX1_copyFrom_5 ?_
  refine q_aload_n C dX1_copyFrom_8 rfl rfl ?_
  refine q_aload_n C dX1_copyFrom_9 rfl rfl ?_
  refine q_getI (x := S 84 1) C flX1_45 q_s84 rfl dX1_copyFrom_10 rfl ?_
  refine q_put (ty9 := .int) C flX1_45 q_s1 rfl (fun _ _ _ h => by cases h; exact ⟨rfl, by decide +kernel⟩) rfl rfl dX1_copyFrom_13 ?_
  refine q_aload_n C dX1_copyFrom_16 rfl rfl ?_
  refine q_aload_n C dX1_copyFrom_17 rfl rfl ?_
  refine q_getI (x := S 84 2) C flX1_48 q_s84 rfl dX1_copyFrom_18 rfl ?_
  refine q_put (ty9 := .int) C flX1_48 q_s1 rfl (fun _ _ _ h => by cases h; exact ⟨rfl, by decide +kernel⟩) rfl rfl dX1_copyFrom_21 ?_
  refine q_aload_n C dX1_copyFrom_24 rfl rfl ?_
  refine q_aload_n C dX1_copyFrom_25 rfl rfl ?_
  refine q_getI (x := S 84 3) C flX1_51 q_s84 rfl dX1_copyFrom_26 rfl ?_
  refine q_put (ty9 := .int) C flX1_51 q_s1 rfl (fun _ _ _ h => by cases h; exact ⟨rfl, by decide +kernel⟩) rfl rfl dX1_copyFrom_29 ?_
  refine q_aload_n C dX1_copyFrom_32 rfl rfl ?_
  refine q_aload_n C dX1_copyFrom_33 rfl rfl ?_
  refine q_getI (x := S 84 4) C flX1_54 q_s84 rfl dX1_copyFrom_34 rfl ?_
  refine q_put (ty9 := .int) C flX1_54 q_s1 rfl (fun _ _ _ h => by cases h; exact ⟨rfl, by decide +kernel⟩) rfl rfl dX1_copyFrom_37 ?_
  refine q_aload_n C dX1_copyFrom_40 rfl rfl ?_
  refine q_aload_n C dX1_copyFrom_41 rfl rfl ?_
  refine q_getI (x := S 84 5) C flX1_9 q_s84 rfl dX1_copyFrom_42 rfl ?_
  refine q_put (ty9 := .boolean) C flX1_9 q_s1 rfl (fun _ _ _ h => by cases h; exact ⟨rfl, by decide +kernel⟩) (q_narrow_b hz.1) (q_fits_b hz.1) dX1_copyFrom_45 ?_
  refine q_aload_n C dX1_copyFrom_48 rfl rfl ?_
  refine q_getR C flX1_15 q_s84 rfl dX1_copyFrom_49 ?_
  refine q_iconst (v := 0) C dX1_copyFrom_52 (by decide) ?_
  refine q_aload_n C dX1_copyFrom_53 rfl rfl ?_
  refine q_getR C flX1_15 q_s1 rfl dX1_copyFrom_54 ?_
  refine q_iconst (v := 0) C dX1_copyFrom_57 (by decide) ?_
  refine q_bipush (v := 8) C dX1_copyFrom_58 (by decide) ?_
  refine q_copyV (n := 8) (dp := 0) (sp := 0) (f := (va_cpy (S 85) (S 2) 0 0 8)) C q_s85 q_s2  rfl rfl rfl mlX1_57 w_copyN w_copyS w_copyI (by omega) (by omega) (by decide) (by decide) (by decide) (Nat.le_of_ble_eq_true rfl) dX1_copyFrom_60 rfl ?_
  refine q_aload_n C dX1_copyFrom_63 rfl rfl ?_
  refine q_getR C flX1_19 q_s84 rfl dX1_copyFrom_64 ?_
  refine q_iconst (v := 0) C dX1_copyFrom_67 (by decide) ?_
  refine q_aload_n C dX1_copyFrom_68 rfl rfl ?_
  refine q_getR C flX1_19 q_s1 rfl dX1_copyFrom_69 ?_
  refine q_iconst (v := 0) C dX1_copyFrom_72 (by decide) ?_
  refine q_bipush (v := 8) C dX1_copyFrom_73 (by decide) ?_
  refine q_copyV (n := 8) (dp := 0) (sp := 0) (f := (va_cpy (S 86) (S 3) 0 0 8)) C q_s86 q_s3  rfl rfl rfl mlX1_57 w_copyN w_copyS w_copyI (by omega) (by omega) (by decide) (by decide) (by decide) (Nat.le_of_ble_eq_true rfl) dX1_copyFrom_75 rfl ?_
  refine q_aload_n C dX1_copyFrom_78 rfl rfl ?_
  refine q_getR C flX1_22 q_s84 rfl dX1_copyFrom_79 ?_
  refine q_iconst (v := 0) C dX1_copyFrom_82 (by decide) ?_
  refine q_aload_n C dX1_copyFrom_83 rfl rfl ?_
  refine q_getR C flX1_22 q_s1 rfl dX1_copyFrom_84 ?_
  refine q_iconst (v := 0) C dX1_copyFrom_87 (by decide) ?_
  refine q_bipush (v := 8) C dX1_copyFrom_88 (by decide) ?_
  refine q_copyV (n := 8) (dp := 0) (sp := 0) (f := (va_cpy (S 87) (S 4) 0 0 8)) C q_s87 q_s4  rfl rfl rfl mlX1_57 w_copyN w_copyS w_copyI (by omega) (by omega) (by decide) (by decide) (by decide) (Nat.le_of_ble_eq_true rfl) dX1_copyFrom_90 rfl ?_
  refine q_aload_n C dX1_copyFrom_93 rfl rfl ?_
  refine q_getR C flX1_25 q_s84 rfl dX1_copyFrom_94 ?_
  refine q_iconst (v := 0) C dX1_copyFrom_97 (by decide) ?_
  refine q_aload_n C dX1_copyFrom_98 rfl rfl ?_
  refine q_getR C flX1_25 q_s1 rfl dX1_copyFrom_99 ?_
  refine q_iconst (v := 0) C dX1_copyFrom_102 (by decide) ?_
  refine q_bipush (v := 48) C dX1_copyFrom_103 (by decide) ?_
  refine q_copyV (n := 48) (dp := 0) (sp := 0) (f := (va_cpy (S 88) (S 5) 0 0 48)) C q_s88 q_s5  rfl rfl rfl mlX1_57 w_copyN w_copyS w_copyI (by omega) (by omega) (by decide) (by decide) (by decide) (Nat.le_of_ble_eq_true rfl) dX1_copyFrom_105 rfl ?_
  refine q_aload_n C dX1_copyFrom_108 rfl rfl ?_
  refine q_getR C flX1_28 q_s84 rfl dX1_copyFrom_109 ?_
  refine q_iconst (v := 0) C dX1_copyFrom_112 (by decide) ?_
  refine q_aload_n C dX1_copyFrom_113 rfl rfl ?_
  refine q_getR C flX1_28 q_s1 rfl dX1_copyFrom_114 ?_
  refine q_iconst (v := 0) C dX1_copyFrom_117 (by decide) ?_
  refine q_bipush (v := 48) C dX1_copyFrom_118 (by decide) ?_
  refine q_copyV (n := 48) (dp := 0) (sp := 0) (f := (va_cpy (S 89) (S 6) 0 0 48)) C q_s89 q_s6  rfl rfl rfl mlX1_57 w_copyN w_copyS w_copyI (by omega) (by omega) (by decide) (by decide) (by decide) (Nat.le_of_ble_eq_true rfl) dX1_copyFrom_120 rfl ?_
  refine q_aload_n C dX1_copyFrom_123 rfl rfl ?_
  refine q_getR C flX1_31 q_s84 rfl dX1_copyFrom_124 ?_
  refine q_iconst (v := 0) C dX1_copyFrom_127 (by decide) ?_
  refine q_aload_n C dX1_copyFrom_128 rfl rfl ?_
  refine q_getR C flX1_31 q_s1 rfl dX1_copyFrom_129 ?_
  refine q_iconst (v := 0) C dX1_copyFrom_132 (by decide) ?_
  refine q_bipush (v := 6) C dX1_copyFrom_133 (by decide) ?_
  refine q_copyV (n := 6) (dp := 0) (sp := 0) (f := (va_cpy (S 90) (S 7) 0 0 6)) C q_s90 q_s7  rfl rfl rfl mlX1_57 w_copyN w_copyS w_copyI (by omega) (by omega) (by decide) (by decide) (by decide) (Nat.le_of_ble_eq_true rfl) dX1_copyFrom_135 rfl ?_
  refine q_aload_n C dX1_copyFrom_138 rfl rfl ?_
  refine q_getR C flX1_34 q_s84 rfl dX1_copyFrom_139 ?_
  refine q_iconst (v := 0) C dX1_copyFrom_142 (by decide) ?_
  refine q_aload_n C dX1_copyFrom_143 rfl rfl ?_
  refine q_getR C flX1_34 q_s1 rfl dX1_copyFrom_144 ?_
  refine q_iconst (v := 0) C dX1_copyFrom_147 (by decide) ?_
  refine q_bipush (v := 6) C dX1_copyFrom_148 (by decide) ?_
  refine q_copyV (n := 6) (dp := 0) (sp := 0) (f := (va_cpy (S 91) (S 8) 0 0 6)) C q_s91 q_s8  rfl rfl rfl mlX1_57 w_copyN w_copyS w_copyI (by omega) (by omega) (by decide) (by decide) (by decide) (Nat.le_of_ble_eq_true rfl) dX1_copyFrom_150 rfl ?_
  refine q_iconst (v := 0) C dX1_copyFrom_153 (by decide) ?_
  refine q_istore_n (lv' := [(2, .int 0), (0, .ref 1), (1, .ref 84)]) C dX1_copyFrom_154 rfl (by decide) rfl ?_
  have loop_155 : ∀ (n_155 i_155 : Nat), i_155 + n_155 = 6 → q_V l K 155 [(0, .ref 1), (1, .ref 84), (2, .int (nI i_155))] [] (q_u (q_u (q_u (q_u (q_u (q_u (q_u (q_u (q_p (q_p (q_p (q_p (q_p (q_p S 1 0 (S 84 0)) 1 1 (S 84 1)) 1 2 (S 84 2)) 1 3 (S 84 3)) 1 4 (S 84 4)) 1 5 (S 84 5)) 2 (va_cpy (S 85) (S 2) 0 0 8)) 3 (va_cpy (S 86) (S 3) 0 0 8)) 4 (va_cpy (S 87) (S 4) 0 0 8)) 5 (va_cpy (S 88) (S 5) 0 0 48)) 6 (va_cpy (S 89) (S 6) 0 0 48)) 7 (va_cpy (S 90) (S 7) 0 0 6)) 8 (va_cpy (S 91) (S 8) 0 0 6)) 9 (va_cpy (S 92) (S 9) 0 0 i_155)) := by
    intro n_155
    induction n_155 with
    | zero =>
      intro i_155 hi_155
      have e_155 : i_155 = 6 := by omega
      refine q_iload_n C dX1_copyFrom_155 rfl rfl ?_
      refine q_bipush (v := 6) C dX1_copyFrom_156 (by decide) ?_
      refine q_icmp_geN (a := i_155) (b := 6) (tgt := 179) C dX1_copyFrom_158 (by decide) rfl rfl (by omega) (by omega) (fun c_158 => ?_) (fun c_158 => absurd c_158 (by omega))
      exact hret _ _ _ dX1_copyFrom_179 (by rw [e_155]; exact q_cp_eq S 1 84)
    | succ n_155 ih_155 =>
      intro i_155 hi_155
      refine q_iload_n C dX1_copyFrom_155 rfl rfl ?_
      refine q_bipush (v := 6) C dX1_copyFrom_156 (by decide) ?_
      refine q_icmp_geN (a := i_155) (b := 6) (tgt := 179) C dX1_copyFrom_158 (by decide) rfl rfl (by omega) (by omega) (fun c_158 => absurd c_158 (by omega)) (fun c_158 => ?_)
      refine q_aload_n C dX1_copyFrom_161 rfl rfl ?_
      refine q_getR C flX1_37 q_s1 rfl dX1_copyFrom_162 ?_
      refine q_iload_n C dX1_copyFrom_165 rfl rfl ?_
      refine q_aload_n C dX1_copyFrom_166 rfl rfl ?_
      refine q_getR C flX1_37 q_s84 rfl dX1_copyFrom_167 ?_
      refine q_iload_n C dX1_copyFrom_170 rfl rfl ?_
      refine q_zaldN (i := i_155) (x := S 92 i_155) C rfl q_s92 (by omega) (by decide) dX1_copyFrom_171 rfl ?_
      refine q_zastV (i := i_155) (v := S 92 i_155) C rfl q_s9 (by omega) (by decide) dX1_copyFrom_172 (q_nar_b (hz.2 _ (by omega))) ?_
      refine q_iinc (v := nI (i_155 + 1)) (lv' := [(2, .int (nI (i_155 + 1))), (0, .ref 1), (1, .ref 84)]) C dX1_copyFrom_173 rfl (nI_add _ _) (by decide) rfl ?_
      refine q_goto (tgt := 155) C dX1_copyFrom_176 (by decide) ?_
      exact q_V_to (ih_155 (i_155 + 1) (by omega)) ⟨rfl, rfl, rfl, trivial⟩ (q_u_s _ _ _ _ _)
  exact q_V_to (loop_155 (6 - 0) 0 (by omega)) ⟨rfl, rfl, rfl, trivial⟩ (q_u_0 _ _ _)
theorem c_X1_copy_1_93 (l : Launch) (S : q_St) (hz : q_bool S 93) : q_Fv l yX1_copyFrom kX1_copyFrom 1 [.ref 1, .ref 93] S (q_cp S 1 93) := by
  refine q_Fv_of (maxL := 3) rfl (by decide +kernel) (fun ad => Nat.le_of_ble_eq_true rfl) ?_
  intro K C hret
  have C : q_Cx K cX1_copyFrom RX1 1 3 := C
  show q_V l K 0 [(0, .ref 1), (1, .ref 93)] [] S
  refine q_aload_n C dX1_copyFrom_0 rfl rfl ?_
  refine q_aload_n C dX1_copyFrom_1 rfl rfl ?_
  refine q_getI (x := S 93 0) C flX1_41 q_s93 rfl dX1_copyFrom_2 rfl ?_
  refine q_put (ty9 := .int) C flX1_41 q_s1 rfl (fun _ _ _ h => by cases h; exact ⟨rfl, by decide +kernel⟩) rfl rfl dX1_copyFrom_5 ?_
  refine q_aload_n C dX1_copyFrom_8 rfl rfl ?_
  refine q_aload_n C dX1_copyFrom_9 rfl rfl ?_
  refine q_getI (x := S 93 1) C flX1_45 q_s93 rfl dX1_copyFrom_10 rfl ?_
  refine q_put (ty9 := .int) C flX1_45 q_s1 rfl (fun _ _ _ h => by cases h; exact ⟨rfl, by decide +kernel⟩) rfl rfl dX1_copyFrom_13 ?_
  refine q_aload_n C dX1_copyFrom_16 rfl rfl ?_
  refine q_aload_n C dX1_copyFrom_17 rfl rfl ?_
  refine q_getI (x := S 93 2) C flX1_48 q_s93 rfl dX1_copyFrom_18 rfl ?_
  refine q_put (ty9 := .int) C flX1_48 q_s1 rfl (fun _ _ _ h => by cases h; exact ⟨rfl, by decide +kernel⟩) rfl rfl dX1_copyFrom_21 ?_
  refine q_aload_n C dX1_copyFrom_24 rfl rfl ?_
  refine q_aload_n C dX1_copyFrom_25 rfl rfl ?_
  refine q_getI (x := S 93 3) C flX1_51 q_s93 rfl dX1_copyFrom_26 rfl ?_
  refine q_put (ty9 := .int) C flX1_51 q_s1 rfl (fun _ _ _ h => by cases h; exact ⟨rfl, by decide +kernel⟩) rfl rfl dX1_copyFrom_29 ?_
  refine q_aload_n C dX1_copyFrom_32 rfl rfl ?_
  refine q_aload_n C dX1_copyFrom_33 rfl rfl ?_
  refine q_getI (x := S 93 4) C flX1_54 q_s93 rfl dX1_copyFrom_34 rfl ?_
  refine q_put (ty9 := .int) C flX1_54 q_s1 rfl (fun _ _ _ h => by cases h; exact ⟨rfl, by decide +kernel⟩) rfl rfl dX1_copyFrom_37 ?_
  refine q_aload_n C dX1_copyFrom_40 rfl rfl ?_
  refine q_aload_n C dX1_copyFrom_41 rfl rfl ?_
  refine q_getI (x := S 93 5) C flX1_9 q_s93 rfl dX1_copyFrom_42 rfl ?_
  refine q_put (ty9 := .boolean) C flX1_9 q_s1 rfl (fun _ _ _ h => by cases h; exact ⟨rfl, by decide +kernel⟩) (q_narrow_b hz.1) (q_fits_b hz.1) dX1_copyFrom_45 ?_
  refine q_aload_n C dX1_copyFrom_48 rfl rfl ?_
  refine q_getR C flX1_15 q_s93 rfl dX1_copyFrom_49 ?_
  refine q_iconst (v := 0) C dX1_copyFrom_52 (by decide) ?_
  refine q_aload_n C dX1_copyFrom_53 rfl rfl ?_
  refine q_getR C flX1_15 q_s1 rfl dX1_copyFrom_54 ?_
  refine q_iconst (v := 0) C dX1_copyFrom_57 (by decide) ?_
  refine q_bipush (v := 8) C dX1_copyFrom_58 (by decide) ?_
  refine q_copyV (n := 8) (dp := 0) (sp := 0) (f := (va_cpy (S 94) (S 2) 0 0 8)) C q_s94 q_s2  rfl rfl rfl mlX1_57 w_copyN w_copyS w_copyI (by omega) (by omega) (by decide) (by decide) (by decide) (Nat.le_of_ble_eq_true rfl) dX1_copyFrom_60 rfl ?_
  refine q_aload_n C dX1_copyFrom_63 rfl rfl ?_
  refine q_getR C flX1_19 q_s93 rfl dX1_copyFrom_64 ?_
  refine q_iconst (v := 0) C dX1_copyFrom_67 (by decide) ?_
  refine q_aload_n C dX1_copyFrom_68 rfl rfl ?_
  refine q_getR C flX1_19 q_s1 rfl dX1_copyFrom_69 ?_
  refine q_iconst (v := 0) C dX1_copyFrom_72 (by decide) ?_
  refine q_bipush (v := 8) C dX1_copyFrom_73 (by decide) ?_
  refine q_copyV (n := 8) (dp := 0) (sp := 0) (f := (va_cpy (S 95) (S 3) 0 0 8)) C q_s95 q_s3  rfl rfl rfl mlX1_57 w_copyN w_copyS w_copyI (by omega) (by omega) (by decide) (by decide) (by decide) (Nat.le_of_ble_eq_true rfl) dX1_copyFrom_75 rfl ?_
  refine q_aload_n C dX1_copyFrom_78 rfl rfl ?_
  refine q_getR C flX1_22 q_s93 rfl dX1_copyFrom_79 ?_
  refine q_iconst (v := 0) C dX1_copyFrom_82 (by decide) ?_
  refine q_aload_n C dX1_copyFrom_83 rfl rfl ?_
  refine q_getR C flX1_22 q_s1 rfl dX1_copyFrom_84 ?_
  refine q_iconst (v := 0) C dX1_copyFrom_87 (by decide) ?_
  refine q_bipush (v := 8) C dX1_copyFrom_88 (by decide) ?_
  refine q_copyV (n := 8) (dp := 0) (sp := 0) (f := (va_cpy (S 96) (S 4) 0 0 8)) C q_s96 q_s4  rfl rfl rfl mlX1_57 w_copyN w_copyS w_copyI (by omega) (by omega) (by decide) (by decide) (by decide) (Nat.le_of_ble_eq_true rfl) dX1_copyFrom_90 rfl ?_
  refine q_aload_n C dX1_copyFrom_93 rfl rfl ?_
  refine q_getR C flX1_25 q_s93 rfl dX1_copyFrom_94 ?_
  refine q_iconst (v := 0) C dX1_copyFrom_97 (by decide) ?_
  refine q_aload_n C dX1_copyFrom_98 rfl rfl ?_
  refine q_getR C flX1_25 q_s1 rfl dX1_copyFrom_99 ?_
  refine q_iconst (v := 0) C dX1_copyFrom_102 (by decide) ?_
  refine q_bipush (v := 48) C dX1_copyFrom_103 (by decide) ?_
  refine q_copyV (n := 48) (dp := 0) (sp := 0) (f := (va_cpy (S 97) (S 5) 0 0 48)) C q_s97 q_s5  rfl rfl rfl mlX1_57 w_copyN w_copyS w_copyI (by omega) (by omega) (by decide) (by decide) (by decide) (Nat.le_of_ble_eq_true rfl) dX1_copyFrom_105 rfl ?_
  refine q_aload_n C dX1_copyFrom_108 rfl rfl ?_
  refine q_getR C flX1_28 q_s93 rfl dX1_copyFrom_109 ?_
  refine q_iconst (v := 0) C dX1_copyFrom_112 (by decide) ?_
  refine q_aload_n C dX1_copyFrom_113 rfl rfl ?_
  refine q_getR C flX1_28 q_s1 rfl dX1_copyFrom_114 ?_
  refine q_iconst (v := 0) C dX1_copyFrom_117 (by decide) ?_
  refine q_bipush (v := 48) C dX1_copyFrom_118 (by decide) ?_
  refine q_copyV (n := 48) (dp := 0) (sp := 0) (f := (va_cpy (S 98) (S 6) 0 0 48)) C q_s98 q_s6  rfl rfl rfl mlX1_57 w_copyN w_copyS w_copyI (by omega) (by omega) (by decide) (by decide) (by decide) (Nat.le_of_ble_eq_true rfl) dX1_copyFrom_120 rfl ?_
  refine q_aload_n C dX1_copyFrom_123 rfl rfl ?_
  refine q_getR C flX1_31 q_s93 rfl dX1_copyFrom_124 ?_
  refine q_iconst (v := 0) C dX1_copyFrom_127 (by decide) ?_
  refine q_aload_n C dX1_copyFrom_128 rfl rfl ?_
  refine q_getR C flX1_31 q_s1 rfl dX1_copyFrom_129 ?_
  refine q_iconst (v := 0) C dX1_copyFrom_132 (by decide) ?_
  refine q_bipush (v := 6) C dX1_copyFrom_133 (by decide) ?_
  refine q_copyV (n := 6) (dp := 0) (sp := 0) (f := (va_cpy (S 99) (S 7) 0 0 6)) C q_s99 q_s7  rfl rfl rfl mlX1_57 w_copyN w_copyS w_copyI (by omega) (by omega) (by decide) (by decide) (by decide) (Nat.le_of_ble_eq_true rfl) dX1_copyFrom_135 rfl ?_
  refine q_aload_n C dX1_copyFrom_138 rfl rfl ?_
  refine q_getR C flX1_34 q_s93 rfl dX1_copyFrom_139 ?_
  refine q_iconst (v := 0) C dX1_copyFrom_142 (by decide) ?_
  refine q_aload_n C dX1_copyFrom_143 rfl rfl ?_
  refine q_getR C flX1_34 q_s1 rfl dX1_copyFrom_144 ?_
  refine q_iconst (v := 0) C dX1_copyFrom_147 (by decide) ?_
  refine q_bipush (v := 6) C dX1_copyFrom_148 (by decide) ?_
  refine q_copyV (n := 6) (dp := 0) (sp := 0) (f := (va_cpy (S 100) (S 8) 0 0 6)) C q_s100 q_s8  rfl rfl rfl mlX1_57 w_copyN w_copyS w_copyI (by omega) (by omega) (by decide) (by decide) (by decide) (Nat.le_of_ble_eq_true rfl) dX1_copyFrom_150 rfl ?_
  refine q_iconst (v := 0) C dX1_copyFrom_153 (by decide) ?_
  refine q_istore_n (lv' := [(2, .int 0), (0, .ref 1), (1, .ref 93)]) C dX1_copyFrom_154 rfl (by decide) rfl ?_
  have loop_155 : ∀ (n_155 i_155 : Nat), i_155 + n_155 = 6 → q_V l K 155 [(0, .ref 1), (1, .ref 93), (2, .int (nI i_155))] [] (q_u (q_u (q_u (q_u (q_u (q_u (q_u (q_u (q_p (q_p (q_p (q_p (q_p (q_p S 1 0 (S 93 0)) 1 1 (S 93 1)) 1 2 (S 93 2)) 1 3 (S 93 3)) 1 4 (S 93 4)) 1 5 (S 93 5)) 2 (va_cpy (S 94) (S 2) 0 0 8)) 3 (va_cpy (S 95) (S 3) 0 0 8)) 4 (va_cpy (S 96) (S 4) 0 0 8)) 5 (va_cpy (S 97) (S 5) 0 0 48)) 6 (va_cpy (S 98) (S 6) 0 0 48)) 7 (va_cpy (S 99) (S 7) 0 0 6)) 8 (va_cpy (S 100) (S 8) 0 0 6)) 9 (va_cpy (S 101) (S 9) 0 0 i_155)) := by
    intro n_155
    induction n_155 with
    | zero =>
      intro i_155 hi_155
      have e_155 : i_155 = 6 := by omega
      refine q_iload_n C dX1_copyFrom_155 rfl rfl ?_
      refine q_bipush (v := 6) C dX1_copyFrom_156 (by decide) ?_
      refine q_icmp_geN (a := i_155) (b := 6) (tgt := 179) C dX1_copyFrom_158 (by decide) rfl rfl (by omega) (by omega) (fun c_158 => ?_) (fun c_158 => absurd c_158 (by omega))
      exact hret _ _ _ dX1_copyFrom_179 (by rw [e_155]; exact q_cp_eq S 1 93)
    | succ n_155 ih_155 =>
      intro i_155 hi_155
      refine q_iload_n C dX1_copyFrom_155 rfl rfl ?_
      refine q_bipush (v := 6) C dX1_copyFrom_156 (by decide) ?_
      refine q_icmp_geN (a := i_155) (b := 6) (tgt := 179) C dX1_copyFrom_158 (by decide) rfl rfl (by omega) (by omega) (fun c_158 => absurd c_158 (by omega)) (fun c_158 => ?_)
      refine q_aload_n C dX1_copyFrom_161 rfl rfl ?_
      refine q_getR C flX1_37 q_s1 rfl dX1_copyFrom_162 ?_
      refine q_iload_n C dX1_copyFrom_165 rfl rfl ?_
      refine q_aload_n C dX1_copyFrom_166 rfl rfl ?_
      refine q_getR C flX1_37 q_s93 rfl dX1_copyFrom_167 ?_
      refine q_iload_n C dX1_copyFrom_170 rfl rfl ?_
      refine q_zaldN (i := i_155) (x := S 101 i_155) C rfl q_s101 (by omega) (by decide) dX1_copyFrom_171 rfl ?_
      refine q_zastV (i := i_155) (v := S 101 i_155) C rfl q_s9 (by omega) (by decide) dX1_copyFrom_172 (q_nar_b (hz.2 _ (by omega))) ?_
      refine q_iinc (v := nI (i_155 + 1)) (lv' := [(2, .int (nI (i_155 + 1))), (0, .ref 1), (1, .ref 93)]) C dX1_copyFrom_173 rfl (nI_add _ _) (by decide) rfl ?_
      refine q_goto (tgt := 155) C dX1_copyFrom_176 (by decide) ?_
      exact q_V_to (ih_155 (i_155 + 1) (by omega)) ⟨rfl, rfl, rfl, trivial⟩ (q_u_s _ _ _ _ _)
  exact q_V_to (loop_155 (6 - 0) 0 (by omega)) ⟨rfl, rfl, rfl, trivial⟩ (q_u_0 _ _ _)
theorem c_X2_keep (l : Launch) (S : q_St) (i z : Nat) (hi : S 28 1 = nI i) (hi8 : i < 8) (hzz : S 28 2 = nI z) (hz8 : z ≤ 8) (hz : q_bool S 1) : q_Fv l yX2_keep kX2_keep 2 [.ref 28, .ref 1] S (uH_keep S i z 1) := by
  refine q_Fv_of (maxL := 2) rfl (by decide +kernel) (fun ad => Nat.le_of_ble_eq_true rfl) ?_
  intro K C hret
  have C : q_Cx K cX2_keep RX2 2 2 := C
  show q_V l K 0 [(0, .ref 28), (1, .ref 1)] [] S
  refine q_aload_n C dX2_keep_0 rfl rfl ?_
  refine q_getR C flX2_11 q_s28 rfl dX2_keep_1 ?_
  refine q_aload_n C dX2_keep_4 rfl rfl ?_
  refine q_getI (x := nI i) C flX2_18 q_s28 rfl dX2_keep_5 hi ?_
  refine q_aldN (i := i) C rfl q_s29 (by omega) (by decide) dX2_keep_8 ?_
  rcases (show i = 0 ∨ i = 1 ∨ i = 2 ∨ i = 3 ∨ i = 4 ∨ i = 5 ∨ i = 6 ∨ i = 7 by omega) with rfl | rfl | rfl | rfl | rfl | rfl | rfl | rfl
  · refine q_aload_n C dX2_keep_9 rfl rfl ?_
    refine q_cv1 C (c_X1_copy_30_1 l S hz) myX1_copyFrom mlX2_22 q_s30 ⟨by decide, by decide⟩ (Nat.le_of_ble_eq_true rfl) dX2_keep_10 ?_
    refine q_aload_n C dX2_keep_13 rfl rfl ?_
    refine q_aload_n C dX2_keep_14 rfl rfl ?_
    refine q_getI (x := nI 0) C flX2_18 q_s28 rfl dX2_keep_15 (by simpa [q_cp, q_p, upd] using hi) ?_
    refine q_iconst (v := 1) C dX2_keep_18 (by decide) ?_
    refine q_iaddN (a := 0) (b := 1) C dX2_keep_19 rfl rfl ?_
    refine q_bipush (v := 8) C dX2_keep_20 (by decide) ?_
    refine q_iremN (a := 0 + 1) (b := 8) C dX2_keep_22 rfl rfl (by omega) (by decide) (by decide) ?_
    refine q_put (ty9 := .int) C flX2_18 q_s28 rfl (fun _ _ _ h => by cases h; exact ⟨rfl, by decide +kernel⟩) rfl rfl dX2_keep_23 ?_
    refine q_aload_n C dX2_keep_26 rfl rfl ?_
    refine q_aload_n C dX2_keep_27 rfl rfl ?_
    refine q_getI (x := nI z) C flX2_26 q_s28 rfl dX2_keep_28 (by simpa [q_cp, q_p, upd] using hzz) ?_
    refine q_iconst (v := 1) C dX2_keep_31 (by decide) ?_
    refine q_iaddN (a := z) (b := 1) C dX2_keep_32 rfl rfl ?_
    refine q_bipush (v := 8) C dX2_keep_33 (by decide) ?_
    refine q_minN (a := z + 1) (b := 8) C rfl rfl (by omega) (by omega) mlX2_29 (by decide) (Nat.le_of_ble_eq_true rfl) dX2_keep_35 ?_
    refine q_put (ty9 := .int) C flX2_26 q_s28 rfl (fun _ _ _ h => by cases h; exact ⟨rfl, by decide +kernel⟩) rfl rfl dX2_keep_38 ?_
    exact hret _ _ _ dX2_keep_41 rfl
  · refine q_aload_n C dX2_keep_9 rfl rfl ?_
    refine q_cv1 C (c_X1_copy_39_1 l S hz) myX1_copyFrom mlX2_22 q_s39 ⟨by decide, by decide⟩ (Nat.le_of_ble_eq_true rfl) dX2_keep_10 ?_
    refine q_aload_n C dX2_keep_13 rfl rfl ?_
    refine q_aload_n C dX2_keep_14 rfl rfl ?_
    refine q_getI (x := nI 1) C flX2_18 q_s28 rfl dX2_keep_15 (by simpa [q_cp, q_p, upd] using hi) ?_
    refine q_iconst (v := 1) C dX2_keep_18 (by decide) ?_
    refine q_iaddN (a := 1) (b := 1) C dX2_keep_19 rfl rfl ?_
    refine q_bipush (v := 8) C dX2_keep_20 (by decide) ?_
    refine q_iremN (a := 1 + 1) (b := 8) C dX2_keep_22 rfl rfl (by omega) (by decide) (by decide) ?_
    refine q_put (ty9 := .int) C flX2_18 q_s28 rfl (fun _ _ _ h => by cases h; exact ⟨rfl, by decide +kernel⟩) rfl rfl dX2_keep_23 ?_
    refine q_aload_n C dX2_keep_26 rfl rfl ?_
    refine q_aload_n C dX2_keep_27 rfl rfl ?_
    refine q_getI (x := nI z) C flX2_26 q_s28 rfl dX2_keep_28 (by simpa [q_cp, q_p, upd] using hzz) ?_
    refine q_iconst (v := 1) C dX2_keep_31 (by decide) ?_
    refine q_iaddN (a := z) (b := 1) C dX2_keep_32 rfl rfl ?_
    refine q_bipush (v := 8) C dX2_keep_33 (by decide) ?_
    refine q_minN (a := z + 1) (b := 8) C rfl rfl (by omega) (by omega) mlX2_29 (by decide) (Nat.le_of_ble_eq_true rfl) dX2_keep_35 ?_
    refine q_put (ty9 := .int) C flX2_26 q_s28 rfl (fun _ _ _ h => by cases h; exact ⟨rfl, by decide +kernel⟩) rfl rfl dX2_keep_38 ?_
    exact hret _ _ _ dX2_keep_41 rfl
  · refine q_aload_n C dX2_keep_9 rfl rfl ?_
    refine q_cv1 C (c_X1_copy_48_1 l S hz) myX1_copyFrom mlX2_22 q_s48 ⟨by decide, by decide⟩ (Nat.le_of_ble_eq_true rfl) dX2_keep_10 ?_
    refine q_aload_n C dX2_keep_13 rfl rfl ?_
    refine q_aload_n C dX2_keep_14 rfl rfl ?_
    refine q_getI (x := nI 2) C flX2_18 q_s28 rfl dX2_keep_15 (by simpa [q_cp, q_p, upd] using hi) ?_
    refine q_iconst (v := 1) C dX2_keep_18 (by decide) ?_
    refine q_iaddN (a := 2) (b := 1) C dX2_keep_19 rfl rfl ?_
    refine q_bipush (v := 8) C dX2_keep_20 (by decide) ?_
    refine q_iremN (a := 2 + 1) (b := 8) C dX2_keep_22 rfl rfl (by omega) (by decide) (by decide) ?_
    refine q_put (ty9 := .int) C flX2_18 q_s28 rfl (fun _ _ _ h => by cases h; exact ⟨rfl, by decide +kernel⟩) rfl rfl dX2_keep_23 ?_
    refine q_aload_n C dX2_keep_26 rfl rfl ?_
    refine q_aload_n C dX2_keep_27 rfl rfl ?_
    refine q_getI (x := nI z) C flX2_26 q_s28 rfl dX2_keep_28 (by simpa [q_cp, q_p, upd] using hzz) ?_
    refine q_iconst (v := 1) C dX2_keep_31 (by decide) ?_
    refine q_iaddN (a := z) (b := 1) C dX2_keep_32 rfl rfl ?_
    refine q_bipush (v := 8) C dX2_keep_33 (by decide) ?_
    refine q_minN (a := z + 1) (b := 8) C rfl rfl (by omega) (by omega) mlX2_29 (by decide) (Nat.le_of_ble_eq_true rfl) dX2_keep_35 ?_
    refine q_put (ty9 := .int) C flX2_26 q_s28 rfl (fun _ _ _ h => by cases h; exact ⟨rfl, by decide +kernel⟩) rfl rfl dX2_keep_38 ?_
    exact hret _ _ _ dX2_keep_41 rfl
  · refine q_aload_n C dX2_keep_9 rfl rfl ?_
    refine q_cv1 C (c_X1_copy_57_1 l S hz) myX1_copyFrom mlX2_22 q_s57 ⟨by decide, by decide⟩ (Nat.le_of_ble_eq_true rfl) dX2_keep_10 ?_
    refine q_aload_n C dX2_keep_13 rfl rfl ?_
    refine q_aload_n C dX2_keep_14 rfl rfl ?_
    refine q_getI (x := nI 3) C flX2_18 q_s28 rfl dX2_keep_15 (by simpa [q_cp, q_p, upd] using hi) ?_
    refine q_iconst (v := 1) C dX2_keep_18 (by decide) ?_
    refine q_iaddN (a := 3) (b := 1) C dX2_keep_19 rfl rfl ?_
    refine q_bipush (v := 8) C dX2_keep_20 (by decide) ?_
    refine q_iremN (a := 3 + 1) (b := 8) C dX2_keep_22 rfl rfl (by omega) (by decide) (by decide) ?_
    refine q_put (ty9 := .int) C flX2_18 q_s28 rfl (fun _ _ _ h => by cases h; exact ⟨rfl, by decide +kernel⟩) rfl rfl dX2_keep_23 ?_
    refine q_aload_n C dX2_keep_26 rfl rfl ?_
    refine q_aload_n C dX2_keep_27 rfl rfl ?_
    refine q_getI (x := nI z) C flX2_26 q_s28 rfl dX2_keep_28 (by simpa [q_cp, q_p, upd] using hzz) ?_
    refine q_iconst (v := 1) C dX2_keep_31 (by decide) ?_
    refine q_iaddN (a := z) (b := 1) C dX2_keep_32 rfl rfl ?_
    refine q_bipush (v := 8) C dX2_keep_33 (by decide) ?_
    refine q_minN (a := z + 1) (b := 8) C rfl rfl (by omega) (by omega) mlX2_29 (by decide) (Nat.le_of_ble_eq_true rfl) dX2_keep_35 ?_
    refine q_put (ty9 := .int) C flX2_26 q_s28 rfl (fun _ _ _ h => by cases h; exact ⟨rfl, by decide +kernel⟩) rfl rfl dX2_keep_38 ?_
    exact hret _ _ _ dX2_keep_41 rfl
  · refine q_aload_n C dX2_keep_9 rfl rfl ?_
    refine q_cv1 C (c_X1_copy_66_1 l S hz) myX1_copyFrom mlX2_22 q_s66 ⟨by decide, by decide⟩ (Nat.le_of_ble_eq_true rfl) dX2_keep_10 ?_
    refine q_aload_n C dX2_keep_13 rfl rfl ?_
    refine q_aload_n C dX2_keep_14 rfl rfl ?_
    refine q_getI (x := nI 4) C flX2_18 q_s28 rfl dX2_keep_15 (by simpa [q_cp, q_p, upd] using hi) ?_
    refine q_iconst (v := 1) C dX2_keep_18 (by decide) ?_
    refine q_iaddN (a := 4) (b := 1) C dX2_keep_19 rfl rfl ?_
    refine q_bipush (v := 8) C dX2_keep_20 (by decide) ?_
    refine q_iremN (a := 4 + 1) (b := 8) C dX2_keep_22 rfl rfl (by omega) (by decide) (by decide) ?_
    refine q_put (ty9 := .int) C flX2_18 q_s28 rfl (fun _ _ _ h => by cases h; exact ⟨rfl, by decide +kernel⟩) rfl rfl dX2_keep_23 ?_
    refine q_aload_n C dX2_keep_26 rfl rfl ?_
    refine q_aload_n C dX2_keep_27 rfl rfl ?_
    refine q_getI (x := nI z) C flX2_26 q_s28 rfl dX2_keep_28 (by simpa [q_cp, q_p, upd] using hzz) ?_
    refine q_iconst (v := 1) C dX2_keep_31 (by decide) ?_
    refine q_iaddN (a := z) (b := 1) C dX2_keep_32 rfl rfl ?_
    refine q_bipush (v := 8) C dX2_keep_33 (by decide) ?_
    refine q_minN (a := z + 1) (b := 8) C rfl rfl (by omega) (by omega) mlX2_29 (by decide) (Nat.le_of_ble_eq_true rfl) dX2_keep_35 ?_
    refine q_put (ty9 := .int) C flX2_26 q_s28 rfl (fun _ _ _ h => by cases h; exact ⟨rfl, by decide +kernel⟩) rfl rfl dX2_keep_38 ?_
    exact hret _ _ _ dX2_keep_41 rfl
  · refine q_aload_n C dX2_keep_9 rfl rfl ?_
    refine q_cv1 C (c_X1_copy_75_1 l S hz) myX1_copyFrom mlX2_22 q_s75 ⟨by decide, by decide⟩ (Nat.le_of_ble_eq_true rfl) dX2_keep_10 ?_
    refine q_aload_n C dX2_keep_13 rfl rfl ?_
    refine q_aload_n C dX2_keep_14 rfl rfl ?_
    refine q_getI (x := nI 5) C flX2_18 q_s28 rfl dX2_keep_15 (by simpa [q_cp, q_p, upd] using hi) ?_
    refine q_iconst (v := 1) C dX2_keep_18 (by decide) ?_
    refine q_iaddN (a := 5) (b := 1) C dX2_keep_19 rfl rfl ?_
    refine q_bipush (v := 8) C dX2_keep_20 (by decide) ?_
    refine q_iremN (a := 5 + 1) (b := 8) C dX2_keep_22 rfl rfl (by omega) (by decide) (by decide) ?_
    refine q_put (ty9 := .int) C flX2_18 q_s28 rfl (fun _ _ _ h => by cases h; exact ⟨rfl, by decide +kernel⟩) rfl rfl dX2_keep_23 ?_
    refine q_aload_n C dX2_keep_26 rfl rfl ?_
    refine q_aload_n C dX2_keep_27 rfl rfl ?_
    refine q_getI (x := nI z) C flX2_26 q_s28 rfl dX2_keep_28 (by simpa [q_cp, q_p, upd] using hzz) ?_
    refine q_iconst (v := 1) C dX2_keep_31 (by decide) ?_
    refine q_iaddN (a := z) (b := 1) C dX2_keep_32 rfl rfl ?_
    refine q_bipush (v := 8) C dX2_keep_33 (by decide) ?_
    refine q_minN (a := z + 1) (b := 8) C rfl rfl (by omega) (by omega) mlX2_29 (by decide) (Nat.le_of_ble_eq_true rfl) dX2_keep_35 ?_
    refine q_put (ty9 := .int) C flX2_26 q_s28 rfl (fun _ _ _ h => by cases h; exact ⟨rfl, by decide +kernel⟩) rfl rfl dX2_keep_38 ?_
    exact hret _ _ _ dX2_keep_41 rfl
  · refine q_aload_n C dX2_keep_9 rfl rfl ?_
    refine q_cv1 C (c_X1_copy_84_1 l S hz) myX1_copyFrom mlX2_22 q_s84 ⟨by decide, by decide⟩ (Nat.le_of_ble_eq_true rfl) dX2_keep_10 ?_
    refine q_aload_n C dX2_keep_13 rfl rfl ?_
    refine q_aload_n C dX2_keep_14 rfl rfl ?_
    refine q_getI (x := nI 6) C flX2_18 q_s28 rfl dX2_keep_15 (by simpa [q_cp, q_p, upd] using hi) ?_
    refine q_iconst (v := 1) C dX2_keep_18 (by decide) ?_
    refine q_iaddN (a := 6) (b := 1) C dX2_keep_19 rfl rfl ?_
    refine q_bipush (v := 8) C dX2_keep_20 (by decide) ?_
    refine q_iremN (a := 6 + 1) (b := 8) C dX2_keep_22 rfl rfl (by omega) (by decide) (by decide) ?_
    refine q_put (ty9 := .int) C flX2_18 q_s28 rfl (fun _ _ _ h => by cases h; exact ⟨rfl, by decide +kernel⟩) rfl rfl dX2_keep_23 ?_
    refine q_aload_n C dX2_keep_26 rfl rfl ?_
    refine q_aload_n C dX2_keep_27 rfl rfl ?_
    refine q_getI (x := nI z) C flX2_26 q_s28 rfl dX2_keep_28 (by simpa [q_cp, q_p, upd] using hzz) ?_
    refine q_iconst (v := 1) C dX2_keep_31 (by decide) ?_
    refine q_iaddN (a := z) (b := 1) C dX2_keep_32 rfl rfl ?_
    refine q_bipush (v := 8) C dX2_keep_33 (by decide) ?_
    refine q_minN (a := z + 1) (b := 8) C rfl rfl (by omega) (by omega) mlX2_29 (by decide) (Nat.le_of_ble_eq_true rfl) dX2_keep_35 ?_
    refine q_put (ty9 := .int) C flX2_26 q_s28 rfl (fun _ _ _ h => by cases h; exact ⟨rfl, by decide +kernel⟩) rfl rfl dX2_keep_38 ?_
    exact hret _ _ _ dX2_keep_41 rfl
  · refine q_aload_n C dX2_keep_9 rfl rfl ?_
    refine q_cv1 C (c_X1_copy_93_1 l S hz) myX1_copyFrom mlX2_22 q_s93 ⟨by decide, by decide⟩ (Nat.le_of_ble_eq_true rfl) dX2_keep_10 ?_
    refine q_aload_n C dX2_keep_13 rfl rfl ?_
    refine q_aload_n C dX2_keep_14 rfl rfl ?_
    refine q_getI (x := nI 7) C flX2_18 q_s28 rfl dX2_keep_15 (by simpa [q_cp, q_p, upd] using hi) ?_
    refine q_iconst (v := 1) C dX2_keep_18 (by decide) ?_
    refine q_iaddN (a := 7) (b := 1) C dX2_keep_19 rfl rfl ?_
    refine q_bipush (v := 8) C dX2_keep_20 (by decide) ?_
    refine q_iremN (a := 7 + 1) (b := 8) C dX2_keep_22 rfl rfl (by omega) (by decide) (by decide) ?_
    refine q_put (ty9 := .int) C flX2_18 q_s28 rfl (fun _ _ _ h => by cases h; exact ⟨rfl, by decide +kernel⟩) rfl rfl dX2_keep_23 ?_
    refine q_aload_n C dX2_keep_26 rfl rfl ?_
    refine q_aload_n C dX2_keep_27 rfl rfl ?_
    refine q_getI (x := nI z) C flX2_26 q_s28 rfl dX2_keep_28 (by simpa [q_cp, q_p, upd] using hzz) ?_
    refine q_iconst (v := 1) C dX2_keep_31 (by decide) ?_
    refine q_iaddN (a := z) (b := 1) C dX2_keep_32 rfl rfl ?_
    refine q_bipush (v := 8) C dX2_keep_33 (by decide) ?_
    refine q_minN (a := z + 1) (b := 8) C rfl rfl (by omega) (by omega) mlX2_29 (by decide) (Nat.le_of_ble_eq_true rfl) dX2_keep_35 ?_
    refine q_put (ty9 := .int) C flX2_26 q_s28 rfl (fun _ _ _ h => by cases h; exact ⟨rfl, by decide +kernel⟩) rfl rfl dX2_keep_38 ?_
    exact hret _ _ _ dX2_keep_41 rfl
theorem c_X2_takeBack (l : Launch) (S : q_St) (i z : Nat) (hi : S 28 1 = nI i) (hi8 : i < 8) (hzz : S 28 2 = nI z) (hz8 : z ≤ 8) (hz1 : 1 ≤ z) (hz : q_bool S (30 + 9 * ((i + 8 - 1) % 8))) : q_Fv l yX2_takeBack kX2_takeBack 2 [.ref 28, .ref 1] S (uH_back S i z) := by
  refine q_Fv_of (maxL := 2) rfl (by decide +kernel) (fun ad => Nat.le_of_ble_eq_true rfl) ?_
  intro K C hret
  have C : q_Cx K cX2_takeBack RX2 2 2 := C
  show q_V l K 0 [(0, .ref 28), (1, .ref 1)] [] S
  refine q_aload_n C dX2_takeBack_0 rfl rfl ?_
  refine q_aload_n C dX2_takeBack_1 rfl rfl ?_
  refine q_getI (x := nI i) C flX2_18 q_s28 rfl dX2_takeBack_2 hi ?_
  refine q_bipush (v := 8) C dX2_takeBack_5 (by decide) ?_
  refine q_iaddN (a := i) (b := 8) C dX2_takeBack_7 rfl rfl ?_
  refine q_iconst (v := 1) C dX2_takeBack_8 (by decide) ?_
  refine q_isubN (a := i + 8) (b := 1) C dX2_takeBack_9 rfl rfl (by omega) ?_
  refine q_bipush (v := 8) C dX2_takeBack_10 (by decide) ?_
  refine q_iremN (a := i + 8 - 1) (b := 8) C dX2_takeBack_12 rfl rfl (by omega) (by decide) (by decide) ?_
  refine q_put (ty9 := .int) C flX2_18 q_s28 rfl (fun _ _ _ h => by cases h; exact ⟨rfl, by decide +kernel⟩) rfl rfl dX2_takeBack_13 ?_
  refine q_aload_n C dX2_takeBack_16 rfl rfl ?_
  refine q_dup C rfl dX2_takeBack_17 ?_
  refine q_getI (x := nI z) C flX2_26 q_s28 rfl dX2_takeBack_18 hzz ?_
  refine q_iconst (v := 1) C dX2_takeBack_21 (by decide) ?_
  refine q_isubN (a := z) (b := 1) C dX2_takeBack_22 rfl rfl (by omega) ?_
  refine q_put (ty9 := .int) C flX2_26 q_s28 rfl (fun _ _ _ h => by cases h; exact ⟨rfl, by decide +kernel⟩) rfl rfl dX2_takeBack_23 ?_
  refine q_aload_n C dX2_takeBack_26 rfl rfl ?_
  refine q_aload_n C dX2_takeBack_27 rfl rfl ?_
  refine q_getR C flX2_11 q_s28 rfl dX2_takeBack_28 ?_
  refine q_aload_n C dX2_takeBack_31 rfl rfl ?_
  refine q_getI (x := nI ((i + 8 - 1) % 8)) C flX2_18 q_s28 rfl dX2_takeBack_32 rfl ?_
  refine q_aldN (i := ((i + 8 - 1) % 8)) C rfl q_s29 (by omega) (by decide) dX2_takeBack_35 ?_
  generalize hj : ((i + 8 - 1) % 8) = j at *
  have hj8 : j < 8 := by omega
  rcases (show j = 0 ∨ j = 1 ∨ j = 2 ∨ j = 3 ∨ j = 4 ∨ j = 5 ∨ j = 6 ∨ j = 7 by omega) with rfl | rfl | rfl | rfl | rfl | rfl | rfl | rfl
  · refine q_cv1 C (c_X1_copy_1_30 l (q_p (q_p S 28 1 (nI 0)) 28 2 (nI (z - 1))) hz) myX1_copyFrom mlX2_22 q_s1 ⟨by decide, by decide⟩ (Nat.le_of_ble_eq_true rfl) dX2_takeBack_36 ?_
    exact hret _ _ _ dX2_takeBack_39 (by rw [uH_back, hj])
  · refine q_cv1 C (c_X1_copy_1_39 l (q_p (q_p S 28 1 (nI 1)) 28 2 (nI (z - 1))) hz) myX1_copyFrom mlX2_22 q_s1 ⟨by decide, by decide⟩ (Nat.le_of_ble_eq_true rfl) dX2_takeBack_36 ?_
    exact hret _ _ _ dX2_takeBack_39 (by rw [uH_back, hj])
  · refine q_cv1 C (c_X1_copy_1_48 l (q_p (q_p S 28 1 (nI 2)) 28 2 (nI (z - 1))) hz) myX1_copyFrom mlX2_22 q_s1 ⟨by decide, by decide⟩ (Nat.le_of_ble_eq_true rfl) dX2_takeBack_36 ?_
    exact hret _ _ _ dX2_takeBack_39 (by rw [uH_back, hj])
  · refine q_cv1 C (c_X1_copy_1_57 l (q_p (q_p S 28 1 (nI 3)) 28 2 (nI (z - 1))) hz) myX1_copyFrom mlX2_22 q_s1 ⟨by decide, by decide⟩ (Nat.le_of_ble_eq_true rfl) dX2_takeBack_36 ?_
    exact hret _ _ _ dX2_takeBack_39 (by rw [uH_back, hj])
  · refine q_cv1 C (c_X1_copy_1_66 l (q_p (q_p S 28 1 (nI 4)) 28 2 (nI (z - 1))) hz) myX1_copyFrom mlX2_22 q_s1 ⟨by decide, by decide⟩ (Nat.le_of_ble_eq_true rfl) dX2_takeBack_36 ?_
    exact hret _ _ _ dX2_takeBack_39 (by rw [uH_back, hj])
  · refine q_cv1 C (c_X1_copy_1_75 l (q_p (q_p S 28 1 (nI 5)) 28 2 (nI (z - 1))) hz) myX1_copyFrom mlX2_22 q_s1 ⟨by decide, by decide⟩ (Nat.le_of_ble_eq_true rfl) dX2_takeBack_36 ?_
    exact hret _ _ _ dX2_takeBack_39 (by rw [uH_back, hj])
  · refine q_cv1 C (c_X1_copy_1_84 l (q_p (q_p S 28 1 (nI 6)) 28 2 (nI (z - 1))) hz) myX1_copyFrom mlX2_22 q_s1 ⟨by decide, by decide⟩ (Nat.le_of_ble_eq_true rfl) dX2_takeBack_36 ?_
    exact hret _ _ _ dX2_takeBack_39 (by rw [uH_back, hj])
  · refine q_cv1 C (c_X1_copy_1_93 l (q_p (q_p S 28 1 (nI 7)) 28 2 (nI (z - 1))) hz) myX1_copyFrom mlX2_22 q_s1 ⟨by decide, by decide⟩ (Nat.le_of_ble_eq_true rfl) dX2_takeBack_36 ?_
    exact hret _ _ _ dX2_takeBack_39 (by rw [uH_back, hj])
theorem c_X5_keepIf (l : Launch) (S : q_St) (x : Int32) (n : Int32) (d : Int32) (hx : x = 0 ∨ x = 1) : q_Fi l yX5_keepIf kX5_keepIf 1 [.ref 102, .int x, .int n, .int d] S x (if x = 0 then S else uR_set S n d) := by
  refine q_Fi_of (maxL := 4) rfl (by decide +kernel) (fun ad => Nat.le_of_ble_eq_true rfl) (q_narrow_b hx) ?_
  intro K C hret
  have C : q_Cx K cX5_keepIf RX5 1 4 := C
  show q_V l K 0 [(0, .ref 102), (1, .int x), (2, .int n), (3, .int d)] [] S
  refine q_iload_n C dX5_keepIf_0 rfl rfl ?_
  refine q_if_eq (tgt := 14) C dX5_keepIf_1 (by decide)  (fun c_1 => ?_) (fun c_1 => ?_)
  · refine q_iload_n C dX5_keepIf_14 rfl rfl ?_
    exact hret _ _ _ _ dX5_keepIf_15 rfl (by simp [uR_set, c_1])
  · refine q_aload_n C dX5_keepIf_4 rfl rfl ?_
    refine q_iload_n C dX5_keepIf_5 rfl rfl ?_
    refine q_put (ty9 := .int) C flX5_84 q_s102 rfl (fun _ _ _ h => by cases h; exact ⟨rfl, by decide +kernel⟩) rfl rfl dX5_keepIf_6 ?_
    refine q_aload_n C dX5_keepIf_9 rfl rfl ?_
    refine q_iload_n C dX5_keepIf_10 rfl rfl ?_
    refine q_put (ty9 := .int) C flX5_87 q_s102 rfl (fun _ _ _ h => by cases h; exact ⟨rfl, by decide +kernel⟩) rfl rfl dX5_keepIf_11 ?_
    refine q_iload_n C dX5_keepIf_14 rfl rfl ?_
    exact hret _ _ _ _ dX5_keepIf_15 rfl (by simp [uR_set, c_1])
theorem c_X5_hasFainted (l : Launch) (S : q_St) (M : Nat) (hM : S 1 0 = nI M) (hM8 : M ≤ 8) : q_Fi l yX5_hasFainted kX5_hasFainted 2 [.ref 102] S (if S 1 5 = 0 then 1 else 0) (if S 1 5 = 0 then uR_set S 2 (uC_matters S M 0) else S) := by
  refine q_Fi_of (maxL := 1) rfl (by decide +kernel) (fun ad => Nat.le_of_ble_eq_true rfl) (by split <;> rfl) ?_
  intro K C hret
  have C : q_Cx K cX5_hasFainted RX5 2 1 := C
  show q_V l K 0 [(0, .ref 102)] [] S
  refine q_aload_n C dX5_hasFainted_0 rfl rfl ?_
  refine q_aload_n C dX5_hasFainted_1 rfl rfl ?_
  refine q_getR C flX5_9 q_s102 rfl dX5_hasFainted_2 ?_
  refine q_getI (x := S 1 5) C flX5_58 q_s1 rfl dX5_hasFainted_5 rfl ?_
  refine q_if_ne (tgt := 15) C dX5_hasFainted_8 (by decide)  (fun c_8 => ?_) (fun c_8 => ?_)
  · refine q_iconst (v := 0) C dX5_hasFainted_15 (by decide) ?_
    refine q_iconst (v := 2) C dX5_hasFainted_16 (by decide) ?_
    refine q_aload_n C dX5_hasFainted_17 rfl rfl ?_
    refine q_getR C flX5_9 q_s102 rfl dX5_hasFainted_18 ?_
    refine q_iconst (v := 0) C dX5_hasFainted_21 (by decide) ?_
    refine q_ci1 C (c_X1_countMatters l S M hM hM8 0) myX1_countMatters mlX5_69 q_s1 ⟨by decide, by decide⟩ (Nat.le_of_ble_eq_true rfl) dX5_hasFainted_22 ?_
    refine q_ci3 C (q_Fi.cs rfl (if_pos rfl) (c_X5_keepIf l S 0 2 (uC_matters S M 0) (Or.inl rfl))) myX5_keepIf mlX5_21 q_s102 ⟨by decide, by decide⟩ (Nat.le_of_ble_eq_true rfl) dX5_hasFainted_25 ?_
    exact hret _ _ _ _ dX5_hasFainted_28 (by simp [c_8]) (by simp [c_8])
  · refine q_iconst (v := 1) C dX5_hasFainted_11 (by decide) ?_
    refine q_goto (tgt := 16) C dX5_hasFainted_12 (by decide) ?_
    refine q_iconst (v := 2) C dX5_hasFainted_16 (by decide) ?_
    refine q_aload_n C dX5_hasFainted_17 rfl rfl ?_
    refine q_getR C flX5_9 q_s102 rfl dX5_hasFainted_18 ?_
    refine q_iconst (v := 0) C dX5_hasFainted_21 (by decide) ?_
    refine q_ci1 C (c_X1_countMatters l S M hM hM8 0) myX1_countMatters mlX5_69 q_s1 ⟨by decide, by decide⟩ (Nat.le_of_ble_eq_true rfl) dX5_hasFainted_22 ?_
    refine q_ci3 C (q_Fi.cs rfl (if_neg (by decide)) (c_X5_keepIf l S 1 2 (uC_matters S M 0) (Or.inr rfl))) myX5_keepIf mlX5_21 q_s102 ⟨by decide, by decide⟩ (Nat.le_of_ble_eq_true rfl) dX5_hasFainted_25 ?_
    exact hret _ _ _ _ dX5_hasFainted_28 (by simp [c_8]) (by simp [c_8])
theorem c_X5_isNotOpen (l : Launch) (S : q_St) (m : Nat) (hm : m < 8) : q_Fi l yX5_isNotOpen kX5_isNotOpen 2 [.ref 102, .int (nI m)] S (if S 2 m ≠ 0 then 1 else 0) (if S 2 m ≠ 0 then uR_set S 3 (S 2 m) else S) := by
  refine q_Fi_of (maxL := 2) rfl (by decide +kernel) (fun ad => Nat.le_of_ble_eq_true rfl) (by split <;> rfl) ?_
  intro K C hret
  have C : q_Cx K cX5_isNotOpen RX5 2 2 := C
  show q_V l K 0 [(0, .ref 102), (1, .int (nI m))] [] S
  refine q_aload_n C dX5_isNotOpen_0 rfl rfl ?_
  refine q_aload_n C dX5_isNotOpen_1 rfl rfl ?_
  refine q_getR C flX5_9 q_s102 rfl dX5_isNotOpen_2 ?_
  refine q_getR C flX5_54 q_s1 rfl dX5_isNotOpen_5 ?_
  refine q_iload_n C dX5_isNotOpen_8 rfl rfl ?_
  refine q_ialdN (i := m) (x := S 2 m) C rfl q_s2 (by omega) (by decide) dX5_isNotOpen_9 rfl ?_
  refine q_if_eq (tgt := 17) C dX5_isNotOpen_10 (by decide)  (fun c_10 => ?_) (fun c_10 => ?_)
  · refine q_iconst (v := 0) C dX5_isNotOpen_17 (by decide) ?_
    refine q_iconst (v := 3) C dX5_isNotOpen_18 (by decide) ?_
    refine q_aload_n C dX5_isNotOpen_19 rfl rfl ?_
    refine q_getR C flX5_9 q_s102 rfl dX5_isNotOpen_20 ?_
    refine q_getR C flX5_54 q_s1 rfl dX5_isNotOpen_23 ?_
    refine q_iload_n C dX5_isNotOpen_26 rfl rfl ?_
    refine q_ialdN (i := m) (x := S 2 m) C rfl q_s2 (by omega) (by decide) dX5_isNotOpen_27 rfl ?_
    refine q_ci3 C (q_Fi.cs rfl (if_pos rfl) (c_X5_keepIf l S 0 3 (S 2 m) (Or.inl rfl))) myX5_keepIf mlX5_21 q_s102 ⟨by decide, by decide⟩ (Nat.le_of_ble_eq_true rfl) dX5_isNotOpen_28 ?_
    exact hret _ _ _ _ dX5_isNotOpen_31 (by simp [c_10]) (by simp [c_10])
  · refine q_iconst (v := 1) C dX5_isNotOpen_13 (by decide) ?_
    refine q_goto (tgt := 18) C dX5_isNotOpen_14 (by decide) ?_
    refine q_iconst (v := 3) C dX5_isNotOpen_18 (by decide) ?_
    refine q_aload_n C dX5_isNotOpen_19 rfl rfl ?_
    refine q_getR C flX5_9 q_s102 rfl dX5_isNotOpen_20 ?_
    refine q_getR C flX5_54 q_s1 rfl dX5_isNotOpen_23 ?_
    refine q_iload_n C dX5_isNotOpen_26 rfl rfl ?_
    refine q_ialdN (i := m) (x := S 2 m) C rfl q_s2 (by omega) (by decide) dX5_isNotOpen_27 rfl ?_
    refine q_ci3 C (q_Fi.cs rfl (if_neg (by decide)) (c_X5_keepIf l S 1 3 (S 2 m) (Or.inr rfl))) myX5_keepIf mlX5_21 q_s102 ⟨by decide, by decide⟩ (Nat.le_of_ble_eq_true rfl) dX5_isNotOpen_28 ?_
    exact hret _ _ _ _ dX5_isNotOpen_31 (by simp [c_10]) (by simp [c_10])
theorem c_X5_isNoGuildOf (l : Launch) (S : q_St) (m : Nat) (hm : m < 8) (g : Nat) (hg : g < 6) : q_Fi l yX5_isNoGuildOf kX5_isNoGuildOf 2 [.ref 102, .int (nI m), .int (nI g)] S (if S 5 (m * 6 + g) = 0 then 1 else 0) (if S 5 (m * 6 + g) = 0 then uR_set S 4 (nI g) else S) := by
  refine q_Fi_of (maxL := 3) rfl (by decide +kernel) (fun ad => Nat.le_of_ble_eq_true rfl) (by split <;> rfl) ?_
  intro K C hret
  have C : q_Cx K cX5_isNoGuildOf RX5 2 3 := C
  show q_V l K 0 [(0, .ref 102), (1, .int (nI m)), (2, .int (nI g))] [] S
  refine q_aload_n C dX5_isNoGuildOf_0 rfl rfl ?_
  refine q_aload_n C dX5_isNoGuildOf_1 rfl rfl ?_
  refine q_getR C flX5_9 q_s102 rfl dX5_isNoGuildOf_2 ?_
  refine q_iload_n C dX5_isNoGuildOf_5 rfl rfl ?_
  refine q_iload_n C dX5_isNoGuildOf_6 rfl rfl ?_
  by_cases h_7 : S 5 (m * 6 + g) ≠ 0
  · refine q_ci2 C (q_Fi.cv (if_pos h_7) (c_X1_isGuildOf l S m (by omega) g (by omega))) myX1_isGuildOf mlX5_72 q_s1 ⟨by decide, by decide⟩ (Nat.le_of_ble_eq_true rfl) dX5_isNoGuildOf_7 ?_
    refine q_if_ne (tgt := 17) C dX5_isNoGuildOf_10 (by decide) (fun _ => ?_) (fun h9 => absurd h9 (by decide))
    refine q_iconst (v := 0) C dX5_isNoGuildOf_17 (by decide) ?_
    refine q_iconst (v := 4) C dX5_isNoGuildOf_18 (by decide) ?_
    refine q_iload_n C dX5_isNoGuildOf_19 rfl rfl ?_
    refine q_ci3 C (q_Fi.cs rfl (if_pos rfl) (c_X5_keepIf l S 0 4 (nI g) (Or.inl rfl))) myX5_keepIf mlX5_21 q_s102 ⟨by decide, by decide⟩ (Nat.le_of_ble_eq_true rfl) dX5_isNoGuildOf_20 ?_
    exact hret _ _ _ _ dX5_isNoGuildOf_23 (by simp [if_pos h_7, h_7]) (by simp [if_pos h_7, h_7])
  · refine q_ci2 C (q_Fi.cv (if_neg h_7) (c_X1_isGuildOf l S m (by omega) g (by omega))) myX1_isGuildOf mlX5_72 q_s1 ⟨by decide, by decide⟩ (Nat.le_of_ble_eq_true rfl) dX5_isNoGuildOf_7 ?_
    refine q_if_ne (tgt := 17) C dX5_isNoGuildOf_10 (by decide) (fun h9 => absurd h9 (by decide)) (fun _ => ?_)
    refine q_iconst (v := 1) C dX5_isNoGuildOf_13 (by decide) ?_
    refine q_goto (tgt := 18) C dX5_isNoGuildOf_14 (by decide) ?_
    refine q_iconst (v := 4) C dX5_isNoGuildOf_18 (by decide) ?_
    refine q_iload_n C dX5_isNoGuildOf_19 rfl rfl ?_
    refine q_ci3 C (q_Fi.cs rfl (if_neg (by decide)) (c_X5_keepIf l S 1 4 (nI g) (Or.inr rfl))) myX5_keepIf mlX5_21 q_s102 ⟨by decide, by decide⟩ (Nat.le_of_ble_eq_true rfl) dX5_isNoGuildOf_20 ?_
    exact hret _ _ _ _ dX5_isNoGuildOf_23 (by simp [if_neg h_7, h_7, Decidable.not_not.mp h_7]) (by simp [if_neg h_7, h_7, Decidable.not_not.mp h_7])
theorem c_X5_isAsleep (l : Launch) (S : q_St) (g : Nat) (hg : g < 6) : q_Fi l yX5_isAsleep kX5_isAsleep 2 [.ref 102, .int (nI g)] S (if S 9 g = 0 then 1 else 0) (if S 9 g = 0 then uR_set S 5 (nI g) else S) := by
  refine q_Fi_of (maxL := 2) rfl (by decide +kernel) (fun ad => Nat.le_of_ble_eq_true rfl) (by split <;> rfl) ?_
  intro K C hret
  have C : q_Cx K cX5_isAsleep RX5 2 2 := C
  show q_V l K 0 [(0, .ref 102), (1, .int (nI g))] [] S
  refine q_aload_n C dX5_isAsleep_0 rfl rfl ?_
  refine q_aload_n C dX5_isAsleep_1 rfl rfl ?_
  refine q_getR C flX5_9 q_s102 rfl dX5_isAsleep_2 ?_
  refine q_getR C flX5_65 q_s1 rfl dX5_isAsleep_5 ?_
  refine q_iload_n C dX5_isAsleep_8 rfl rfl ?_
  refine q_zaldN (i := g) (x := S 9 g) C rfl q_s9 (by omega) (by decide) dX5_isAsleep_9 rfl ?_
  refine q_if_ne (tgt := 17) C dX5_isAsleep_10 (by decide)  (fun c_10 => ?_) (fun c_10 => ?_)
  · refine q_iconst (v := 0) C dX5_isAsleep_17 (by decide) ?_
    refine q_iconst (v := 5) C dX5_isAsleep_18 (by decide) ?_
    refine q_iload_n C dX5_isAsleep_19 rfl rfl ?_
    refine q_ci3 C (q_Fi.cs rfl (if_pos rfl) (c_X5_keepIf l S 0 5 (nI g) (Or.inl rfl))) myX5_keepIf mlX5_21 q_s102 ⟨by decide, by decide⟩ (Nat.le_of_ble_eq_true rfl) dX5_isAsleep_20 ?_
    exact hret _ _ _ _ dX5_isAsleep_23 (by simp [c_10]) (by simp [c_10])
  · refine q_iconst (v := 1) C dX5_isAsleep_13 (by decide) ?_
    refine q_goto (tgt := 18) C dX5_isAsleep_14 (by decide) ?_
    refine q_iconst (v := 5) C dX5_isAsleep_18 (by decide) ?_
    refine q_iload_n C dX5_isAsleep_19 rfl rfl ?_
    refine q_ci3 C (q_Fi.cs rfl (if_neg (by decide)) (c_X5_keepIf l S 1 5 (nI g) (Or.inr rfl))) myX5_keepIf mlX5_21 q_s102 ⟨by decide, by decide⟩ (Nat.le_of_ble_eq_true rfl) dX5_isAsleep_20 ?_
    exact hret _ _ _ _ dX5_isAsleep_23 (by simp [c_10]) (by simp [c_10])
theorem c_X5_isUndecided (l : Launch) (S : q_St) (m : Nat) (hm : m < 8) : q_Fi l yX5_isUndecided kX5_isUndecided 3 [.ref 102, .int (nI m)] S (if uR_und S m then 1 else 0) (if uR_und S m then uR_set S 7 (nI (uC_first S m)) else S) := by
  refine q_Fi_of (maxL := 4) rfl (by decide +kernel) (fun ad => Nat.le_of_ble_eq_true rfl) (by split <;> rfl) ?_
  intro K C hret
  have C : q_Cx K cX5_isUndecided RX5 3 4 := C
  show q_V l K 0 [(0, .ref 102), (1, .int (nI m))] [] S
  have hf6 := uC_first_le S m
  refine q_aload_n C dX5_isUndecided_0 rfl rfl ?_
  refine q_getR C flX5_9 q_s102 rfl dX5_isUndecided_1 ?_
  refine q_iload_n C dX5_isUndecided_4 rfl rfl ?_
  refine q_ci1 C (c_X1_firstNotAsked l S m (by omega)) myX1_firstNotAsked mlX5_75 q_s1 ⟨by decide, by decide⟩ (Nat.le_of_ble_eq_true rfl) dX5_isUndecided_5 ?_
  refine q_istore_n (lv' := [(2, .int (nI (uC_first S m))), (0, .ref 102), (1, .int (nI m))]) C dX5_isUndecided_8 rfl (by decide) rfl ?_
  refine q_iload_n C dX5_isUndecided_9 rfl rfl ?_
  refine q_bipush (v := 6) C dX5_isUndecided_10 (by decide) ?_
  refine q_icmp_ltN (a := uC_first S m) (b := 6) (tgt := 26) C dX5_isUndecided_12 (by decide) rfl rfl (by omega) (by omega) (fun c_12 => ?_) (fun c_12 => ?_)
  · refine q_iconst (v := 1) C dX5_isUndecided_26 (by decide) ?_
    refine q_goto (tgt := 31) C dX5_isUndecided_27 (by decide) ?_
    refine q_istore_n (lv' := [(3, .int 1), (2, .int (nI (uC_first S m))), (0, .ref 102), (1, .int (nI m))]) C dX5_isUndecided_31 rfl (by decide) rfl ?_
    refine q_aload_n C dX5_isUndecided_32 rfl rfl ?_
    refine q_iload_n C dX5_isUndecided_33 rfl rfl ?_
    refine q_if_eq (tgt := 52) C dX5_isUndecided_34 (by decide) (fun h9 => absurd h9 (by decide)) (fun _ => ?_)
    refine q_aload_n C dX5_isUndecided_37 rfl rfl ?_
    refine q_getR C flX5_9 q_s102 rfl dX5_isUndecided_38 ?_
    refine q_iload_n C dX5_isUndecided_41 rfl rfl ?_
    by_cases h_42 : uC_opposed S m
    · refine q_ci1 C (q_Fi.cv (if_pos h_42) (c_X1_isOpposed l S m (by omega))) myX1_isOpposed mlX5_81 q_s1 ⟨by decide, by decide⟩ (Nat.le_of_ble_eq_true rfl) dX5_isUndecided_42 ?_
      refine q_if_ne (tgt := 52) C dX5_isUndecided_45 (by decide) (fun _ => ?_) (fun h9 => absurd h9 (by decide))
      refine q_iconst (v := 0) C dX5_isUndecided_52 (by decide) ?_
      refine q_bipush (v := 7) C dX5_isUndecided_53 (by decide) ?_
      refine q_iload_n C dX5_isUndecided_55 rfl rfl ?_
      refine q_ci3 C (q_Fi.cs rfl (if_pos rfl) (c_X5_keepIf l S 0 7 (nI (uC_first S m)) (Or.inl rfl))) myX5_keepIf mlX5_21 q_s102 ⟨by decide, by decide⟩ (Nat.le_of_ble_eq_true rfl) dX5_isUndecided_56 ?_
      exact hret _ _ _ _ dX5_isUndecided_59 (by simp [uR_und, c_12, Nat.not_le.mpr c_12, if_pos h_42, h_42]) (by simp [uR_und, c_12, Nat.not_le.mpr c_12, if_pos h_42, h_42])
    · refine q_ci1 C (q_Fi.cv (if_neg h_42) (c_X1_isOpposed l S m (by omega))) myX1_isOpposed mlX5_81 q_s1 ⟨by decide, by decide⟩ (Nat.le_of_ble_eq_true rfl) dX5_isUndecided_42 ?_
      refine q_if_ne (tgt := 52) C dX5_isUndecided_45 (by decide) (fun h9 => absurd h9 (by decide)) (fun _ => ?_)
      refine q_iconst (v := 1) C dX5_isUndecided_48 (by decide) ?_
      refine q_goto (tgt := 53) C dX5_isUndecided_49 (by decide) ?_
      refine q_bipush (v := 7) C dX5_isUndecided_53 (by decide) ?_
      refine q_iload_n C dX5_isUndecided_55 rfl rfl ?_
      refine q_ci3 C (q_Fi.cs rfl (if_neg (by decide)) (c_X5_keepIf l S 1 7 (nI (uC_first S m)) (Or.inr rfl))) myX5_keepIf mlX5_21 q_s102 ⟨by decide, by decide⟩ (Nat.le_of_ble_eq_true rfl) dX5_isUndecided_56 ?_
      exact hret _ _ _ _ dX5_isUndecided_59 (by simp [uR_und, c_12, Nat.not_le.mpr c_12, if_neg h_42, h_42]) (by simp [uR_und, c_12, Nat.not_le.mpr c_12, if_neg h_42, h_42])
  · refine q_aload_n C dX5_isUndecided_15 rfl rfl ?_
    refine q_getR C flX5_9 q_s102 rfl dX5_isUndecided_16 ?_
    refine q_iload_n C dX5_isUndecided_19 rfl rfl ?_
    refine q_ci1 C (c_X1_countGuilds l S m (by omega)) myX1_countGuilds mlX5_78 q_s1 ⟨by decide, by decide⟩ (Nat.le_of_ble_eq_true rfl) dX5_isUndecided_20 ?_
    refine q_if_ne (tgt := 30) C dX5_isUndecided_23 (by decide)  (fun c_23 => ?_) (fun c_23 => ?_)
    · refine q_iconst (v := 0) C dX5_isUndecided_30 (by decide) ?_
      refine q_istore_n (lv' := [(3, .int 0), (2, .int (nI (uC_first S m))), (0, .ref 102), (1, .int (nI m))]) C dX5_isUndecided_31 rfl (by decide) rfl ?_
      refine q_aload_n C dX5_isUndecided_32 rfl rfl ?_
      refine q_iload_n C dX5_isUndecided_33 rfl rfl ?_
      refine q_if_eq (tgt := 52) C dX5_isUndecided_34 (by decide) (fun _ => ?_) (fun h9 => absurd h9 (by decide))
      refine q_iconst (v := 0) C dX5_isUndecided_52 (by decide) ?_
      refine q_bipush (v := 7) C dX5_isUndecided_53 (by decide) ?_
      refine q_iload_n C dX5_isUndecided_55 rfl rfl ?_
      refine q_ci3 C (q_Fi.cs rfl (if_pos rfl) (c_X5_keepIf l S 0 7 (nI (uC_first S m)) (Or.inl rfl))) myX5_keepIf mlX5_21 q_s102 ⟨by decide, by decide⟩ (Nat.le_of_ble_eq_true rfl) dX5_isUndecided_56 ?_
      exact hret _ _ _ _ dX5_isUndecided_59 (by simp [uR_und, c_12, Nat.not_lt.mpr c_12, c_23]) (by simp [uR_und, c_12, Nat.not_lt.mpr c_12, c_23])
    · refine q_iconst (v := 1) C dX5_isUndecided_26 (by decide) ?_
      refine q_goto (tgt := 31) C dX5_isUndecided_27 (by decide) ?_
      refine q_istore_n (lv' := [(3, .int 1), (2, .int (nI (uC_first S m))), (0, .ref 102), (1, .int (nI m))]) C dX5_isUndecided_31 rfl (by decide) rfl ?_
      refine q_aload_n C dX5_isUndecided_32 rfl rfl ?_
      refine q_iload_n C dX5_isUndecided_33 rfl rfl ?_
      refine q_if_eq (tgt := 52) C dX5_isUndecided_34 (by decide) (fun h9 => absurd h9 (by decide)) (fun _ => ?_)
      refine q_aload_n C dX5_isUndecided_37 rfl rfl ?_
      refine q_getR C flX5_9 q_s102 rfl dX5_isUndecided_38 ?_
      refine q_iload_n C dX5_isUndecided_41 rfl rfl ?_
      by_cases h_42 : uC_opposed S m
      · refine q_ci1 C (q_Fi.cv (if_pos h_42) (c_X1_isOpposed l S m (by omega))) myX1_isOpposed mlX5_81 q_s1 ⟨by decide, by decide⟩ (Nat.le_of_ble_eq_true rfl) dX5_isUndecided_42 ?_
        refine q_if_ne (tgt := 52) C dX5_isUndecided_45 (by decide) (fun _ => ?_) (fun h9 => absurd h9 (by decide))
        refine q_iconst (v := 0) C dX5_isUndecided_52 (by decide) ?_
        refine q_bipush (v := 7) C dX5_isUndecided_53 (by decide) ?_
        refine q_iload_n C dX5_isUndecided_55 rfl rfl ?_
        refine q_ci3 C (q_Fi.cs rfl (if_pos rfl) (c_X5_keepIf l S 0 7 (nI (uC_first S m)) (Or.inl rfl))) myX5_keepIf mlX5_21 q_s102 ⟨by decide, by decide⟩ (Nat.le_of_ble_eq_true rfl) dX5_isUndecided_56 ?_
        exact hret _ _ _ _ dX5_isUndecided_59 (by simp [uR_und, c_12, Nat.not_lt.mpr c_12, c_23, if_pos h_42, h_42]) (by simp [uR_und, c_12, Nat.not_lt.mpr c_12, c_23, if_pos h_42, h_42])
      · refine q_ci1 C (q_Fi.cv (if_neg h_42) (c_X1_isOpposed l S m (by omega))) myX1_isOpposed mlX5_81 q_s1 ⟨by decide, by decide⟩ (Nat.le_of_ble_eq_true rfl) dX5_isUndecided_42 ?_
        refine q_if_ne (tgt := 52) C dX5_isUndecided_45 (by decide) (fun h9 => absurd h9 (by decide)) (fun _ => ?_)
        refine q_iconst (v := 1) C dX5_isUndecided_48 (by decide) ?_
        refine q_goto (tgt := 53) C dX5_isUndecided_49 (by decide) ?_
        refine q_bipush (v := 7) C dX5_isUndecided_53 (by decide) ?_
        refine q_iload_n C dX5_isUndecided_55 rfl rfl ?_
        refine q_ci3 C (q_Fi.cs rfl (if_neg (by decide)) (c_X5_keepIf l S 1 7 (nI (uC_first S m)) (Or.inr rfl))) myX5_keepIf mlX5_21 q_s102 ⟨by decide, by decide⟩ (Nat.le_of_ble_eq_true rfl) dX5_isUndecided_56 ?_
        exact hret _ _ _ _ dX5_isUndecided_59 (by simp [uR_und, c_12, Nat.not_lt.mpr c_12, c_23, if_neg h_42, h_42]) (by simp [uR_und, c_12, Nat.not_lt.mpr c_12, c_23, if_neg h_42, h_42])
theorem c_X5_refusesMatter (l : Launch) (S : q_St) (M : Nat) (hM : S 1 0 = nI M) (hM8 : M ≤ 8) : q_Fi l yX5_refusesMatter kX5_refusesMatter 2 [.ref 102] S (uR_v (uR_matter M)) (uR_st S (uR_matter M)) := by
  refine q_Fi_of (maxL := 1) rfl (by decide +kernel) (fun ad => Nat.le_of_ble_eq_true rfl) (uR_nb _) ?_
  intro K C hret
  have C : q_Cx K cX5_refusesMatter RX5 2 1 := C
  show q_V l K 0 [(0, .ref 102)] [] S
  refine q_aload_n C dX5_refusesMatter_0 rfl rfl ?_
  refine q_aload_n C dX5_refusesMatter_1 rfl rfl ?_
  refine q_getR C flX5_9 q_s102 rfl dX5_refusesMatter_2 ?_
  refine q_getI (x := nI M) C flX5_15 q_s1 rfl dX5_refusesMatter_5 hM ?_
  refine q_bipush (v := 8) C dX5_refusesMatter_8 (by decide) ?_
  refine q_icmp_ltN (a := M) (b := 8) (tgt := 17) C dX5_refusesMatter_10 (by decide) rfl rfl (by omega) (by omega) (fun c_10 => ?_) (fun c_10 => ?_)
  · refine q_iconst (v := 0) C dX5_refusesMatter_17 (by decide) ?_
    refine q_iconst (v := 1) C dX5_refusesMatter_18 (by decide) ?_
    refine q_aload_n C dX5_refusesMatter_19 rfl rfl ?_
    refine q_getR C flX5_9 q_s102 rfl dX5_refusesMatter_20 ?_
    refine q_getI (x := nI M) C flX5_15 q_s1 rfl dX5_refusesMatter_23 hM ?_
    refine q_ci3 C (q_Fi.cs rfl (if_pos rfl) (c_X5_keepIf l S 0 1 (nI M) (Or.inl rfl))) myX5_keepIf mlX5_21 q_s102 ⟨by decide, by decide⟩ (Nat.le_of_ble_eq_true rfl) dX5_refusesMatter_26 ?_
    exact hret _ _ _ _ dX5_refusesMatter_29 (by simp [uR_matter, uR_v, c_10, Nat.not_le.mpr c_10]) (by simp [uR_matter, uR_st, c_10, Nat.not_le.mpr c_10])
  · refine q_iconst (v := 1) C dX5_refusesMatter_13 (by decide) ?_
    refine q_goto (tgt := 18) C dX5_refusesMatter_14 (by decide) ?_
    refine q_iconst (v := 1) C dX5_refusesMatter_18 (by decide) ?_
    refine q_aload_n C dX5_refusesMatter_19 rfl rfl ?_
    refine q_getR C flX5_9 q_s102 rfl dX5_refusesMatter_20 ?_
    refine q_getI (x := nI M) C flX5_15 q_s1 rfl dX5_refusesMatter_23 hM ?_
    refine q_ci3 C (q_Fi.cs rfl (if_neg (by decide)) (c_X5_keepIf l S 1 1 (nI M) (Or.inr rfl))) myX5_keepIf mlX5_21 q_s102 ⟨by decide, by decide⟩ (Nat.le_of_ble_eq_true rfl) dX5_refusesMatter_26 ?_
    exact hret _ _ _ _ dX5_refusesMatter_29 (by simp [uR_matter, uR_v, c_10, Nat.not_lt.mpr c_10]) (by simp [uR_matter, uR_st, c_10, Nat.not_lt.mpr c_10])
theorem c_X5_refusesSet (l : Launch) (S : q_St) (m : Nat) (hm : m < 8) (g : Nat) (hg : g < 6) (a : Int32) : q_Fi l yX5_refusesSet kX5_refusesSet 4 [.ref 102, .int (nI m), .int (nI g), .int a] S (uR_v (uR_setA S m g a)) (uR_st S (uR_setA S m g a)) := by
  refine q_Fi_of (maxL := 5) rfl (by decide +kernel) (fun ad => Nat.le_of_ble_eq_true rfl) (uR_nb (uR_setA S m g a)) ?_
  intro K C hret
  have C : q_Cx K cX5_refusesSet RX5 4 5 := C
  show q_V l K 0 [(0, .ref 102), (1, .int (nI m)), (2, .int (nI g)), (3, .int a)] [] S
  refine q_aload_n C dX5_refusesSet_0 rfl rfl ?_
  refine q_getR C flX5_9 q_s102 rfl dX5_refusesSet_1 ?_
  refine q_iload_n C dX5_refusesSet_4 rfl rfl ?_
  refine q_ci1 C (c_X1_countAnswered l S m (by omega)) myX1_countAnswered mlX5_25 q_s1 ⟨by decide, by decide⟩ (Nat.le_of_ble_eq_true rfl) dX5_refusesSet_5 ?_
  refine q_istore (lv' := [(4, .int (uC_answered S m)), (0, .ref 102), (1, .int (nI m)), (2, .int (nI g)), (3, .int a)]) C dX5_refusesSet_8 (by decide) rfl ?_
  refine q_aload_n C dX5_refusesSet_10 rfl rfl ?_
  refine q_iload_n C dX5_refusesSet_11 rfl rfl ?_
  by_cases h_12 : S 2 m ≠ 0
  · refine q_ci1 C (q_Fi.cs (if_pos h_12) (if_pos h_12) (c_X5_isNotOpen l S m (by omega))) myX5_isNotOpen mlX5_29 q_s102 ⟨by decide, by decide⟩ (Nat.le_of_ble_eq_true rfl) dX5_refusesSet_12 ?_
    refine q_if_ne (tgt := 67) C dX5_refusesSet_15 (by decide) (fun _ => ?_) (fun h9 => absurd h9 (by decide))
    refine q_iconst (v := 1) C dX5_refusesSet_67 (by decide) ?_
    refine q_goto (tgt := 72) C dX5_refusesSet_68 (by decide) ?_
    exact hret _ _ _ _ dX5_refusesSet_72 (by simp [uR_setA, uR_v, if_pos h_12, h_12]) (by simp [uR_setA, uR_st, if_pos h_12, h_12])
  · refine q_ci1 C (q_Fi.cs (if_neg h_12) (if_neg h_12) (c_X5_isNotOpen l S m (by omega))) myX5_isNotOpen mlX5_29 q_s102 ⟨by decide, by decide⟩ (Nat.le_of_ble_eq_true rfl) dX5_refusesSet_12 ?_
    refine q_if_ne (tgt := 67) C dX5_refusesSet_15 (by decide) (fun h9 => absurd h9 (by decide)) (fun _ => ?_)
    refine q_aload_n C dX5_refusesSet_18 rfl rfl ?_
    refine q_iload C dX5_refusesSet_19 rfl ?_
    refine q_if_le (tgt := 28) C dX5_refusesSet_21 (by decide)  (fun c_21 => ?_) (fun c_21 => ?_)
    · refine q_iconst (v := 0) C dX5_refusesSet_28 (by decide) ?_
      refine q_bipush (v := 6) C dX5_refusesSet_29 (by decide) ?_
      refine q_iload C dX5_refusesSet_31 rfl ?_
      refine q_ci3 C (q_Fi.cs rfl (if_pos rfl) (c_X5_keepIf l S 0 6 (uC_answered S m) (Or.inl rfl))) myX5_keepIf mlX5_21 q_s102 ⟨by decide, by decide⟩ (Nat.le_of_ble_eq_true rfl) dX5_refusesSet_33 ?_
      refine q_if_ne (tgt := 67) C dX5_refusesSet_36 (by decide) (fun h9 => absurd h9 (by decide)) (fun _ => ?_)
      refine q_aload_n C dX5_refusesSet_39 rfl rfl ?_
      refine q_aload_n C dX5_refusesSet_40 rfl rfl ?_
      refine q_getR C flX5_9 q_s102 rfl dX5_refusesSet_41 ?_
      refine q_iload_n C dX5_refusesSet_44 rfl rfl ?_
      refine q_iload_n C dX5_refusesSet_45 rfl rfl ?_
      refine q_ci2 C (c_X1_amountOf l S m (by omega) g (by omega)) myX1_amountOf mlX5_33 q_s1 ⟨by decide, by decide⟩ (Nat.le_of_ble_eq_true rfl) dX5_refusesSet_46 ?_
      refine q_iload_n C dX5_refusesSet_49 rfl rfl ?_
      refine q_icmp_ne (tgt := 57) C dX5_refusesSet_50 (by decide)  (fun c_50 => ?_) (fun c_50 => ?_)
      · refine q_iconst (v := 0) C dX5_refusesSet_57 (by decide) ?_
        refine q_bipush (v := 10) C dX5_refusesSet_58 (by decide) ?_
        refine q_iload_n C dX5_refusesSet_60 rfl rfl ?_
        refine q_ci3 C (q_Fi.cs rfl (if_pos rfl) (c_X5_keepIf l S 0 10 a (Or.inl rfl))) myX5_keepIf mlX5_21 q_s102 ⟨by decide, by decide⟩ (Nat.le_of_ble_eq_true rfl) dX5_refusesSet_61 ?_
        refine q_if_eq (tgt := 71) C dX5_refusesSet_64 (by decide) (fun _ => ?_) (fun h9 => absurd h9 (by decide))
        refine q_iconst (v := 0) C dX5_refusesSet_71 (by decide) ?_
        exact hret _ _ _ _ dX5_refusesSet_72 (by simp [uR_setA, uR_v, if_neg h_12, h_12, Decidable.not_not.mp h_12, c_21, Int32.not_lt.mpr c_21, if_neg (Int32.not_lt.mpr c_21), c_50]) (by simp [uR_setA, uR_st, if_neg h_12, h_12, Decidable.not_not.mp h_12, c_21, Int32.not_lt.mpr c_21, if_neg (Int32.not_lt.mpr c_21), c_50])
      · refine q_iconst (v := 1) C dX5_refusesSet_53 (by decide) ?_
        refine q_goto (tgt := 58) C dX5_refusesSet_54 (by decide) ?_
        refine q_bipush (v := 10) C dX5_refusesSet_58 (by decide) ?_
        refine q_iload_n C dX5_refusesSet_60 rfl rfl ?_
        refine q_ci3 C (q_Fi.cs rfl (if_neg (by decide)) (c_X5_keepIf l S 1 10 a (Or.inr rfl))) myX5_keepIf mlX5_21 q_s102 ⟨by decide, by decide⟩ (Nat.le_of_ble_eq_true rfl) dX5_refusesSet_61 ?_
        refine q_if_eq (tgt := 71) C dX5_refusesSet_64 (by decide) (fun h9 => absurd h9 (by decide)) (fun _ => ?_)
        refine q_iconst (v := 1) C dX5_refusesSet_67 (by decide) ?_
        refine q_goto (tgt := 72) C dX5_refusesSet_68 (by decide) ?_
        exact hret _ _ _ _ dX5_refusesSet_72 (by simp [uR_setA, uR_v, if_neg h_12, h_12, Decidable.not_not.mp h_12, c_21, Int32.not_lt.mpr c_21, if_neg (Int32.not_lt.mpr c_21), c_50]) (by simp [uR_setA, uR_st, if_neg h_12, h_12, Decidable.not_not.mp h_12, c_21, Int32.not_lt.mpr c_21, if_neg (Int32.not_lt.mpr c_21), c_50])
    · refine q_iconst (v := 1) C dX5_refusesSet_24 (by decide) ?_
      refine q_goto (tgt := 29) C dX5_refusesSet_25 (by decide) ?_
      refine q_bipush (v := 6) C dX5_refusesSet_29 (by decide) ?_
      refine q_iload C dX5_refusesSet_31 rfl ?_
      refine q_ci3 C (q_Fi.cs rfl (if_neg (by decide)) (c_X5_keepIf l S 1 6 (uC_answered S m) (Or.inr rfl))) myX5_keepIf mlX5_21 q_s102 ⟨by decide, by decide⟩ (Nat.le_of_ble_eq_true rfl) dX5_refusesSet_33 ?_
      refine q_if_ne (tgt := 67) C dX5_refusesSet_36 (by decide) (fun _ => ?_) (fun h9 => absurd h9 (by decide))
      refine q_iconst (v := 1) C dX5_refusesSet_67 (by decide) ?_
      refine q_goto (tgt := 72) C dX5_refusesSet_68 (by decide) ?_
      exact hret _ _ _ _ dX5_refusesSet_72 (by simp [uR_setA, uR_v, if_neg h_12, h_12, Decidable.not_not.mp h_12, c_21, Int32.not_le.mpr c_21, if_pos c_21]) (by simp [uR_setA, uR_st, if_neg h_12, h_12, Decidable.not_not.mp h_12, c_21, Int32.not_le.mpr c_21, if_pos c_21])
theorem c_X5_refusesAsk (l : Launch) (S : q_St) (M : Nat) (hM : S 1 0 = nI M) (hM8 : M ≤ 8) (m : Nat) (hm : m < 8) (g : Nat) (hg : g < 6) : q_Fi l yX5_refusesAsk kX5_refusesAsk 3 [.ref 102, .int (nI m), .int (nI g)] S (uR_v (uR_ask S M m g)) (uR_st S (uR_ask S M m g)) := by
  refine q_Fi_of (maxL := 4) rfl (by decide +kernel) (fun ad => Nat.le_of_ble_eq_true rfl) (uR_nb (uR_ask S M m g)) ?_
  intro K C hret
  have C : q_Cx K cX5_refusesAsk RX5 3 4 := C
  show q_V l K 0 [(0, .ref 102), (1, .int (nI m)), (2, .int (nI g))] [] S
  refine q_aload_n C dX5_refusesAsk_0 rfl rfl ?_
  refine q_getR C flX5_9 q_s102 rfl dX5_refusesAsk_1 ?_
  refine q_iload_n C dX5_refusesAsk_4 rfl rfl ?_
  refine q_iload_n C dX5_refusesAsk_5 rfl rfl ?_
  refine q_ci2 C (c_X1_answerOf l S m (by omega) g (by omega)) myX1_answerOf mlX5_37 q_s1 ⟨by decide, by decide⟩ (Nat.le_of_ble_eq_true rfl) dX5_refusesAsk_6 ?_
  refine q_istore_n (lv' := [(3, .int (S 6 (m * 6 + g))), (0, .ref 102), (1, .int (nI m)), (2, .int (nI g))]) C dX5_refusesAsk_9 rfl (by decide) rfl ?_
  refine q_aload_n C dX5_refusesAsk_10 rfl rfl ?_
  by_cases h_11 : S 1 5 = 0
  · refine q_ci0 C (q_Fi.cs (if_pos h_11) (if_pos h_11) (c_X5_hasFainted l S M hM hM8)) myX5_hasFainted mlX5_40 q_s102 ⟨by decide, by decide⟩ (Nat.le_of_ble_eq_true rfl) dX5_refusesAsk_11 ?_
    refine q_if_ne (tgt := 61) C dX5_refusesAsk_14 (by decide) (fun _ => ?_) (fun h9 => absurd h9 (by decide))
    refine q_iconst (v := 1) C dX5_refusesAsk_61 (by decide) ?_
    refine q_goto (tgt := 66) C dX5_refusesAsk_62 (by decide) ?_
    exact hret _ _ _ _ dX5_refusesAsk_66 (by simp [uR_ask, uR_v, if_pos h_11, h_11]) (by simp [uR_ask, uR_st, if_pos h_11, h_11])
  · refine q_ci0 C (q_Fi.cs (if_neg h_11) (if_neg h_11) (c_X5_hasFainted l S M hM hM8)) myX5_hasFainted mlX5_40 q_s102 ⟨by decide, by decide⟩ (Nat.le_of_ble_eq_true rfl) dX5_refusesAsk_11 ?_
    refine q_if_ne (tgt := 61) C dX5_refusesAsk_14 (by decide) (fun h9 => absurd h9 (by decide)) (fun _ => ?_)
    refine q_aload_n C dX5_refusesAsk_17 rfl rfl ?_
    refine q_iload_n C dX5_refusesAsk_18 rfl rfl ?_
    by_cases h_19 : S 2 m ≠ 0
    · refine q_ci1 C (q_Fi.cs (if_pos h_19) (if_pos h_19) (c_X5_isNotOpen l S m (by omega))) myX5_isNotOpen mlX5_29 q_s102 ⟨by decide, by decide⟩ (Nat.le_of_ble_eq_true rfl) dX5_refusesAsk_19 ?_
      refine q_if_ne (tgt := 61) C dX5_refusesAsk_22 (by decide) (fun _ => ?_) (fun h9 => absurd h9 (by decide))
      refine q_iconst (v := 1) C dX5_refusesAsk_61 (by decide) ?_
      refine q_goto (tgt := 66) C dX5_refusesAsk_62 (by decide) ?_
      exact hret _ _ _ _ dX5_refusesAsk_66 (by simp [uR_ask, uR_v, if_neg h_11, h_11, if_pos h_19, h_19]) (by simp [uR_ask, uR_st, if_neg h_11, h_11, if_pos h_19, h_19])
    · refine q_ci1 C (q_Fi.cs (if_neg h_19) (if_neg h_19) (c_X5_isNotOpen l S m (by omega))) myX5_isNotOpen mlX5_29 q_s102 ⟨by decide, by decide⟩ (Nat.le_of_ble_eq_true rfl) dX5_refusesAsk_19 ?_
      refine q_if_ne (tgt := 61) C dX5_refusesAsk_22 (by decide) (fun h9 => absurd h9 (by decide)) (fun _ => ?_)
      refine q_aload_n C dX5_refusesAsk_25 rfl rfl ?_
      refine q_iload_n C dX5_refusesAsk_26 rfl rfl ?_
      refine q_iload_n C dX5_refusesAsk_27 rfl rfl ?_
      by_cases h_28 : S 5 (m * 6 + g) = 0
      · refine q_ci2 C (q_Fi.cs (if_pos h_28) (if_pos h_28) (c_X5_isNoGuildOf l S m (by omega) g (by omega))) myX5_isNoGuildOf mlX5_44 q_s102 ⟨by decide, by decide⟩ (Nat.le_of_ble_eq_true rfl) dX5_refusesAsk_28 ?_
        refine q_if_ne (tgt := 61) C dX5_refusesAsk_31 (by decide) (fun _ => ?_) (fun h9 => absurd h9 (by decide))
        refine q_iconst (v := 1) C dX5_refusesAsk_61 (by decide) ?_
        refine q_goto (tgt := 66) C dX5_refusesAsk_62 (by decide) ?_
        exact hret _ _ _ _ dX5_refusesAsk_66 (by simp [uR_ask, uR_v, if_neg h_11, h_11, if_neg h_19, h_19, Decidable.not_not.mp h_19, if_pos h_28, h_28]) (by simp [uR_ask, uR_st, if_neg h_11, h_11, if_neg h_19, h_19, Decidable.not_not.mp h_19, if_pos h_28, h_28])
      · refine q_ci2 C (q_Fi.cs (if_neg h_28) (if_neg h_28) (c_X5_isNoGuildOf l S m (by omega) g (by omega))) myX5_isNoGuildOf mlX5_44 q_s102 ⟨by decide, by decide⟩ (Nat.le_of_ble_eq_true rfl) dX5_refusesAsk_28 ?_
        refine q_if_ne (tgt := 61) C dX5_refusesAsk_31 (by decide) (fun h9 => absurd h9 (by decide)) (fun _ => ?_)
        refine q_aload_n C dX5_refusesAsk_34 rfl rfl ?_
        refine q_iload_n C dX5_refusesAsk_35 rfl rfl ?_
        by_cases h_36 : S 9 g = 0
        · refine q_ci1 C (q_Fi.cs (if_pos h_36) (if_pos h_36) (c_X5_isAsleep l S g (by omega))) myX5_isAsleep mlX5_48 q_s102 ⟨by decide, by decide⟩ (Nat.le_of_ble_eq_true rfl) dX5_refusesAsk_36 ?_
          refine q_if_ne (tgt := 61) C dX5_refusesAsk_39 (by decide) (fun _ => ?_) (fun h9 => absurd h9 (by decide))
          refine q_iconst (v := 1) C dX5_refusesAsk_61 (by decide) ?_
          refine q_goto (tgt := 66) C dX5_refusesAsk_62 (by decide) ?_
          exact hret _ _ _ _ dX5_refusesAsk_66 (by simp [uR_ask, uR_v, if_neg h_11, h_11, if_neg h_19, h_19, Decidable.not_not.mp h_19, if_neg h_28, h_28, if_pos h_36, h_36]) (by simp [uR_ask, uR_st, if_neg h_11, h_11, if_neg h_19, h_19, Decidable.not_not.mp h_19, if_neg h_28, h_28, if_pos h_36, h_36])
        · refine q_ci1 C (q_Fi.cs (if_neg h_36) (if_neg h_36) (c_X5_isAsleep l S g (by omega))) myX5_isAsleep mlX5_48 q_s102 ⟨by decide, by decide⟩ (Nat.le_of_ble_eq_true rfl) dX5_refusesAsk_36 ?_
          refine q_if_ne (tgt := 61) C dX5_refusesAsk_39 (by decide) (fun h9 => absurd h9 (by decide)) (fun _ => ?_)
          refine q_aload_n C dX5_refusesAsk_42 rfl rfl ?_
          refine q_iload_n C dX5_refusesAsk_43 rfl rfl ?_
          refine q_if_eq (tgt := 51) C dX5_refusesAsk_44 (by decide)  (fun c_44 => ?_) (fun c_44 => ?_)
          · refine q_iconst (v := 0) C dX5_refusesAsk_51 (by decide) ?_
            refine q_bipush (v := 9) C dX5_refusesAsk_52 (by decide) ?_
            refine q_iload_n C dX5_refusesAsk_54 rfl rfl ?_
            refine q_ci3 C (q_Fi.cs rfl (if_pos rfl) (c_X5_keepIf l S 0 9 (S 6 (m * 6 + g)) (Or.inl rfl))) myX5_keepIf mlX5_21 q_s102 ⟨by decide, by decide⟩ (Nat.le_of_ble_eq_true rfl) dX5_refusesAsk_55 ?_
            refine q_if_eq (tgt := 65) C dX5_refusesAsk_58 (by decide) (fun _ => ?_) (fun h9 => absurd h9 (by decide))
            refine q_iconst (v := 0) C dX5_refusesAsk_65 (by decide) ?_
            exact hret _ _ _ _ dX5_refusesAsk_66 (by simp [uR_ask, uR_v, if_neg h_11, h_11, if_neg h_19, h_19, Decidable.not_not.mp h_19, if_neg h_28, h_28, if_neg h_36, h_36, c_44]) (by simp [uR_ask, uR_st, if_neg h_11, h_11, if_neg h_19, h_19, Decidable.not_not.mp h_19, if_neg h_28, h_28, if_neg h_36, h_36, c_44])
          · refine q_iconst (v := 1) C dX5_refusesAsk_47 (by decide) ?_
            refine q_goto (tgt := 52) C dX5_refusesAsk_48 (by decide) ?_
            refine q_bipush (v := 9) C dX5_refusesAsk_52 (by decide) ?_
            refine q_iload_n C dX5_refusesAsk_54 rfl rfl ?_
            refine q_ci3 C (q_Fi.cs rfl (if_neg (by decide)) (c_X5_keepIf l S 1 9 (S 6 (m * 6 + g)) (Or.inr rfl))) myX5_keepIf mlX5_21 q_s102 ⟨by decide, by decide⟩ (Nat.le_of_ble_eq_true rfl) dX5_refusesAsk_55 ?_
            refine q_if_eq (tgt := 65) C dX5_refusesAsk_58 (by decide) (fun h9 => absurd h9 (by decide)) (fun _ => ?_)
            refine q_iconst (v := 1) C dX5_refusesAsk_61 (by decide) ?_
            refine q_goto (tgt := 66) C dX5_refusesAsk_62 (by decide) ?_
            exact hret _ _ _ _ dX5_refusesAsk_66 (by simp [uR_ask, uR_v, if_neg h_11, h_11, if_neg h_19, h_19, Decidable.not_not.mp h_19, if_neg h_28, h_28, if_neg h_36, h_36, c_44]) (by simp [uR_ask, uR_st, if_neg h_11, h_11, if_neg h_19, h_19, Decidable.not_not.mp h_19, if_neg h_28, h_28, if_neg h_36, h_36, c_44])
theorem c_X5_refusesDecide (l : Launch) (S : q_St) (M : Nat) (hM : S 1 0 = nI M) (hM8 : M ≤ 8) (m : Nat) (hm : m < 8) : q_Fi l yX5_refusesDecide kX5_refusesDecide 4 [.ref 102, .int (nI m)] S (uR_v (uR_decide S M m)) (uR_st S (uR_decide S M m)) := by
  refine q_Fi_of (maxL := 2) rfl (by decide +kernel) (fun ad => Nat.le_of_ble_eq_true rfl) (uR_nb (uR_decide S M m)) ?_
  intro K C hret
  have C : q_Cx K cX5_refusesDecide RX5 4 2 := C
  show q_V l K 0 [(0, .ref 102), (1, .int (nI m))] [] S
  refine q_aload_n C dX5_refusesDecide_0 rfl rfl ?_
  by_cases h_1 : S 1 5 = 0
  · refine q_ci0 C (q_Fi.cs (if_pos h_1) (if_pos h_1) (c_X5_hasFainted l S M hM hM8)) myX5_hasFainted mlX5_40 q_s102 ⟨by decide, by decide⟩ (Nat.le_of_ble_eq_true rfl) dX5_refusesDecide_1 ?_
    refine q_if_ne (tgt := 23) C dX5_refusesDecide_4 (by decide) (fun _ => ?_) (fun h9 => absurd h9 (by decide))
    refine q_iconst (v := 1) C dX5_refusesDecide_23 (by decide) ?_
    refine q_goto (tgt := 28) C dX5_refusesDecide_24 (by decide) ?_
    exact hret _ _ _ _ dX5_refusesDecide_28 (by simp [uR_decide, uR_v, if_pos h_1, h_1]) (by simp [uR_decide, uR_st, if_pos h_1, h_1])
  · refine q_ci0 C (q_Fi.cs (if_neg h_1) (if_neg h_1) (c_X5_hasFainted l S M hM hM8)) myX5_hasFainted mlX5_40 q_s102 ⟨by decide, by decide⟩ (Nat.le_of_ble_eq_true rfl) dX5_refusesDecide_1 ?_
    refine q_if_ne (tgt := 23) C dX5_refusesDecide_4 (by decide) (fun h9 => absurd h9 (by decide)) (fun _ => ?_)
    refine q_aload_n C dX5_refusesDecide_7 rfl rfl ?_
    refine q_iload_n C dX5_refusesDecide_8 rfl rfl ?_
    by_cases h_9 : S 2 m ≠ 0
    · refine q_ci1 C (q_Fi.cs (if_pos h_9) (if_pos h_9) (c_X5_isNotOpen l S m (by omega))) myX5_isNotOpen mlX5_29 q_s102 ⟨by decide, by decide⟩ (Nat.le_of_ble_eq_true rfl) dX5_refusesDecide_9 ?_
      refine q_if_ne (tgt := 23) C dX5_refusesDecide_12 (by decide) (fun _ => ?_) (fun h9 => absurd h9 (by decide))
      refine q_iconst (v := 1) C dX5_refusesDecide_23 (by decide) ?_
      refine q_goto (tgt := 28) C dX5_refusesDecide_24 (by decide) ?_
      exact hret _ _ _ _ dX5_refusesDecide_28 (by simp [uR_decide, uR_v, if_neg h_1, h_1, if_pos h_9, h_9]) (by simp [uR_decide, uR_st, if_neg h_1, h_1, if_pos h_9, h_9])
    · refine q_ci1 C (q_Fi.cs (if_neg h_9) (if_neg h_9) (c_X5_isNotOpen l S m (by omega))) myX5_isNotOpen mlX5_29 q_s102 ⟨by decide, by decide⟩ (Nat.le_of_ble_eq_true rfl) dX5_refusesDecide_9 ?_
      refine q_if_ne (tgt := 23) C dX5_refusesDecide_12 (by decide) (fun h9 => absurd h9 (by decide)) (fun _ => ?_)
      refine q_aload_n C dX5_refusesDecide_15 rfl rfl ?_
      refine q_iload_n C dX5_refusesDecide_16 rfl rfl ?_
      by_cases h_17 : uR_und S m
      · refine q_ci1 C (q_Fi.cs (if_pos h_17) (if_pos h_17) (c_X5_isUndecided l S m (by omega))) myX5_isUndecided mlX5_51 q_s102 ⟨by decide, by decide⟩ (Nat.le_of_ble_eq_true rfl) dX5_refusesDecide_17 ?_
        refine q_if_eq (tgt := 27) C dX5_refusesDecide_20 (by decide) (fun h9 => absurd h9 (by decide)) (fun _ => ?_)
        refine q_iconst (v := 1) C dX5_refusesDecide_23 (by decide) ?_
        refine q_goto (tgt := 28) C dX5_refusesDecide_24 (by decide) ?_
        exact hret _ _ _ _ dX5_refusesDecide_28 (by simp [uR_decide, uR_v, if_neg h_1, h_1, if_neg h_9, h_9, Decidable.not_not.mp h_9, if_pos h_17, h_17]) (by simp [uR_decide, uR_st, if_neg h_1, h_1, if_neg h_9, h_9, Decidable.not_not.mp h_9, if_pos h_17, h_17])
      · refine q_ci1 C (q_Fi.cs (if_neg h_17) (if_neg h_17) (c_X5_isUndecided l S m (by omega))) myX5_isUndecided mlX5_51 q_s102 ⟨by decide, by decide⟩ (Nat.le_of_ble_eq_true rfl) dX5_refusesDecide_17 ?_
        refine q_if_eq (tgt := 27) C dX5_refusesDecide_20 (by decide) (fun _ => ?_) (fun h9 => absurd h9 (by decide))
        refine q_iconst (v := 0) C dX5_refusesDecide_27 (by decide) ?_
        exact hret _ _ _ _ dX5_refusesDecide_28 (by simp [uR_decide, uR_v, if_neg h_1, h_1, if_neg h_9, h_9, Decidable.not_not.mp h_9, if_neg h_17, h_17]) (by simp [uR_decide, uR_st, if_neg h_1, h_1, if_neg h_9, h_9, Decidable.not_not.mp h_9, if_neg h_17, h_17])
theorem c_X5_refusesTell (l : Launch) (S : q_St) (M : Nat) (hM : S 1 0 = nI M) (hM8 : M ≤ 8) (m : Nat) (hm : m < 8) (g : Nat) (hg : g < 6) : q_Fi l yX5_refusesTell kX5_refusesTell 3 [.ref 102, .int (nI m), .int (nI g)] S (uR_v (uR_tell S M m g)) (uR_st S (uR_tell S M m g)) := by
  refine q_Fi_of (maxL := 4) rfl (by decide +kernel) (fun ad => Nat.le_of_ble_eq_true rfl) (uR_nb (uR_tell S M m g)) ?_
  intro K C hret
  have C : q_Cx K cX5_refusesTell RX5 3 4 := C
  show q_V l K 0 [(0, .ref 102), (1, .int (nI m)), (2, .int (nI g))] [] S
  refine q_aload_n C dX5_refusesTell_0 rfl rfl ?_
  refine q_getR C flX5_9 q_s102 rfl dX5_refusesTell_1 ?_
  refine q_iload_n C dX5_refusesTell_4 rfl rfl ?_
  refine q_iload_n C dX5_refusesTell_5 rfl rfl ?_
  refine q_ci2 C (c_X1_answerOf l S m (by omega) g (by omega)) myX1_answerOf mlX5_37 q_s1 ⟨by decide, by decide⟩ (Nat.le_of_ble_eq_true rfl) dX5_refusesTell_6 ?_
  refine q_istore_n (lv' := [(3, .int (S 6 (m * 6 + g))), (0, .ref 102), (1, .int (nI m)), (2, .int (nI g))]) C dX5_refusesTell_9 rfl (by decide) rfl ?_
  refine q_aload_n C dX5_refusesTell_10 rfl rfl ?_
  by_cases h_11 : S 1 5 = 0
  · refine q_ci0 C (q_Fi.cs (if_pos h_11) (if_pos h_11) (c_X5_hasFainted l S M hM hM8)) myX5_hasFainted mlX5_40 q_s102 ⟨by decide, by decide⟩ (Nat.le_of_ble_eq_true rfl) dX5_refusesTell_11 ?_
    refine q_if_ne (tgt := 86) C dX5_refusesTell_14 (by decide) (fun _ => ?_) (fun h9 => absurd h9 (by decide))
    refine q_iconst (v := 1) C dX5_refusesTell_86 (by decide) ?_
    refine q_goto (tgt := 91) C dX5_refusesTell_87 (by decide) ?_
    exact hret _ _ _ _ dX5_refusesTell_91 (by simp [uR_tell, uR_v, if_pos h_11, h_11]) (by simp [uR_tell, uR_st, if_pos h_11, h_11])
  · refine q_ci0 C (q_Fi.cs (if_neg h_11) (if_neg h_11) (c_X5_hasFainted l S M hM hM8)) myX5_hasFainted mlX5_40 q_s102 ⟨by decide, by decide⟩ (Nat.le_of_ble_eq_true rfl) dX5_refusesTell_11 ?_
    refine q_if_ne (tgt := 86) C dX5_refusesTell_14 (by decide) (fun h9 => absurd h9 (by decide)) (fun _ => ?_)
    refine q_aload_n C dX5_refusesTell_17 rfl rfl ?_
    refine q_aload_n C dX5_refusesTell_18 rfl rfl ?_
    refine q_getR C flX5_9 q_s102 rfl dX5_refusesTell_19 ?_
    refine q_getR C flX5_54 q_s1 rfl dX5_refusesTell_22 ?_
    refine q_iload_n C dX5_refusesTell_25 rfl rfl ?_
    refine q_ialdN (i := m) (x := S 2 m) C rfl q_s2 (by omega) (by decide) dX5_refusesTell_26 rfl ?_
    refine q_if_ne (tgt := 34) C dX5_refusesTell_27 (by decide)  (fun c_27 => ?_) (fun c_27 => ?_)
    · refine q_iconst (v := 0) C dX5_refusesTell_34 (by decide) ?_
      refine q_bipush (v := 8) C dX5_refusesTell_35 (by decide) ?_
      refine q_iload_n C dX5_refusesTell_37 rfl rfl ?_
      refine q_ci3 C (q_Fi.cs rfl (if_pos rfl) (c_X5_keepIf l S 0 8 (nI m) (Or.inl rfl))) myX5_keepIf mlX5_21 q_s102 ⟨by decide, by decide⟩ (Nat.le_of_ble_eq_true rfl) dX5_refusesTell_38 ?_
      refine q_if_ne (tgt := 86) C dX5_refusesTell_41 (by decide) (fun h9 => absurd h9 (by decide)) (fun _ => ?_)
      refine q_aload_n C dX5_refusesTell_44 rfl rfl ?_
      refine q_iload_n C dX5_refusesTell_45 rfl rfl ?_
      refine q_iload_n C dX5_refusesTell_46 rfl rfl ?_
      by_cases h_47 : S 5 (m * 6 + g) = 0
      · refine q_ci2 C (q_Fi.cs (if_pos h_47) (if_pos h_47) (c_X5_isNoGuildOf l S m (by omega) g (by omega))) myX5_isNoGuildOf mlX5_44 q_s102 ⟨by decide, by decide⟩ (Nat.le_of_ble_eq_true rfl) dX5_refusesTell_47 ?_
        refine q_if_ne (tgt := 86) C dX5_refusesTell_50 (by decide) (fun _ => ?_) (fun h9 => absurd h9 (by decide))
        refine q_iconst (v := 1) C dX5_refusesTell_86 (by decide) ?_
        refine q_goto (tgt := 91) C dX5_refusesTell_87 (by decide) ?_
        exact hret _ _ _ _ dX5_refusesTell_91 (by simp [uR_tell, uR_v, if_neg h_11, h_11, c_27, if_pos h_47, h_47]) (by simp [uR_tell, uR_st, if_neg h_11, h_11, c_27, if_pos h_47, h_47])
      · refine q_ci2 C (q_Fi.cs (if_neg h_47) (if_neg h_47) (c_X5_isNoGuildOf l S m (by omega) g (by omega))) myX5_isNoGuildOf mlX5_44 q_s102 ⟨by decide, by decide⟩ (Nat.le_of_ble_eq_true rfl) dX5_refusesTell_47 ?_
        refine q_if_ne (tgt := 86) C dX5_refusesTell_50 (by decide) (fun h9 => absurd h9 (by decide)) (fun _ => ?_)
        refine q_aload_n C dX5_refusesTell_53 rfl rfl ?_
        refine q_iload_n C dX5_refusesTell_54 rfl rfl ?_
        by_cases h_55 : S 9 g = 0
        · refine q_ci1 C (q_Fi.cs (if_pos h_55) (if_pos h_55) (c_X5_isAsleep l S g (by omega))) myX5_isAsleep mlX5_48 q_s102 ⟨by decide, by decide⟩ (Nat.le_of_ble_eq_true rfl) dX5_refusesTell_55 ?_
          refine q_if_ne (tgt := 86) C dX5_refusesTell_58 (by decide) (fun _ => ?_) (fun h9 => absurd h9 (by decide))
          refine q_iconst (v := 1) C dX5_refusesTell_86 (by decide) ?_
          refine q_goto (tgt := 91) C dX5_refusesTell_87 (by decide) ?_
          exact hret _ _ _ _ dX5_refusesTell_91 (by simp [uR_tell, uR_v, if_neg h_11, h_11, c_27, if_neg h_47, h_47, if_pos h_55, h_55]) (by simp [uR_tell, uR_st, if_neg h_11, h_11, c_27, if_neg h_47, h_47, if_pos h_55, h_55])
        · refine q_ci1 C (q_Fi.cs (if_neg h_55) (if_neg h_55) (c_X5_isAsleep l S g (by omega))) myX5_isAsleep mlX5_48 q_s102 ⟨by decide, by decide⟩ (Nat.le_of_ble_eq_true rfl) dX5_refusesTell_55 ?_
          refine q_if_ne (tgt := 86) C dX5_refusesTell_58 (by decide) (fun h9 => absurd h9 (by decide)) (fun _ => ?_)
          refine q_aload_n C dX5_refusesTell_61 rfl rfl ?_
          refine q_iload_n C dX5_refusesTell_62 rfl rfl ?_
          refine q_iconst (v := 3) C dX5_refusesTell_63 (by decide) ?_
          refine q_icmp_eq (tgt := 72) C dX5_refusesTell_64 (by decide)  (fun c_64 => ?_) (fun c_64 => ?_)
          · refine q_iconst (v := 1) C dX5_refusesTell_72 (by decide) ?_
            refine q_goto (tgt := 77) C dX5_refusesTell_73 (by decide) ?_
            refine q_bipush (v := 9) C dX5_refusesTell_77 (by decide) ?_
            refine q_iload_n C dX5_refusesTell_79 rfl rfl ?_
            refine q_ci3 C (q_Fi.cs rfl (if_neg (by decide)) (c_X5_keepIf l S 1 9 (S 6 (m * 6 + g)) (Or.inr rfl))) myX5_keepIf mlX5_21 q_s102 ⟨by decide, by decide⟩ (Nat.le_of_ble_eq_true rfl) dX5_refusesTell_80 ?_
            refine q_if_eq (tgt := 90) C dX5_refusesTell_83 (by decide) (fun h9 => absurd h9 (by decide)) (fun _ => ?_)
            refine q_iconst (v := 1) C dX5_refusesTell_86 (by decide) ?_
            refine q_goto (tgt := 91) C dX5_refusesTell_87 (by decide) ?_
            exact hret _ _ _ _ dX5_refusesTell_91 (by simp [uR_tell, uR_v, if_neg h_11, h_11, c_27, if_neg h_47, h_47, if_neg h_55, h_55, c_64]) (by simp [uR_tell, uR_st, if_neg h_11, h_11, c_27, if_neg h_47, h_47, if_neg h_55, h_55, c_64])
          · refine q_iload_n C dX5_refusesTell_67 rfl rfl ?_
            refine q_iconst (v := 4) C dX5_refusesTell_68 (by decide) ?_
            refine q_icmp_ne (tgt := 76) C dX5_refusesTell_69 (by decide)  (fun c_69 => ?_) (fun c_69 => ?_)
            · refine q_iconst (v := 0) C dX5_refusesTell_76 (by decide) ?_
              refine q_bipush (v := 9) C dX5_refusesTell_77 (by decide) ?_
              refine q_iload_n C dX5_refusesTell_79 rfl rfl ?_
              refine q_ci3 C (q_Fi.cs rfl (if_pos rfl) (c_X5_keepIf l S 0 9 (S 6 (m * 6 + g)) (Or.inl rfl))) myX5_keepIf mlX5_21 q_s102 ⟨by decide, by decide⟩ (Nat.le_of_ble_eq_true rfl) dX5_refusesTell_80 ?_
              refine q_if_eq (tgt := 90) C dX5_refusesTell_83 (by decide) (fun _ => ?_) (fun h9 => absurd h9 (by decide))
              refine q_iconst (v := 0) C dX5_refusesTell_90 (by decide) ?_
              exact hret _ _ _ _ dX5_refusesTell_91 (by simp [uR_tell, uR_v, if_neg h_11, h_11, c_27, if_neg h_47, h_47, if_neg h_55, h_55, c_64, c_69]) (by simp [uR_tell, uR_st, if_neg h_11, h_11, c_27, if_neg h_47, h_47, if_neg h_55, h_55, c_64, c_69])
            · refine q_iconst (v := 1) C dX5_refusesTell_72 (by decide) ?_
              refine q_goto (tgt := 77) C dX5_refusesTell_73 (by decide) ?_
              refine q_bipush (v := 9) C dX5_refusesTell_77 (by decide) ?_
              refine q_iload_n C dX5_refusesTell_79 rfl rfl ?_
              refine q_ci3 C (q_Fi.cs rfl (if_neg (by decide)) (c_X5_keepIf l S 1 9 (S 6 (m * 6 + g)) (Or.inr rfl))) myX5_keepIf mlX5_21 q_s102 ⟨by decide, by decide⟩ (Nat.le_of_ble_eq_true rfl) dX5_refusesTell_80 ?_
              refine q_if_eq (tgt := 90) C dX5_refusesTell_83 (by decide) (fun h9 => absurd h9 (by decide)) (fun _ => ?_)
              refine q_iconst (v := 1) C dX5_refusesTell_86 (by decide) ?_
              refine q_goto (tgt := 91) C dX5_refusesTell_87 (by decide) ?_
              exact hret _ _ _ _ dX5_refusesTell_91 (by simp [uR_tell, uR_v, if_neg h_11, h_11, c_27, if_neg h_47, h_47, if_neg h_55, h_55, c_64, c_69]) (by simp [uR_tell, uR_st, if_neg h_11, h_11, c_27, if_neg h_47, h_47, if_neg h_55, h_55, c_64, c_69])
    · refine q_iconst (v := 1) C dX5_refusesTell_30 (by decide) ?_
      refine q_goto (tgt := 35) C dX5_refusesTell_31 (by decide) ?_
      refine q_bipush (v := 8) C dX5_refusesTell_35 (by decide) ?_
      refine q_iload_n C dX5_refusesTell_37 rfl rfl ?_
      refine q_ci3 C (q_Fi.cs rfl (if_neg (by decide)) (c_X5_keepIf l S 1 8 (nI m) (Or.inr rfl))) myX5_keepIf mlX5_21 q_s102 ⟨by decide, by decide⟩ (Nat.le_of_ble_eq_true rfl) dX5_refusesTell_38 ?_
      refine q_if_ne (tgt := 86) C dX5_refusesTell_41 (by decide) (fun _ => ?_) (fun h9 => absurd h9 (by decide))
      refine q_iconst (v := 1) C dX5_refusesTell_86 (by decide) ?_
      refine q_goto (tgt := 91) C dX5_refusesTell_87 (by decide) ?_
      exact hret _ _ _ _ dX5_refusesTell_91 (by simp [uR_tell, uR_v, if_neg h_11, h_11, c_27]) (by simp [uR_tell, uR_st, if_neg h_11, h_11, c_27])
theorem c_X5_refusesFaint (l : Launch) (S : q_St) (M : Nat) (hM : S 1 0 = nI M) (hM8 : M ≤ 8) : q_Fi l yX5_refusesFaint kX5_refusesFaint 3 [.ref 102] S (uR_v (uR_fainted S M)) (uR_st S (uR_fainted S M)) := by
  refine q_Fi_of (maxL := 1) rfl (by decide +kernel) (fun ad => Nat.le_of_ble_eq_true rfl) (uR_nb (uR_fainted S M)) ?_
  intro K C hret
  have C : q_Cx K cX5_refusesFaint RX5 3 1 := C
  show q_V l K 0 [(0, .ref 102)] [] S
  refine q_aload_n C dX5_refusesFaint_0 rfl rfl ?_
  by_cases h_1 : S 1 5 = 0
  · refine q_ci0 C (q_Fi.cs (if_pos h_1) (if_pos h_1) (c_X5_hasFainted l S M hM hM8)) myX5_hasFainted mlX5_40 q_s102 ⟨by decide, by decide⟩ (Nat.le_of_ble_eq_true rfl) dX5_refusesFaint_1 ?_
    exact hret _ _ _ _ dX5_refusesFaint_4 (by simp [uR_fainted, uR_v, if_pos h_1, h_1]) (by simp [uR_fainted, uR_st, if_pos h_1, h_1])
  · refine q_ci0 C (q_Fi.cs (if_neg h_1) (if_neg h_1) (c_X5_hasFainted l S M hM hM8)) myX5_hasFainted mlX5_40 q_s102 ⟨by decide, by decide⟩ (Nat.le_of_ble_eq_true rfl) dX5_refusesFaint_1 ?_
    exact hret _ _ _ _ dX5_refusesFaint_4 (by simp [uR_fainted, uR_v, if_neg h_1, h_1]) (by simp [uR_fainted, uR_st, if_neg h_1, h_1])
theorem c_X5_refusesWake (l : Launch) (S : q_St) (hz : q_bool S 1) : q_Fi l yX5_refusesWake kX5_refusesWake 2 [.ref 102] S (uR_v (uR_wake S)) (uR_st S (uR_wake S)) := by
  refine q_Fi_of (maxL := 1) rfl (by decide +kernel) (fun ad => Nat.le_of_ble_eq_true rfl) (uR_nb (uR_wake S)) ?_
  intro K C hret
  have C : q_Cx K cX5_refusesWake RX5 2 1 := C
  show q_V l K 0 [(0, .ref 102)] [] S
  refine q_aload_n C dX5_refusesWake_0 rfl rfl ?_
  refine q_aload_n C dX5_refusesWake_1 rfl rfl ?_
  refine q_getR C flX5_9 q_s102 rfl dX5_refusesWake_2 ?_
  refine q_getI (x := S 1 5) C flX5_58 q_s1 rfl dX5_refusesWake_5 rfl ?_
  refine q_bipush (v := 11) C dX5_refusesWake_8 (by decide) ?_
  refine q_aload_n C dX5_refusesWake_10 rfl rfl ?_
  refine q_getR C flX5_9 q_s102 rfl dX5_refusesWake_11 ?_
  refine q_getI (x := S 1 1) C flX5_62 q_s1 rfl dX5_refusesWake_14 rfl ?_
  rcases hz.1 with h_17 | h_17
  · refine q_ci3 C (q_Fi.cs h_17 (if_pos h_17) (c_X5_keepIf l S (S 1 5) 11 (S 1 1) (Or.inl h_17))) myX5_keepIf mlX5_21 q_s102 ⟨by decide, by decide⟩ (Nat.le_of_ble_eq_true rfl) dX5_refusesWake_17 ?_
    exact hret _ _ _ _ dX5_refusesWake_20 (by simp [uR_wake, uR_v, h_17]) (by simp [uR_wake, uR_st, h_17])
  · refine q_ci3 C (q_Fi.cs h_17 (if_neg (by rw [h_17]; decide)) (c_X5_keepIf l S (S 1 5) 11 (S 1 1) (Or.inr h_17))) myX5_keepIf mlX5_21 q_s102 ⟨by decide, by decide⟩ (Nat.le_of_ble_eq_true rfl) dX5_refusesWake_17 ?_
    exact hret _ _ _ _ dX5_refusesWake_20 (by simp [uR_wake, uR_v, h_17]) (by simp [uR_wake, uR_st, h_17])
theorem c_X5_refusesSleep (l : Launch) (S : q_St) (g : Nat) (hg : g < 6) : q_Fi l yX5_refusesSleep kX5_refusesSleep 2 [.ref 102, .int (nI g)] S (uR_v (uR_sleep S g)) (uR_st S (uR_sleep S g)) := by
  refine q_Fi_of (maxL := 2) rfl (by decide +kernel) (fun ad => Nat.le_of_ble_eq_true rfl) (uR_nb (uR_sleep S g)) ?_
  intro K C hret
  have C : q_Cx K cX5_refusesSleep RX5 2 2 := C
  show q_V l K 0 [(0, .ref 102), (1, .int (nI g))] [] S
  refine q_aload_n C dX5_refusesSleep_0 rfl rfl ?_
  refine q_aload_n C dX5_refusesSleep_1 rfl rfl ?_
  refine q_getR C flX5_9 q_s102 rfl dX5_refusesSleep_2 ?_
  refine q_getR C flX5_65 q_s1 rfl dX5_refusesSleep_5 ?_
  refine q_iload_n C dX5_refusesSleep_8 rfl rfl ?_
  refine q_zaldN (i := g) (x := S 9 g) C rfl q_s9 (by omega) (by decide) dX5_refusesSleep_9 rfl ?_
  refine q_if_ne (tgt := 17) C dX5_refusesSleep_10 (by decide)  (fun c_10 => ?_) (fun c_10 => ?_)
  · refine q_iconst (v := 0) C dX5_refusesSleep_17 (by decide) ?_
    refine q_bipush (v := 10) C dX5_refusesSleep_18 (by decide) ?_
    refine q_iconst (v := 0) C dX5_refusesSleep_20 (by decide) ?_
    refine q_ci3 C (q_Fi.cs rfl (if_pos rfl) (c_X5_keepIf l S 0 10 0 (Or.inl rfl))) myX5_keepIf mlX5_21 q_s102 ⟨by decide, by decide⟩ (Nat.le_of_ble_eq_true rfl) dX5_refusesSleep_21 ?_
    exact hret _ _ _ _ dX5_refusesSleep_24 (by simp [uR_sleep, uR_v, c_10]) (by simp [uR_sleep, uR_st, c_10])
  · refine q_iconst (v := 1) C dX5_refusesSleep_13 (by decide) ?_
    refine q_goto (tgt := 18) C dX5_refusesSleep_14 (by decide) ?_
    refine q_bipush (v := 10) C dX5_refusesSleep_18 (by decide) ?_
    refine q_iconst (v := 0) C dX5_refusesSleep_20 (by decide) ?_
    refine q_ci3 C (q_Fi.cs rfl (if_neg (by decide)) (c_X5_keepIf l S 1 10 0 (Or.inr rfl))) myX5_keepIf mlX5_21 q_s102 ⟨by decide, by decide⟩ (Nat.le_of_ble_eq_true rfl) dX5_refusesSleep_21 ?_
    exact hret _ _ _ _ dX5_refusesSleep_24 (by simp [uR_sleep, uR_v, c_10]) (by simp [uR_sleep, uR_st, c_10])
theorem c_X5_refusesRouse (l : Launch) (S : q_St) (g : Nat) (hg : g < 6) (hz : q_bool S 1) : q_Fi l yX5_refusesRouse kX5_refusesRouse 2 [.ref 102, .int (nI g)] S (uR_v (uR_rouse S g)) (uR_st S (uR_rouse S g)) := by
  refine q_Fi_of (maxL := 2) rfl (by decide +kernel) (fun ad => Nat.le_of_ble_eq_true rfl) (uR_nb (uR_rouse S g)) ?_
  intro K C hret
  have C : q_Cx K cX5_refusesRouse RX5 2 2 := C
  show q_V l K 0 [(0, .ref 102), (1, .int (nI g))] [] S
  refine q_aload_n C dX5_refusesRouse_0 rfl rfl ?_
  refine q_aload_n C dX5_refusesRouse_1 rfl rfl ?_
  refine q_getR C flX5_9 q_s102 rfl dX5_refusesRouse_2 ?_
  refine q_getR C flX5_65 q_s1 rfl dX5_refusesRouse_5 ?_
  refine q_iload_n C dX5_refusesRouse_8 rfl rfl ?_
  refine q_zaldN (i := g) (x := S 9 g) C rfl q_s9 (by omega) (by decide) dX5_refusesRouse_9 rfl ?_
  refine q_bipush (v := 10) C dX5_refusesRouse_10 (by decide) ?_
  refine q_iconst (v := 1) C dX5_refusesRouse_12 (by decide) ?_
  rcases hz.2 g hg with h_13 | h_13
  · refine q_ci3 C (q_Fi.cs h_13 (if_pos h_13) (c_X5_keepIf l S (S 9 g) 10 1 (Or.inl h_13))) myX5_keepIf mlX5_21 q_s102 ⟨by decide, by decide⟩ (Nat.le_of_ble_eq_true rfl) dX5_refusesRouse_13 ?_
    exact hret _ _ _ _ dX5_refusesRouse_16 (by simp [uR_rouse, uR_v, h_13]) (by simp [uR_rouse, uR_st, h_13])
  · refine q_ci3 C (q_Fi.cs h_13 (if_neg (by rw [h_13]; decide)) (c_X5_keepIf l S (S 9 g) 10 1 (Or.inr h_13))) myX5_keepIf mlX5_21 q_s102 ⟨by decide, by decide⟩ (Nat.le_of_ble_eq_true rfl) dX5_refusesRouse_13 ?_
    exact hret _ _ _ _ dX5_refusesRouse_16 (by simp [uR_rouse, uR_v, h_13]) (by simp [uR_rouse, uR_st, h_13])
theorem c_X5_refusesInquire (l : Launch) (S : q_St) (m : Nat) (hm : m < 8) (g : Nat) (hg : g < 6) (o : Nat) (ho : o < 6) : q_Fi l yX5_refusesInquire kX5_refusesInquire 3 [.ref 102, .int (nI m), .int (nI g), .int (nI o)] S (uR_v (uR_inq S m g o)) (uR_st S (uR_inq S m g o)) := by
  refine q_Fi_of (maxL := 5) rfl (by decide +kernel) (fun ad => Nat.le_of_ble_eq_true rfl) (uR_nb (uR_inq S m g o)) ?_
  intro K C hret
  have C : q_Cx K cX5_refusesInquire RX5 3 5 := C
  show q_V l K 0 [(0, .ref 102), (1, .int (nI m)), (2, .int (nI g)), (3, .int (nI o))] [] S
  refine q_aload_n C dX5_refusesInquire_0 rfl rfl ?_
  refine q_getR C flX5_9 q_s102 rfl dX5_refusesInquire_1 ?_
  refine q_iload_n C dX5_refusesInquire_4 rfl rfl ?_
  refine q_iload_n C dX5_refusesInquire_5 rfl rfl ?_
  refine q_ci2 C (c_X1_answerOf l S m (by omega) g (by omega)) myX1_answerOf mlX5_37 q_s1 ⟨by decide, by decide⟩ (Nat.le_of_ble_eq_true rfl) dX5_refusesInquire_6 ?_
  refine q_istore (lv' := [(4, .int (S 6 (m * 6 + g))), (0, .ref 102), (1, .int (nI m)), (2, .int (nI g)), (3, .int (nI o))]) C dX5_refusesInquire_9 (by decide) rfl ?_
  refine q_aload_n C dX5_refusesInquire_11 rfl rfl ?_
  refine q_iload_n C dX5_refusesInquire_12 rfl rfl ?_
  refine q_iload_n C dX5_refusesInquire_13 rfl rfl ?_
  by_cases h_14 : S 5 (m * 6 + g) = 0
  · refine q_ci2 C (q_Fi.cs (if_pos h_14) (if_pos h_14) (c_X5_isNoGuildOf l S m (by omega) g (by omega))) myX5_isNoGuildOf mlX5_44 q_s102 ⟨by decide, by decide⟩ (Nat.le_of_ble_eq_true rfl) dX5_refusesInquire_14 ?_
    refine q_if_ne (tgt := 95) C dX5_refusesInquire_17 (by decide) (fun _ => ?_) (fun h9 => absurd h9 (by decide))
    refine q_iconst (v := 1) C dX5_refusesInquire_95 (by decide) ?_
    refine q_goto (tgt := 100) C dX5_refusesInquire_96 (by decide) ?_
    exact hret _ _ _ _ dX5_refusesInquire_100 (by simp [uR_inq, uR_v, if_pos h_14, h_14]) (by simp [uR_inq, uR_st, if_pos h_14, h_14])
  · refine q_ci2 C (q_Fi.cs (if_neg h_14) (if_neg h_14) (c_X5_isNoGuildOf l S m (by omega) g (by omega))) myX5_isNoGuildOf mlX5_44 q_s102 ⟨by decide, by decide⟩ (Nat.le_of_ble_eq_true rfl) dX5_refusesInquire_14 ?_
    refine q_if_ne (tgt := 95) C dX5_refusesInquire_17 (by decide) (fun h9 => absurd h9 (by decide)) (fun _ => ?_)
    refine q_aload_n C dX5_refusesInquire_20 rfl rfl ?_
    refine q_iload_n C dX5_refusesInquire_21 rfl rfl ?_
    refine q_iload_n C dX5_refusesInquire_22 rfl rfl ?_
    by_cases h_23 : S 5 (m * 6 + o) = 0
    · refine q_ci2 C (q_Fi.cs (if_pos h_23) (if_pos h_23) (c_X5_isNoGuildOf l S m (by omega) o (by omega))) myX5_isNoGuildOf mlX5_44 q_s102 ⟨by decide, by decide⟩ (Nat.le_of_ble_eq_true rfl) dX5_refusesInquire_23 ?_
      refine q_if_ne (tgt := 95) C dX5_refusesInquire_26 (by decide) (fun _ => ?_) (fun h9 => absurd h9 (by decide))
      refine q_iconst (v := 1) C dX5_refusesInquire_95 (by decide) ?_
      refine q_goto (tgt := 100) C dX5_refusesInquire_96 (by decide) ?_
      exact hret _ _ _ _ dX5_refusesInquire_100 (by simp [uR_inq, uR_v, if_neg h_14, h_14, if_pos h_23, h_23]) (by simp [uR_inq, uR_st, if_neg h_14, h_14, if_pos h_23, h_23])
    · refine q_ci2 C (q_Fi.cs (if_neg h_23) (if_neg h_23) (c_X5_isNoGuildOf l S m (by omega) o (by omega))) myX5_isNoGuildOf mlX5_44 q_s102 ⟨by decide, by decide⟩ (Nat.le_of_ble_eq_true rfl) dX5_refusesInquire_23 ?_
      refine q_if_ne (tgt := 95) C dX5_refusesInquire_26 (by decide) (fun h9 => absurd h9 (by decide)) (fun _ => ?_)
      refine q_aload_n C dX5_refusesInquire_29 rfl rfl ?_
      refine q_iload_n C dX5_refusesInquire_30 rfl rfl ?_
      by_cases h_31 : S 9 g = 0
      · refine q_ci1 C (q_Fi.cs (if_pos h_31) (if_pos h_31) (c_X5_isAsleep l S g (by omega))) myX5_isAsleep mlX5_48 q_s102 ⟨by decide, by decide⟩ (Nat.le_of_ble_eq_true rfl) dX5_refusesInquire_31 ?_
        refine q_if_ne (tgt := 95) C dX5_refusesInquire_34 (by decide) (fun _ => ?_) (fun h9 => absurd h9 (by decide))
        refine q_iconst (v := 1) C dX5_refusesInquire_95 (by decide) ?_
        refine q_goto (tgt := 100) C dX5_refusesInquire_96 (by decide) ?_
        exact hret _ _ _ _ dX5_refusesInquire_100 (by simp [uR_inq, uR_v, if_neg h_14, h_14, if_neg h_23, h_23, if_pos h_31, h_31]) (by simp [uR_inq, uR_st, if_neg h_14, h_14, if_neg h_23, h_23, if_pos h_31, h_31])
      · refine q_ci1 C (q_Fi.cs (if_neg h_31) (if_neg h_31) (c_X5_isAsleep l S g (by omega))) myX5_isAsleep mlX5_48 q_s102 ⟨by decide, by decide⟩ (Nat.le_of_ble_eq_true rfl) dX5_refusesInquire_31 ?_
        refine q_if_ne (tgt := 95) C dX5_refusesInquire_34 (by decide) (fun h9 => absurd h9 (by decide)) (fun _ => ?_)
        refine q_aload_n C dX5_refusesInquire_37 rfl rfl ?_
        refine q_iload_n C dX5_refusesInquire_38 rfl rfl ?_
        by_cases h_39 : S 9 o = 0
        · refine q_ci1 C (q_Fi.cs (if_pos h_39) (if_pos h_39) (c_X5_isAsleep l S o (by omega))) myX5_isAsleep mlX5_48 q_s102 ⟨by decide, by decide⟩ (Nat.le_of_ble_eq_true rfl) dX5_refusesInquire_39 ?_
          refine q_if_ne (tgt := 95) C dX5_refusesInquire_42 (by decide) (fun _ => ?_) (fun h9 => absurd h9 (by decide))
          refine q_iconst (v := 1) C dX5_refusesInquire_95 (by decide) ?_
          refine q_goto (tgt := 100) C dX5_refusesInquire_96 (by decide) ?_
          exact hret _ _ _ _ dX5_refusesInquire_100 (by simp [uR_inq, uR_v, if_neg h_14, h_14, if_neg h_23, h_23, if_neg h_31, h_31, if_pos h_39, h_39]) (by simp [uR_inq, uR_st, if_neg h_14, h_14, if_neg h_23, h_23, if_neg h_31, h_31, if_pos h_39, h_39])
        · refine q_ci1 C (q_Fi.cs (if_neg h_39) (if_neg h_39) (c_X5_isAsleep l S o (by omega))) myX5_isAsleep mlX5_48 q_s102 ⟨by decide, by decide⟩ (Nat.le_of_ble_eq_true rfl) dX5_refusesInquire_39 ?_
          refine q_if_ne (tgt := 95) C dX5_refusesInquire_42 (by decide) (fun h9 => absurd h9 (by decide)) (fun _ => ?_)
          refine q_aload_n C dX5_refusesInquire_45 rfl rfl ?_
          refine q_iload C dX5_refusesInquire_46 rfl ?_
          refine q_iconst (v := 1) C dX5_refusesInquire_48 (by decide) ?_
          refine q_icmp_eq (tgt := 56) C dX5_refusesInquire_49 (by decide)  (fun c_49 => ?_) (fun c_49 => ?_)
          · refine q_iconst (v := 0) C dX5_refusesInquire_56 (by decide) ?_
            refine q_bipush (v := 12) C dX5_refusesInquire_57 (by decide) ?_
            refine q_iload C dX5_refusesInquire_59 rfl ?_
            refine q_ci3 C (q_Fi.cs rfl (if_pos rfl) (c_X5_keepIf l S 0 12 (S 6 (m * 6 + g)) (Or.inl rfl))) myX5_keepIf mlX5_21 q_s102 ⟨by decide, by decide⟩ (Nat.le_of_ble_eq_true rfl) dX5_refusesInquire_61 ?_
            refine q_if_ne (tgt := 95) C dX5_refusesInquire_64 (by decide) (fun h9 => absurd h9 (by decide)) (fun _ => ?_)
            refine q_aload_n C dX5_refusesInquire_67 rfl rfl ?_
            refine q_aload_n C dX5_refusesInquire_68 rfl rfl ?_
            refine q_getR C flX5_9 q_s102 rfl dX5_refusesInquire_69 ?_
            refine q_iload_n C dX5_refusesInquire_72 rfl rfl ?_
            refine q_iload_n C dX5_refusesInquire_73 rfl rfl ?_
            refine q_ci2 C (c_X1_answerOf l S m (by omega) o (by omega)) myX1_answerOf mlX5_37 q_s1 ⟨by decide, by decide⟩ (Nat.le_of_ble_eq_true rfl) dX5_refusesInquire_74 ?_
            refine q_iconst (v := 1) C dX5_refusesInquire_77 (by decide) ?_
            refine q_icmp_ne (tgt := 85) C dX5_refusesInquire_78 (by decide)  (fun c_78 => ?_) (fun c_78 => ?_)
            · refine q_iconst (v := 0) C dX5_refusesInquire_85 (by decide) ?_
              refine q_bipush (v := 13) C dX5_refusesInquire_86 (by decide) ?_
              refine q_iload_n C dX5_refusesInquire_88 rfl rfl ?_
              refine q_ci3 C (q_Fi.cs rfl (if_pos rfl) (c_X5_keepIf l S 0 13 (nI o) (Or.inl rfl))) myX5_keepIf mlX5_21 q_s102 ⟨by decide, by decide⟩ (Nat.le_of_ble_eq_true rfl) dX5_refusesInquire_89 ?_
              refine q_if_eq (tgt := 99) C dX5_refusesInquire_92 (by decide) (fun _ => ?_) (fun h9 => absurd h9 (by decide))
              refine q_iconst (v := 0) C dX5_refusesInquire_99 (by decide) ?_
              exact hret _ _ _ _ dX5_refusesInquire_100 (by simp [uR_inq, uR_v, if_neg h_14, h_14, if_neg h_23, h_23, if_neg h_31, h_31, if_neg h_39, h_39, c_49, c_78]) (by simp [uR_inq, uR_st, if_neg h_14, h_14, if_neg h_23, h_23, if_neg h_31, h_31, if_neg h_39, h_39, c_49, c_78])
            · refine q_iconst (v := 1) C dX5_refusesInquire_81 (by decide) ?_
              refine q_goto (tgt := 86) C dX5_refusesInquire_82 (by decide) ?_
              refine q_bipush (v := 13) C dX5_refusesInquire_86 (by decide) ?_
              refine q_iload_n C dX5_refusesInquire_88 rfl rfl ?_
              refine q_ci3 C (q_Fi.cs rfl (if_neg (by decide)) (c_X5_keepIf l S 1 13 (nI o) (Or.inr rfl))) myX5_keepIf mlX5_21 q_s102 ⟨by decide, by decide⟩ (Nat.le_of_ble_eq_true rfl) dX5_refusesInquire_89 ?_
              refine q_if_eq (tgt := 99) C dX5_refusesInquire_92 (by decide) (fun h9 => absurd h9 (by decide)) (fun _ => ?_)
              refine q_iconst (v := 1) C dX5_refusesInquire_95 (by decide) ?_
              refine q_goto (tgt := 100) C dX5_refusesInquire_96 (by decide) ?_
              exact hret _ _ _ _ dX5_refusesInquire_100 (by simp [uR_inq, uR_v, if_neg h_14, h_14, if_neg h_23, h_23, if_neg h_31, h_31, if_neg h_39, h_39, c_49, c_78]) (by simp [uR_inq, uR_st, if_neg h_14, h_14, if_neg h_23, h_23, if_neg h_31, h_31, if_neg h_39, h_39, c_49, c_78])
          · refine q_iconst (v := 1) C dX5_refusesInquire_52 (by decide) ?_
            refine q_goto (tgt := 57) C dX5_refusesInquire_53 (by decide) ?_
            refine q_bipush (v := 12) C dX5_refusesInquire_57 (by decide) ?_
            refine q_iload C dX5_refusesInquire_59 rfl ?_
            refine q_ci3 C (q_Fi.cs rfl (if_neg (by decide)) (c_X5_keepIf l S 1 12 (S 6 (m * 6 + g)) (Or.inr rfl))) myX5_keepIf mlX5_21 q_s102 ⟨by decide, by decide⟩ (Nat.le_of_ble_eq_true rfl) dX5_refusesInquire_61 ?_
            refine q_if_ne (tgt := 95) C dX5_refusesInquire_64 (by decide) (fun _ => ?_) (fun h9 => absurd h9 (by decide))
            refine q_iconst (v := 1) C dX5_refusesInquire_95 (by decide) ?_
            refine q_goto (tgt := 100) C dX5_refusesInquire_96 (by decide) ?_
            exact hret _ _ _ _ dX5_refusesInquire_100 (by simp [uR_inq, uR_v, if_neg h_14, h_14, if_neg h_23, h_23, if_neg h_31, h_31, if_neg h_39, h_39, c_49]) (by simp [uR_inq, uR_st, if_neg h_14, h_14, if_neg h_23, h_23, if_neg h_31, h_31, if_neg h_39, h_39, c_49])
