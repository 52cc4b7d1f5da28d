theorem c_X1_copy_30_10 (l : Launch) (S : q_St) (hz : q_bool S 10) : q_Fv l yX1_copyFrom kX1_copyFrom 1 [.ref 30, .ref 10] S (q_cp S 30 10) := by
  refine q_Fv_of (maxL := 3) rfl (by decide +kernel) (fun ad => Nat.le_of_ble_eq_true rfl) ?_
  intro K C hret
  have C : q_Cx K cX1_copyFrom RX1 1 3 := C
  show q_V l K 0 [(0, .ref 30), (1, .ref 10)] [] S
  refine q_aload_n C dX1_copyFrom_0 rfl rfl ?_
  refine q_aload_n C dX1_copyFrom_1 rfl rfl ?_
  refine q_getI (x := S 10 0) C flX1_41 q_s10 rfl dX1_copyFrom_2 rfl ?_
  refine q_put (ty9 := .int) C flX1_41 q_s30 rfl (fun _ _ _ h => by cases h; exact ⟨rfl, by decide +kernel⟩) rfl rfl dX1_copyFrom_5 ?_
  refine q_aload_n C dX1_copyFrom_8 rfl rfl ?_
  refine q_aload_n C dX1_copyFrom_9 rfl rfl ?_
  refine q_getI (x := S 10 1) C flX1_45 q_s10 rfl dX1_copyFrom_10 rfl ?_
  refine q_put (ty9 := .int) C flX1_45 q_s30 rfl (fun _ _ _ h => by cases h; exact ⟨rfl, by decide +kernel⟩) rfl rfl dX1_copyFrom_13 ?_
  refine q_aload_n C dX1_copyFrom_16 rfl rfl ?_
  refine q_aload_n C dX1_copyFrom_17 rfl rfl ?_
  refine q_getI (x := S 10 2) C flX1_48 q_s10 rfl dX1_copyFrom_18 rfl ?_
  refine q_put (ty9 := .int) C flX1_48 q_s30 rfl (fun _ _ _ h => by cases h; exact ⟨rfl, by decide +kernel⟩) rfl rfl dX1_copyFrom_21 ?_
  refine q_aload_n C dX1_copyFrom_24 rfl rfl ?_
  refine q_aload_n C dX1_copyFrom_25 rfl rfl ?_
  refine q_getI (x := S 10 3) C flX1_51 q_s10 rfl dX1_copyFrom_26 rfl ?_
  refine q_put (ty9 := .int) C flX1_51 q_s30 rfl (fun _ _ _ h => by cases h; exact ⟨rfl, by decide +kernel⟩) rfl rfl dX1_copyFrom_29 ?_
  refine q_aload_n C dX1_copyFrom_32 rfl rfl ?_
  refine q_aload_n C dX1_copyFrom_33 rfl rfl ?_
  refine q_getI (x := S 10 4) C flX1_54 q_s10 rfl dX1_copyFrom_34 rfl ?_
  refine q_put (ty9 := .int) C flX1_54 q_s30 rfl (fun _ _ _ h => by cases h; exact ⟨rfl, by decide +kernel⟩) rfl rfl dX1_copyFrom_37 ?_
  refine q_aload_n C dX1_copyFrom_40 rfl rfl ?_
  refine q_aload_n C dX1_copyFrom_41 rfl rfl ?_
  refine q_getI (x := S 10 5) C flX1_9 q_s10 rfl dX1_copyFrom_42 rfl ?_
  refine q_put (ty9 := .boolean) C flX1_9 q_s30 rfl (fun _ _ _ h => by cases h; exact ⟨rfl, by decide +kernel⟩) (q_narrow_b hz.1) (q_fits_b hz.1) dX1_copyFrom_45 ?_
  refine q_aload_n C dX1_copyFrom_48 rfl rfl ?_
  refine q_getR C flX1_15 q_s10 rfl dX1_copyFrom_49 ?_
  refine q_iconst (v := 0) C dX1_copyFrom_52 (by decide) ?_
  refine q_aload_n C dX1_copyFrom_53 rfl rfl ?_
  refine q_getR C flX1_15 q_s30 rfl dX1_copyFrom_54 ?_
  refine q_iconst (v := 0) C dX1_copyFrom_57 (by decide) ?_
  refine q_bipush (v := 8) C dX1_copyFrom_58 (by decide) ?_
  refine q_copyV (n := 8) (dp := 0) (sp := 0) (f := (va_cpy (S 11) (S 31) 0 0 8)) C q_s11 q_s31  rfl rfl rfl mlX1_57 w_copyN w_copyS w_copyI (by omega) (by omega) (by decide) (by decide) (by decide) (Nat.le_of_ble_eq_true rfl) dX1_copyFrom_60 rfl ?_
  refine q_aload_n C dX1_copyFrom_63 rfl rfl ?_
  refine q_getR C flX1_19 q_s10 rfl dX1_copyFrom_64 ?_
  refine q_iconst (v := 0) C dX1_copyFrom_67 (by decide) ?_
  refine q_aload_n C dX1_copyFrom_68 rfl rfl ?_
  refine q_getR C flX1_19 q_s30 rfl dX1_copyFrom_69 ?_
  refine q_iconst (v := 0) C dX1_copyFrom_72 (by decide) ?_
  refine q_bipush (v := 8) C dX1_copyFrom_73 (by decide) ?_
  refine q_copyV (n := 8) (dp := 0) (sp := 0) (f := (va_cpy (S 12) (S 32) 0 0 8)) C q_s12 q_s32  rfl rfl rfl mlX1_57 w_copyN w_copyS w_copyI (by omega) (by omega) (by decide) (by decide) (by decide) (Nat.le_of_ble_eq_true rfl) dX1_copyFrom_75 rfl ?_
  refine q_aload_n C dX1_copyFrom_78 rfl rfl ?_
  refine q_getR C flX1_22 q_s10 rfl dX1_copyFrom_79 ?_
  refine q_iconst (v := 0) C dX1_copyFrom_82 (by decide) ?_
  refine q_aload_n C dX1_copyFrom_83 rfl rfl ?_
  refine q_getR C flX1_22 q_s30 rfl dX1_copyFrom_84 ?_
  refine q_iconst (v := 0) C dX1_copyFrom_87 (by decide) ?_
  refine q_bipush (v := 8) C dX1_copyFrom_88 (by decide) ?_
  refine q_copyV (n := 8) (dp := 0) (sp := 0) (f := (va_cpy (S 13) (S 33) 0 0 8)) C q_s13 q_s33  rfl rfl rfl mlX1_57 w_copyN w_copyS w_copyI (by omega) (by omega) (by decide) (by decide) (by decide) (Nat.le_of_ble_eq_true rfl) dX1_copyFrom_90 rfl ?_
  refine q_aload_n C dX1_copyFrom_93 rfl rfl ?_
  refine q_getR C flX1_25 q_s10 rfl dX1_copyFrom_94 ?_
  refine q_iconst (v := 0) C dX1_copyFrom_97 (by decide) ?_
  refine q_aload_n C dX1_copyFrom_98 rfl rfl ?_
  refine q_getR C flX1_25 q_s30 rfl dX1_copyFrom_99 ?_
  refine q_iconst (v := 0) C dX1_copyFrom_102 (by decide) ?_
  refine q_bipush (v := 48) C dX1_copyFrom_103 (by decide) ?_
  refine q_copyV (n := 48) (dp := 0) (sp := 0) (f := (va_cpy (S 14) (S 34) 0 0 48)) C q_s14 q_s34  rfl rfl rfl mlX1_57 w_copyN w_copyS w_copyI (by omega) (by omega) (by decide) (by decide) (by decide) (Nat.le_of_ble_eq_true rfl) dX1_copyFrom_105 rfl ?_
  refine q_aload_n C dX1_copyFrom_108 rfl rfl ?_
  refine q_getR C flX1_28 q_s10 rfl dX1_copyFrom_109 ?_
  refine q_iconst (v := 0) C dX1_copyFrom_112 (by decide) ?_
  refine q_aload_n C dX1_copyFrom_113 rfl rfl ?_
  refine q_getR C flX1_28 q_s30 rfl dX1_copyFrom_114 ?_
  refine q_iconst (v := 0) C dX1_copyFrom_117 (by decide) ?_
  refine q_bipush (v := 48) C dX1_copyFrom_118 (by decide) ?_
  refine q_copyV (n := 48) (dp := 0) (sp := 0) (f := (va_cpy (S 15) (S 35) 0 0 48)) C q_s15 q_s35  rfl rfl rfl mlX1_57 w_copyN w_copyS w_copyI (by omega) (by omega) (by decide) (by decide) (by decide) (Nat.le_of_ble_eq_true rfl) dX1_copyFrom_120 rfl ?_
  refine q_aload_n C dX1_copyFrom_123 rfl rfl ?_
  refine q_getR C flX1_31 q_s10 rfl dX1_copyFrom_124 ?_
  refine q_iconst (v := 0) C dX1_copyFrom_127 (by decide) ?_
  refine q_aload_n C dX1_copyFrom_128 rfl rfl ?_
  refine q_getR C flX1_31 q_s30 rfl dX1_copyFrom_129 ?_
  refine q_iconst (v := 0) C dX1_copyFrom_132 (by decide) ?_
  refine q_bipush (v := 6) C dX1_copyFrom_133 (by decide) ?_
  refine q_copyV (n := 6) (dp := 0) (sp := 0) (f := (va_cpy (S 16) (S 36) 0 0 6)) C q_s16 q_s36  rfl rfl rfl mlX1_57 w_copyN w_copyS w_copyI (by omega) (by omega) (by decide) (by decide) (by decide) (Nat.le_of_ble_eq_true rfl) dX1_copyFrom_135 rfl ?_
  refine q_aload_n C dX1_copyFrom_138 rfl rfl ?_
  refine q_getR C flX1_34 q_s10 rfl dX1_copyFrom_139 ?_
  refine q_iconst (v := 0) C dX1_copyFrom_142 (by decide) ?_
  refine q_aload_n C dX1_copyFrom_143 rfl rfl ?_
  refine q_getR C flX1_34 q_s30 rfl dX1_copyFrom_144 ?_
  refine q_iconst (v := 0) C dX1_copyFrom_147 (by decide) ?_
  refine q_bipush (v := 6) C dX1_copyFrom_148 (by decide) ?_
  refine q_copyV (n := 6) (dp := 0) (sp := 0) (f := (va_cpy (S 17) (S 37) 0 0 6)) C q_s17 q_s37  rfl rfl rfl mlX1_57 w_copyN w_copyS w_copyI (by omega) (by omega) (by decide) (by decide) (by decide) (Nat.le_of_ble_eq_true rfl) dX1_copyFrom_150 rfl ?_
  refine q_iconst (v := 0) C dX1_copyFrom_153 (by decide) ?_
  refine q_istore_n (lv' := [(2, .int 0), (0, .ref 30), (1, .ref 10)]) C dX1_copyFrom_154 rfl (by decide) rfl ?_
  have loop_155 : ∀ (n_155 i_155 : Nat), i_155 + n_155 = 6 → q_V l K 155 [(0, .ref 30), (1, .ref 10), (2, .int (nI i_155))] [] (q_u (q_u (q_u (q_u (q_u (q_u (q_u (q_u (q_p (q_p (q_p (q_p (q_p (q_p S 30 0 (S 10 0)) 30 1 (S 10 1)) 30 2 (S 10 2)) 30 3 (S 10 3)) 30 4 (S 10 4)) 30 5 (S 10 5)) 31 (va_cpy (S 11) (S 31) 0 0 8)) 32 (va_cpy (S 12) (S 32) 0 0 8)) 33 (va_cpy (S 13) (S 33) 0 0 8)) 34 (va_cpy (S 14) (S 34) 0 0 48)) 35 (va_cpy (S 15) (S 35) 0 0 48)) 36 (va_cpy (S 16) (S 36) 0 0 6)) 37 (va_cpy (S 17) (S 37) 0 0 6)) 38 (va_cpy (S 18) (S 38) 0 0 i_155)) := by
    intro n_155
    induction n_155 with
    | zero =>
      intro i_155 hi_155
      have e_155 : i_155 = 6 := by omega
      refine q_iload_n C dX1_copyFrom_155 rfl rfl ?_
      refine q_bipush (v := 6) C dX1_copyFrom_156 (by decide) ?_
      refine q_icmp_geN (a := i_155) (b := 6) (tgt := 179) C dX1_copyFrom_158 (by decide) rfl rfl (by omega) (by omega) (fun c_158 => ?_) (fun c_158 => absurd c_158 (by omega))
      exact hret _ _ _ dX1_copyFrom_179 (by rw [e_155]; exact q_cp_eq S 30 10)
    | succ n_155 ih_155 =>
      intro i_155 hi_155
      refine q_iload_n C dX1_copyFrom_155 rfl rfl ?_
      refine q_bipush (v := 6) C dX1_copyFrom_156 (by decide) ?_
      refine q_icmp_geN (a := i_155) (b := 6) (tgt := 179) C dX1_copyFrom_158 (by decide) rfl rfl (by omega) (by omega) (fun c_158 => absurd c_158 (by omega)) (fun c_158 => ?_)
      refine q_aload_n C dX1_copyFrom_161 rfl rfl ?_
      refine q_getR C flX1_37 q_s30 rfl dX1_copyFrom_162 ?_
      refine q_iload_n C dX1_copyFrom_165 rfl rfl ?_
      refine q_aload_n C dX1_copyFrom_166 rfl rfl ?_
      refine q_getR C flX1_37 q_s10 rfl dX1_copyFrom_167 ?_
      refine q_iload_n C dX1_copyFrom_170 rfl rfl ?_
      refine q_zaldN (i := i_155) (x := S 18 i_155) C rfl q_s18 (by omega) (by decide) dX1_copyFrom_171 rfl ?_
      refine q_zastV (i := i_155) (v := S 18 i_155) C rfl q_s38 (by omega) (by decide) dX1_copyFrom_172 (q_nar_b (hz.2 _ (by omega))) ?_
      refine q_iinc (v := nI (i_155 + 1)) (lv' := [(2, .int (nI (i_155 + 1))), (0, .ref 30), (1, .ref 10)]) C dX1_copyFrom_173 rfl (nI_add _ _) (by decide) rfl ?_
      refine q_goto (tgt := 155) C dX1_copyFrom_176 (by decide) ?_
      exact q_V_to (ih_155 (i_155 + 1) (by omega)) ⟨rfl, rfl, rfl, trivial⟩ (q_u_s _ _ _ _ _)
  exact q_V_to (loop_155 (6 - 0) 0 (by omega)) ⟨rfl, rfl, rfl, trivial⟩ (q_u_0 _ _ _)
theorem c_X1_copy_39_10 (l : Launch) (S : q_St) (hz : q_bool S 10) : q_Fv l yX1_copyFrom kX1_copyFrom 1 [.ref 39, .ref 10] S (q_cp S 39 10) := by
  refine q_Fv_of (maxL := 3) rfl (by decide +kernel) (fun ad => Nat.le_of_ble_eq_true rfl) ?_
  intro K C hret
  have C : q_Cx K cX1_copyFrom RX1 1 3 := C
  show q_V l K 0 [(0, .ref 39), (1, .ref 10)] [] S
  refine q_aload_n C dX1_copyFrom_0 rfl rfl ?_
  refine q_aload_n C dX1_copyFrom_1 rfl rfl ?_
  refine q_getI (x := S 10 0) C flX1_41 q_s10 rfl dX1_copyFrom_2 rfl ?_
  refine q_put (ty9 := .int) C flX1_41 q_s39 rfl (fun _ _ _ h => by cases h; exact ⟨rfl, by decide +kernel⟩) rfl rfl dX1_copyFrom_5 ?_
  refine q_aload_n C dX1_copyFrom_8 rfl rfl ?_
  refine q_aload_n C dX1_copyFrom_9 rfl rfl ?_
  refine q_getI (x := S 10 1) C flX1_45 q_s10 rfl dX1_copyFrom_10 rfl ?_
  refine q_put (ty9 := .int) C flX1_45 q_s39 rfl (fun _ _ _ h => by cases h; exact ⟨rfl, by decide +kernel⟩) rfl rfl dX1_copyFrom_13 ?_
  refine q_aload_n C dX1_copyFrom_16 rfl rfl ?_
  refine q_aload_n C dX1_copyFrom_17 rfl rfl ?_
  refine q_getI (x := S 10 2) C flX1_48 q_s10 rfl dX1_copyFrom_18 rfl ?_
  refine q_put (ty9 := .int) C flX1_48 q_s39 rfl (fun _ _ _ h => by cases h; exact ⟨rfl, by decide +kernel⟩) rfl rfl dX1_copyFrom_21 ?_
  refine q_aload_n C dX1_copyFrom_24 rfl rfl ?_
  refine q_aload_n C dX1_copyFrom_25 rfl rfl ?_
  refine q_getI (x := S 10 3) C flX1_51 q_s10 rfl dX1_copyFrom_26 rfl ?_
  refine q_put (ty9 := .int) C flX1_51 q_s39 rfl (fun _ _ _ h => by cases h; exact ⟨rfl, by decide +kernel⟩) rfl rfl dX1_copyFrom_29 ?_
  refine q_aload_n C dX1_copyFrom_32 rfl rfl ?_
  refine q_aload_n C dX1_copyFrom_33 rfl rfl ?_
  refine q_getI (x := S 10 4) C flX1_54 q_s10 rfl dX1_copyFrom_34 rfl ?_
  refine q_put (ty9 := .int) C flX1_54 q_s39 rfl (fun _ _ _ h => by cases h; exact ⟨rfl, by decide +kernel⟩) rfl rfl dX1_copyFrom_37 ?_
  refine q_aload_n C dX1_copyFrom_40 rfl rfl ?_
  refine q_aload_n C dX1_copyFrom_41 rfl rfl ?_
  refine q_getI (x := S 10 5) C flX1_9 q_s10 rfl dX1_copyFrom_42 rfl ?_
  refine q_put (ty9 := .boolean) C flX1_9 q_s39 rfl (fun _ _ _ h => by cases h; exact ⟨rfl, by decide +kernel⟩) (q_narrow_b hz.1) (q_fits_b hz.1) dX1_copyFrom_45 ?_
  refine q_aload_n C dX1_copyFrom_48 rfl rfl ?_
  refine q_getR C flX1_15 q_s10 rfl dX1_copyFrom_49 ?_
  refine q_iconst (v := 0) C dX1_copyFrom_52 (by decide) ?_
  refine q_aload_n C dX1_copyFrom_53 rfl rfl ?_
  refine q_getR C flX1_15 q_s39 rfl dX1_copyFrom_54 ?_
  refine q_iconst (v := 0) C dX1_copyFrom_57 (by decide) ?_
  refine q_bipush (v := 8) C dX1_copyFrom_58 (by decide) ?_
  refine q_copyV (n := 8) (dp := 0) (sp := 0) (f := (va_cpy (S 11) (S 40) 0 0 8)) C q_s11 q_s40  rfl rfl rfl mlX1_57 w_copyN w_copyS w_copyI (by omega) (by omega) (by decide) (by decide) (by decide) (Nat.le_of_ble_eq_true rfl) dX1_copyFrom_60 rfl ?_
  refine q_aload_n C dX1_copyFrom_63 rfl rfl ?_
  refine q_getR C flX1_19 q_s10 rfl dX1_copyFrom_64 ?_
  refine q_iconst (v := 0) C dX1_copyFrom_67 (by decide) ?_
  refine q_aload_n C dX1_copyFrom_68 rfl rfl ?_
  refine q_getR C flX1_19 q_s39 rfl dX1_copyFrom_69 ?_
  refine q_iconst (v := 0) C dX1_copyFrom_72 (by decide) ?_
  refine q_bipush (v := 8) C dX1_copyFrom_73 (by decide) ?_
  refine q_copyV (n := 8) (dp := 0) (sp := 0) (f := (va_cpy (S 12) (S 41) 0 0 8)) C q_s12 q_s41  rfl rfl rfl mlX1_57 w_copyN w_copyS w_copyI (by omega) (by omega) (by decide) (by decide) (by decide) (Nat.le_of_ble_eq_true rfl) dX1_copyFrom_75 rfl ?_
  refine q_aload_n C dX1_copyFrom_78 rfl rfl ?_
  refine q_getR C flX1_22 q_s10 rfl dX1_copyFrom_79 ?_
  refine q_iconst (v := 0) C dX1_copyFrom_82 (by decide) ?_
  refine q_aload_n C dX1_copyFrom_83 rfl rfl ?_
  refine q_getR C flX1_22 q_s39 rfl dX1_copyFrom_84 ?_
  refine q_iconst (v := 0) C dX1_copyFrom_87 (by decide) ?_
  refine q_bipush (v := 8) C dX1_copyFrom_88 (by decide) ?_
  refine q_copyV (n := 8) (dp := 0) (sp := 0) (f := (va_cpy (S 13) (S 42) 0 0 8)) C q_s13 q_s42  rfl rfl rfl mlX1_57 w_copyN w_copyS w_copyI (by omega) (by omega) (by decide) (by decide) (by decide) (Nat.le_of_ble_eq_true rfl) dX1_copyFrom_90 rfl ?_
  refine q_aload_n C dX1_copyFrom_93 rfl rfl ?_
  refine q_getR C flX1_25 q_s10 rfl dX1_copyFrom_94 ?_
  refine q_iconst (v := 0) C dX1_copyFrom_97 (by decide) ?_
  refine q_aload_n C dX1_copyFrom_98 rfl rfl ?_
  refine q_getR C flX1_25 q_s39 rfl dX1_copyFrom_99 ?_
  refine q_iconst (v := 0) C dX1_copyFrom_102 (by decide) ?_
  refine q_bipush (v := 48) C dX1_copyFrom_103 (by decide) ?_
  refine q_copyV (n := 48) (dp := 0) (sp := 0) (f := (va_cpy (S 14) (S 43) 0 0 48)) C q_s14 q_s43  rfl rfl rfl mlX1_57 w_copyN w_copyS w_copyI (by omega) (by omega) (by decide) (by decide) (by decide) (Nat.le_of_ble_eq_true rfl) dX1_copyFrom_105 rfl ?_
  refine q_aload_n C dX1_copyFrom_108 rfl rfl ?_
  refine q_getR C flX1_28 q_s10 rfl dX1_copyFrom_109 ?_
  refine q_iconst (v := 0) C dX1_copyFrom_112 (by decide) ?_
  refine q_aload_n C dX1_copyFrom_113 rfl rfl ?_
  refine q_getR C flX1_28 q_s39 rfl dX1_copyFrom_114 ?_
  refine q_iconst (v := 0) C dX1_copyFrom_117 (by decide) ?_
  refine q_bipush (v := 48) C dX1_copyFrom_118 (by decide) ?_
  refine q_copyV (n := 48) (dp := 0) (sp := 0) (f := (va_cpy (S 15) (S 44) 0 0 48)) C q_s15 q_s44  rfl rfl rfl mlX1_57 w_copyN w_copyS w_copyI (by omega) (by omega) (by decide) (by decide) (by decide) (Nat.le_of_ble_eq_true rfl) dX1_copyFrom_120 rfl ?_
  refine q_aload_n C dX1_copyFrom_123 rfl rfl ?_
  refine q_getR C flX1_31 q_s10 rfl dX1_copyFrom_124 ?_
  refine q_iconst (v := 0) C dX1_copyFrom_127 (by decide) ?_
  refine q_aload_n C dX1_copyFrom_128 rfl rfl ?_
  refine q_getR C flX1_31 q_s39 rfl dX1_copyFrom_129 ?_
  refine q_iconst (v := 0) C dX1_copyFrom_132 (by decide) ?_
  refine q_bipush (v := 6) C dX1_copyFrom_133 (by decide) ?_
  refine q_copyV (n := 6) (dp := 0) (sp := 0) (f := (va_cpy (S 16) (S 45) 0 0 6)) C q_s16 q_s45  rfl rfl rfl mlX1_57 w_copyN w_copyS w_copyI (by omega) (by omega) (by decide) (by decide) (by decide) (Nat.le_of_ble_eq_true rfl) dX1_copyFrom_135 rfl ?_
  refine q_aload_n C dX1_copyFrom_138 rfl rfl ?_
  refine q_getR C flX1_34 q_s10 rfl dX1_copyFrom_139 ?_
  refine q_iconst (v := 0) C dX1_copyFrom_142 (by decide) ?_
  refine q_aload_n C dX1_copyFrom_143 rfl rfl ?_
  refine q_getR C flX1_34 q_s39 rfl dX1_copyFrom_144 ?_
  refine q_iconst (v := 0) C dX1_copyFrom_147 (by decide) ?_
  refine q_bipush (v := 6) C dX1_copyFrom_148 (by decide) ?_
  refine q_copyV (n := 6) (dp := 0) (sp := 0) (f := (va_cpy (S 17) (S 46) 0 0 6)) C q_s17 q_s46  rfl rfl rfl mlX1_57 w_copyN w_copyS w_copyI (by omega) (by omega) (by decide) (by decide) (by decide) (Nat.le_of_ble_eq_true rfl) dX1_copyFrom_150 rfl ?_
  refine q_iconst (v := 0) C dX1_copyFrom_153 (by decide) ?_
  refine q_istore_n (lv' := [(2, .int 0), (0, .ref 39), (1, .ref 10)]) C dX1_copyFrom_154 rfl (by decide) rfl ?_
  have loop_155 : ∀ (n_155 i_155 : Nat), i_155 + n_155 = 6 → q_V l K 155 [(0, .ref 39), (1, .ref 10), (2, .int (nI i_155))] [] (q_u (q_u (q_u (q_u (q_u (q_u (q_u (q_u (q_p (q_p (q_p (q_p (q_p (q_p S 39 0 (S 10 0)) 39 1 (S 10 1)) 39 2 (S 10 2)) 39 3 (S 10 3)) 39 4 (S 10 4)) 39 5 (S 10 5)) 40 (va_cpy (S 11) (S 40) 0 0 8)) 41 (va_cpy (S 12) (S 41) 0 0 8)) 42 (va_cpy (S 13) (S 42) 0 0 8)) 43 (va_cpy (S 14) (S 43) 0 0 48)) 44 (va_cpy (S 15) (S 44) 0 0 48)) 45 (va_cpy (S 16) (S 45) 0 0 6)) 46 (va_cpy (S 17) (S 46) 0 0 6)) 47 (va_cpy (S 18) (S 47) 0 0 i_155)) := by
    intro n_155
    induction n_155 with
    | zero =>
      intro i_155 hi_155
      have e_155 : i_155 = 6 := by omega
      refine q_iload_n C dX1_copyFrom_155 rfl rfl ?_
      refine q_bipush (v := 6) C dX1_copyFrom_156 (by decide) ?_
      refine q_icmp_geN (a := i_155) (b := 6) (tgt := 179) C dX1_copyFrom_158 (by decide) rfl rfl (by omega) (by omega) (fun c_158 => ?_) (fun c_158 => absurd c_158 (by omega))
      exact hret _ _ _ dX1_copyFrom_179 (by rw [e_155]; exact q_cp_eq S 39 10)
    | succ n_155 ih_155 =>
      intro i_155 hi_155
      refine q_iload_n C dX1_copyFrom_155 rfl rfl ?_
      refine q_bipush (v := 6) C dX1_copyFrom_156 (by decide) ?_
      refine q_icmp_geN (a := i_155) (b := 6) (tgt := 179) C dX1_copyFrom_158 (by decide) rfl rfl (by omega) (by omega) (fun c_158 => absurd c_158 (by omega)) (fun c_158 => ?_)
      refine q_aload_n C dX1_copyFrom_161 rfl rfl ?_
      refine q_getR C flX1_37 q_s39 rfl dX1_copyFrom_162 ?_
      refine q_iload_n C dX1_copyFrom_165 rfl rfl ?_
      refine q_aload_n C dX1_copyFrom_166 rfl rfl ?_
      refine q_getR C flX1_37 q_s10 rfl dX1_copyFrom_167 ?_
      refine q_iload_n C dX1_copyFrom_170 rfl rfl ?_
      refine q_zaldN (i := i_155) (x := S 18 i_155) C rfl q_s18 (by omega) (by decide) dX1_copyFrom_171 rfl ?_
      refine q_zastV (i := i_155) (v := S 18 i_155) C rfl q_s47 (by omega) (by decide) dX1_copyFrom_172 (q_nar_b (hz.2 _ (by omega))) ?_
      refine q_iinc (v := nI (i_155 + 1)) (lv' := [(2, .int (nI (i_155 + 1))), (0, .ref 39), (1, .ref 10)]) C dX1_copyFrom_173 rfl (nI_add _ _) (by decide) rfl ?_
      refine q_goto (tgt := 155) C dX1_copyFrom_176 (by decide) ?_
      exact q_V_to (ih_155 (i_155 + 1) (by omega)) ⟨rfl, rfl, rfl, trivial⟩ (q_u_s _ _ _ _ _)
  exact q_V_to (loop_155 (6 - 0) 0 (by omega)) ⟨rfl, rfl, rfl, trivial⟩ (q_u_0 _ _ _)
theorem c_X1_copy_48_10 (l : Launch) (S : q_St) (hz : q_bool S 10) : q_Fv l yX1_copyFrom kX1_copyFrom 1 [.ref 48, .ref 10] S (q_cp S 48 10) := by
  refine q_Fv_of (maxL := 3) rfl (by decide +kernel) (fun ad => Nat.le_of_ble_eq_true rfl) ?_
  intro K C hret
  have C : q_Cx K cX1_copyFrom RX1 1 3 := C
  show q_V l K 0 [(0, .ref 48), (1, .ref 10)] [] S
  refine q_aload_n C dX1_copyFrom_0 rfl rfl ?_
  refine q_aload_n C dX1_copyFrom_1 rfl rfl ?_
  refine q_getI (x := S 10 0) C flX1_41 q_s10 rfl dX1_copyFrom_2 rfl ?_
  refine q_put (ty9 := .int) C flX1_41 q_s48 rfl (fun _ _ _ h => by cases h; exact ⟨rfl, by decide +kernel⟩) rfl rfl dX1_copyFrom_5 ?_
  refine q_aload_n C dX1_copyFrom_8 rfl rfl ?_
  refine q_aload_n C dX1_copyFrom_9 rfl rfl ?_
  refine q_getI (x := S 10 1) C flX1_45 q_s10 rfl dX1_copyFrom_10 rfl ?_
  refine q_put (ty9 := .int) C flX1_45 q_s48 rfl (fun _ _ _ h => by cases h; exact ⟨rfl, by decide +kernel⟩) rfl rfl dX1_copyFrom_13 ?_
  refine q_aload_n C dX1_copyFrom_16 rfl rfl ?_
  refine q_aload_n C dX1_copyFrom_17 rfl rfl ?_
  refine q_getI (x := S 10 2) C flX1_48 q_s10 rfl dX1_copyFrom_18 rfl ?_
  refine q_put (ty9 := .int) C flX1_48 q_s48 rfl (fun _ _ _ h => by cases h; exact ⟨rfl, by decide +kernel⟩) rfl rfl dX1_copyFrom_21 ?_
  refine q_aload_n C dX1_copyFrom_24 rfl rfl ?_
  refine q_aload_n C dX1_copyFrom_25 rfl rfl ?_
  refine q_getI (x := S 10 3) C flX1_51 q_s10 rfl dX1_copyFrom_26 rfl ?_
  refine q_put (ty9 := .int) C flX1_51 q_s48 rfl (fun _ _ _ h => by cases h; exact ⟨rfl, by decide +kernel⟩) rfl rfl dX1_copyFrom_29 ?_
  refine q_aload_n C dX1_copyFrom_32 rfl rfl ?_
  refine q_aload_n C dX1_copyFrom_33 rfl rfl ?_
  refine q_getI (x := S 10 4) C flX1_54 q_s10 rfl dX1_copyFrom_34 rfl ?_
  refine q_put (ty9 := .int) C flX1_54 q_s48 rfl (fun _ _ _ h => by cases h; exact ⟨rfl, by decide +kernel⟩) rfl rfl dX1_copyFrom_37 ?_
  refine q_aload_n C dX1_copyFrom_40 rfl rfl ?_
  refine q_aload_n C dX1_copyFrom_41 rfl rfl ?_
  refine q_getI (x := S 10 5) C flX1_9 q_s10 rfl dX1_copyFrom_42 rfl ?_
  refine q_put (ty9 := .boolean) C flX1_9 q_s48 rfl (fun _ _ _ h => by cases h; exact ⟨rfl, by decide +kernel⟩) (q_narrow_b hz.1) (q_fits_b hz.1) dX1_copyFrom_45 ?_
  refine q_aload_n C dX1_copyFrom_48 rfl rfl ?_
  refine q_getR C flX1_15 q_s10 rfl dX1_copyFrom_49 ?_
  refine q_iconst (v := 0) C dX1_copyFrom_52 (by decide) ?_
  refine q_aload_n C dX1_copyFrom_53 rfl rfl ?_
  refine q_getR C flX1_15 q_s48 rfl dX1_copyFrom_54 ?_
  refine q_iconst (v := 0) C dX1_copyFrom_57 (by decide) ?_
  refine q_bipush (v := 8) C dX1_copyFrom_58 (by decide) ?_
  refine q_copyV (n := 8) (dp := 0) (sp := 0) (f := (va_cpy (S 11) (S 49) 0 0 8)) C q_s11 q_s49  rfl rfl rfl mlX1_57 w_copyN w_copyS w_copyI (by omega) (by omega) (by decide) (by decide) (by decide) (Nat.le_of_ble_eq_true rfl) dX1_copyFrom_60 rfl ?_
  refine q_aload_n C dX1_copyFrom_63 rfl rfl ?_
  refine q_getR C flX1_19 q_s10 rfl dX1_copyFrom_64 ?_
  refine q_iconst (v := 0) C dX1_copyFrom_67 (by decide) ?_
  refine q_aload_n C dX1_copyFrom_68 rfl rfl ?_
  refine q_getR C flX1_19 q_s48 rfl dX1_copyFrom_69 ?_
  refine q_iconst (v := 0) C dX1_copyFrom_72 (by decide) ?_
  refine q_bipush (v := 8) C dX1_copyFrom_73 (by decide) ?_
  refine q_copyV (n := 8) (dp := 0) (sp := 0) (f := (va_cpy (S 12) (S 50) 0 0 8)) C q_s12 q_s50  rfl rfl rfl mlX1_57 w_copyN w_copyS w_copyI (by omega) (by omega) (by decide) (by decide) (by decide) (Nat.le_of_ble_eq_true rfl) dX1_copyFrom_75 rfl ?_
  refine q_aload_n C dX1_copyFrom_78 rfl rfl ?_
  refine q_getR C flX1_22 q_s10 rfl dX1_copyFrom_79 ?_
  refine q_iconst (v := 0) C dX1_copyFrom_82 (by decide) ?_
  refine q_aload_n C dX1_copyFrom_83 rfl rfl ?_
  refine q_getR C flX1_22 q_s48 rfl dX1_copyFrom_84 ?_
  refine q_iconst (v := 0) C dX1_copyFrom_87 (by decide) ?_
  refine q_bipush (v := 8) C dX1_copyFrom_88 (by decide) ?_
  refine q_copyV (n := 8) (dp := 0) (sp := 0) (f := (va_cpy (S 13) (S 51) 0 0 8)) C q_s13 q_s51  rfl rfl rfl mlX1_57 w_copyN w_copyS w_copyI (by omega) (by omega) (by decide) (by decide) (by decide) (Nat.le_of_ble_eq_true rfl) dX1_copyFrom_90 rfl ?_
  refine q_aload_n C dX1_copyFrom_93 rfl rfl ?_
  refine q_getR C flX1_25 q_s10 rfl dX1_copyFrom_94 ?_
  refine q_iconst (v := 0) C dX1_copyFrom_97 (by decide) ?_
  refine q_aload_n C dX1_copyFrom_98 rfl rfl ?_
  refine q_getR C flX1_25 q_s48 rfl dX1_copyFrom_99 ?_
  refine q_iconst (v := 0) C dX1_copyFrom_102 (by decide) ?_
  refine q_bipush (v := 48) C dX1_copyFrom_103 (by decide) ?_
  refine q_copyV (n := 48) (dp := 0) (sp := 0) (f := (va_cpy (S 14) (S 52) 0 0 48)) C q_s14 q_s52  rfl rfl rfl mlX1_57 w_copyN w_copyS w_copyI (by omega) (by omega) (by decide) (by decide) (by decide) (Nat.le_of_ble_eq_true rfl) dX1_copyFrom_105 rfl ?_
  refine q_aload_n C dX1_copyFrom_108 rfl rfl ?_
  refine q_getR C flX1_28 q_s10 rfl dX1_copyFrom_109 ?_
  refine q_iconst (v := 0) C dX1_copyFrom_112 (by decide) ?_
  refine q_aload_n C dX1_copyFrom_113 rfl rfl ?_
  refine q_getR C flX1_28 q_s48 rfl dX1_copyFrom_114 ?_
  refine q_iconst (v := 0) C dX1_copyFrom_117 (by decide) ?_
  refine q_bipush (v := 48) C dX1_copyFrom_118 (by decide) ?_
  refine q_copyV (n := 48) (dp := 0) (sp := 0) (f := (va_cpy (S 15) (S 53) 0 0 48)) C q_s15 q_s53  rfl rfl rfl mlX1_57 w_copyN w_copyS w_copyI (by omega) (by omega) (by decide) (by decide) (by decide) (Nat.le_of_ble_eq_true rfl) dX1_copyFrom_120 rfl ?_
  refine q_aload_n C dX1_copyFrom_123 rfl rfl ?_
  refine q_getR C flX1_31 q_s10 rfl dX1_copyFrom_124 ?_
  refine q_iconst (v := 0) C dX1_copyFrom_127 (by decide) ?_
  refine q_aload_n C dX1_copyFrom_128 rfl rfl ?_
  refine q_getR C flX1_31 q_s48 rfl dX1_copyFrom_129 ?_
  refine q_iconst (v := 0) C dX1_copyFrom_132 (by decide) ?_
  refine q_bipush (v := 6) C dX1_copyFrom_133 (by decide) ?_
  refine q_copyV (n := 6) (dp := 0) (sp := 0) (f := (va_cpy (S 16) (S 54) 0 0 6)) C q_s16 q_s54  rfl rfl rfl mlX1_57 w_copyN w_copyS w_copyI (by omega) (by omega) (by decide) (by decide) (by decide) (Nat.le_of_ble_eq_true rfl) dX1_copyFrom_135 rfl ?_
  refine q_aload_n C dX1_copyFrom_138 rfl rfl ?_
  refine q_getR C flX1_34 q_s10 rfl dX1_copyFrom_139 ?_
  refine q_iconst (v := 0) C dX1_copyFrom_142 (by decide) ?_
  refine q_aload_n C dX1_copyFrom_143 rfl rfl ?_
  refine q_getR C flX1_34 q_s48 rfl dX1_copyFrom_144 ?_
  refine q_iconst (v := 0) C dX1_copyFrom_147 (by decide) ?_
  refine q_bipush (v := 6) C dX1_copyFrom_148 (by decide) ?_
  refine q_copyV (n := 6) (dp := 0) (sp := 0) (f := (va_cpy (S 17) (S 55) 0 0 6)) C q_s17 q_s55  rfl rfl rfl mlX1_57 w_copyN w_copyS w_copyI (by omega) (by omega) (by decide) (by decide) (by decide) (Nat.le_of_ble_eq_true rfl) dX1_copyFrom_150 rfl ?_
  refine q_iconst (v := 0) C dX1_copyFrom_153 (by decide) ?_
  refine q_istore_n (lv' := [(2, .int 0), (0, .ref 48), (1, .ref 10)]) C dX1_copyFrom_154 rfl (by decide) rfl ?_
  have loop_155 : ∀ (n_155 i_155 : Nat), i_155 + n_155 = 6 → q_V l K 155 [(0, .ref 48), (1, .ref 10), (2, .int (nI i_155))] [] (q_u (q_u (q_u (q_u (q_u (q_u (q_u (q_u (q_p (q_p (q_p (q_p (q_p (q_p S 48 0 (S 10 0)) 48 1 (S 10 1)) 48 2 (S 10 2)) 48 3 (S 10 3)) 48 4 (S 10 4)) 48 5 (S 10 5)) 49 (va_cpy (S 11) (S 49) 0 0 8)) 50 (va_cpy (S 12) (S 50) 0 0 8)) 51 (va_cpy (S 13) (S 51) 0 0 8)) 52 (va_cpy (S 14) (S 52) 0 0 48)) 53 (va_cpy (S 15) (S 53) 0 0 48)) 54 (va_cpy (S 16) (S 54) 0 0 6)) 55 (va_cpy (S 17) (S 55) 0 0 6)) 56 (va_cpy (S 18) (S 56) 0 0 i_155)) := by
    intro n_155
    induction n_155 with
    | zero =>
      intro i_155 hi_155
      have e_155 : i_155 = 6 := by omega
      refine q_iload_n C dX1_copyFrom_155 rfl rfl ?_
      refine q_bipush (v := 6) C dX1_copyFrom_156 (by decide) ?_
      refine q_icmp_geN (a := i_155) (b := 6) (tgt := 179) C dX1_copyFrom_158 (by decide) rfl rfl (by omega) (by omega) (fun c_158 => ?_) (fun c_158 => absurd c_158 (by omega))
      exact hret _ _ _ dX1_copyFrom_179 (by rw [e_155]; exact q_cp_eq S 48 10)
    | succ n_155 ih_155 =>
      intro i_155 hi_155
      refine q_iload_n C dX1_copyFrom_155 rfl rfl ?_
      refine q_bipush (v := 6) C dX1_copyFrom_156 (by decide) ?_
      refine q_icmp_geN (a := i_155) (b := 6) (tgt := 179) C dX1_copyFrom_158 (by decide) rfl rfl (by omega) (by omega) (fun c_158 => absurd c_158 (by omega)) (fun c_158 => ?_)
      refine q_aload_n C dX1_copyFrom_161 rfl rfl ?_
      refine q_getR C flX1_37 q_s48 rfl dX1_copyFrom_162 ?_
      refine q_iload_n C dX1_copyFrom_165 rfl rfl ?_
      refine q_aload_n C dX1_copyFrom_166 rfl rfl ?_
      refine q_getR C flX1_37 q_s10 rfl dX1_copyFrom_167 ?_
      refine q_iload_n C dX1_copyFrom_170 rfl rfl ?_
      refine q_zaldN (i := i_155) (x := S 18 i_155) C rfl q_s18 (by omega) (by decide) dX1_copyFrom_171 rfl ?_
      refine q_zastV (i := i_155) (v := S 18 i_155) C rfl q_s56 (by omega) (by decide) dX1_copyFrom_172 (q_nar_b (hz.2 _ (by omega))) ?_
      refine q_iinc (v := nI (i_155 + 1)) (lv' := [(2, .int (nI (i_155 + 1))), (0, .ref 48), (1, .ref 10)]) C dX1_copyFrom_173 rfl (nI_add _ _) (by decide) rfl ?_
      refine q_goto (tgt := 155) C dX1_copyFrom_176 (by decide) ?_
      exact q_V_to (ih_155 (i_155 + 1) (by omega)) ⟨rfl, rfl, rfl, trivial⟩ (q_u_s _ _ _ _ _)
  exact q_V_to (loop_155 (6 - 0) 0 (by omega)) ⟨rfl, rfl, rfl, trivial⟩ (q_u_0 _ _ _)
theorem c_X1_copy_57_10 (l : Launch) (S : q_St) (hz : q_bool S 10) : q_Fv l yX1_copyFrom kX1_copyFrom 1 [.ref 57, .ref 10] S (q_cp S 57 10) := by
  refine q_Fv_of (maxL := 3) rfl (by decide +kernel) (fun ad => Nat.le_of_ble_eq_true rfl) ?_
  intro K C hret
  have C : q_Cx K cX1_copyFrom RX1 1 3 := C
  show q_V l K 0 [(0, .ref 57), (1, .ref 10)] [] S
  refine q_aload_n C dX1_copyFrom_0 rfl rfl ?_
  refine q_aload_n C dX1_copyFrom_1 rfl rfl ?_
  refine q_getI (x := S 10 0) C flX1_41 q_s10 rfl dX1_copyFrom_2 rfl ?_
  refine q_put (ty9 := .int) C flX1_41 q_s57 rfl (fun _ _ _ h => by cases h; exact ⟨rfl, by decide +kernel⟩) rfl rfl dX1_copyFrom_5 ?_
  refine q_aload_n C dX1_copyFrom_8 rfl rfl ?_
  refine q_aload_n C dX1_copyFrom_9 rfl rfl ?_
  refine q_getI (x := S 10 1) C flX1_45 q_s10 rfl dX1_copyFrom_10 rfl ?_
  refine q_put (ty9 := .int) C flX1_45 q_s57 rfl (fun _ _ _ h => by cases h; exact ⟨rfl, by decide +kernel⟩) rfl rfl dX1_copyFrom_13 ?_
  refine q_aload_n C dX1_copyFrom_16 rfl rfl ?_
  refine q_aload_n C dX1_copyFrom_17 rfl rfl ?_
  refine q_getI (x := S 10 2) C flX1_48 q_s10 rfl dX1_copyFrom_18 rfl ?_
  refine q_put (ty9 := .int) C flX1_48 q_s57 rfl (fun _ _ _ h => by cases h; exact ⟨rfl, by decide +kernel⟩) rfl rfl dX1_copyFrom_21 ?_
  refine q_aload_n C dX1_copyFrom_24 rfl rfl ?_
  refine q_aload_n C dX1_copyFrom_25 rfl rfl ?_
  refine q_getI (x := S 10 3) C flX1_51 q_s10 rfl dX1_copyFrom_26 rfl ?_
  refine q_put (ty9 := .int) C flX1_51 q_s57 rfl (fun _ _ _ h => by cases h; exact ⟨rfl, by decide +kernel⟩) rfl rfl dX1_copyFrom_29 ?_
  refine q_aload_n C dX1_copyFrom_32 rfl rfl ?_
  refine q_aload_n C dX1_copyFrom_33 rfl rfl ?_
  refine q_getI (x := S 10 4) C flX1_54 q_s10 rfl dX1_copyFrom_34 rfl ?_
  refine q_put (ty9 := .int) C flX1_54 q_s57 rfl (fun _ _ _ h => by cases h; exact ⟨rfl, by decide +kernel⟩) rfl rfl dX1_copyFrom_37 ?_
  refine q_aload_n C dX1_copyFrom_40 rfl rfl ?_
  refine q_aload_n C dX1_copyFrom_41 rfl rfl ?_
  refine q_getI (x := S 10 5) C flX1_9 q_s10 rfl dX1_copyFrom_42 rfl ?_
  refine q_put (ty9 := .boolean) C flX1_9 q_s57 rfl (fun _ _ _ h => by cases h; exact ⟨rfl, by decide +kernel⟩) (q_narrow_b hz.1) (q_fits_b hz.1) dX1_copyFrom_45 ?_
  refine q_aload_n C dX1_copyFrom_48 rfl rfl ?_
  refine q_getR C flX1_15 q_s10 rfl dX1_copyFrom_49 ?_
  refine q_iconst (v := 0) C dX1_copyFrom_52 (by decide) ?_
  refine q_aload_n C dX1_copyFrom_53 rfl rfl ?_
  refine q_getR C flX1_15 q_s57 rfl dX1_copyFrom_54 ?_
  refine q_iconst (v := 0) C dX1_copyFrom_57 (by decide) ?_
  refine q_bipush (v := 8) C dX1_copyFrom_58 (by decide) ?_
  refine q_copyV (n := 8) (dp := 0) (sp := 0) (f := (va_cpy (S 11) (S 58) 0 0 8)) C q_s11 q_s58  rfl rfl rfl mlX1_57 w_copyN w_copyS w_copyI (by omega) (by omega) (by decide) (by decide) (by decide) (Nat.le_of_ble_eq_true rfl) dX1_copyFrom_60 rfl ?_
  refine q_aload_n C dX1_copyFrom_63 rfl rfl ?_
  refine q_getR C flX1_19 q_s10 rfl dX1_copyFrom_64 ?_
  refine q_iconst (v := 0) C dX1_copyFrom_67 (by decide) ?_
  refine q_aload_n C dX1_copyFrom_68 rfl rfl ?_
  refine q_getR C flX1_19 q_s57 rfl dX1_copyFrom_69 ?_
  refine q_iconst (v := 0) C dX1_copyFrom_72 (by decide) ?_
  refine q_bipush (v := 8) C dX1_copyFrom_73 (by decide) ?_
  refine q_copyV (n := 8) (dp := 0) (sp := 0) (f := (va_cpy (S 12) (S 59) 0 0 8)) C q_s12 q_s59  rfl rfl rfl mlX1_57 w_copyN w_copyS w_copyI (by omega) (by omega) (by decide) (by decide) (by decide) (Nat.le_of_ble_eq_true rfl) dX1_copyFrom_75 rfl ?_
  refine q_aload_n C dX1_copyFrom_78 rfl rfl ?_
  refine q_getR C flX1_22 q_s10 rfl dX1_copyFrom_79 ?_
  refine q_iconst (v := 0) C dX1_copyFrom_82 (by decide) ?_
  refine q_aload_n C dX1_copyFrom_83 rfl rfl ?_
  refine q_getR C flX1_22 q_s57 rfl dX1_copyFrom_84 ?_
  refine q_iconst (v := 0) C dX1_copyFrom_87 (by decide) ?_
  refine q_bipush (v := 8) C dX1_copyFrom_88 (by decide) ?_
  refine q_copyV (n := 8) (dp := 0) (sp := 0) (f := (va_cpy (S 13) (S 60) 0 0 8)) C q_s13 q_s60  rfl rfl rfl mlX1_57 w_copyN w_copyS w_copyI (by omega) (by omega) (by decide) (by decide) (by decide) (Nat.le_of_ble_eq_true rfl) dX1_copyFrom_90 rfl ?_
  refine q_aload_n C dX1_copyFrom_93 rfl rfl ?_
  refine q_getR C flX1_25 q_s10 rfl dX1_copyFrom_94 ?_
  refine q_iconst (v := 0) C dX1_copyFrom_97 (by decide) ?_
  refine q_aload_n C dX1_copyFrom_98 rfl rfl ?_
  refine q_getR C flX1_25 q_s57 rfl dX1_copyFrom_99 ?_
  refine q_iconst (v := 0) C dX1_copyFrom_102 (by decide) ?_
  refine q_bipush (v := 48) C dX1_copyFrom_103 (by decide) ?_
  refine q_copyV (n := 48) (dp := 0) (sp := 0) (f := (va_cpy (S 14) (S 61) 0 0 48)) C q_s14 q_s61  rfl rfl rfl mlX1_57 w_copyN w_copyS w_copyI (by omega) (by omega) (by decide) (by decide) (by decide) (Nat.le_of_ble_eq_true rfl) dX1_copyFrom_105 rfl ?_
  refine q_aload_n C dX1_copyFrom_108 rfl rfl ?_
  refine q_getR C flX1_28 q_s10 rfl dX1_copyFrom_109 ?_
  refine q_iconst (v := 0) C dX1_copyFrom_112 (by decide) ?_
  refine q_aload_n C dX1_copyFrom_113 rfl rfl ?_
  refine q_getR C flX1_28 q_s57 rfl dX1_copyFrom_114 ?_
  refine q_iconst (v := 0) C dX1_copyFrom_117 (by decide) ?_
  refine q_bipush (v := 48) C dX1_copyFrom_118 (by decide) ?_
  refine q_copyV (n := 48) (dp := 0) (sp := 0) (f := (va_cpy (S 15) (S 62) 0 0 48)) C q_s15 q_s62  rfl rfl rfl mlX1_57 w_copyN w_copyS w_copyI (by omega) (by omega) (by decide) (by decide) (by decide) (Nat.le_of_ble_eq_true rfl) dX1_copyFrom_120 rfl ?_
  refine q_aload_n C dX1_copyFrom_123 rfl rfl ?_
  refine q_getR C flX1_31 q_s10 rfl dX1_copyFrom_124 ?_
  refine q_iconst (v := 0) C dX1_copyFrom_127 (by decide) ?_
  refine q_aload_n C dX1_copyFrom_128 rfl rfl ?_
  refine q_getR C flX1_31 q_s57 rfl dX1_copyFrom_129 ?_
  refine q_iconst (v := 0) C dX1_copyFrom_132 (by decide) ?_
  refine q_bipush (v := 6) C dX1_copyFrom_133 (by decide) ?_
  refine q_copyV (n := 6) (dp := 0) (sp := 0) (f := (va_cpy (S 16) (S 63) 0 0 6)) C q_s16 q_s63  rfl rfl rfl mlX1_57 w_copyN w_copyS w_copyI (by omega) (by omega) (by decide) (by decide) (by decide) (Nat.le_of_ble_eq_true rfl) dX1_copyFrom_135 rfl ?_
  refine q_aload_n C dX1_copyFrom_138 rfl rfl ?_
  refine q_getR C flX1_34 q_s10 rfl dX1_copyFrom_139 ?_
  refine q_iconst (v := 0) C dX1_copyFrom_142 (by decide) ?_
  refine q_aload_n C dX1_copyFrom_143 rfl rfl ?_
  refine q_getR C flX1_34 q_s57 rfl dX1_copyFrom_144 ?_
  refine q_iconst (v := 0) C dX1_copyFrom_147 (by decide) ?_
  refine q_bipush (v := 6) C dX1_copyFrom_148 (by decide) ?_
  refine q_copyV (n := 6) (dp := 0) (sp := 0) (f := (va_cpy (S 17) (S 64) 0 0 6)) C q_s17 q_s64  rfl rfl rfl mlX1_57 w_copyN w_copyS w_copyI (by omega) (by omega) (by decide) (by decide) (by decide) (Nat.le_of_ble_eq_true rfl) dX1_copyFrom_150 rfl ?_
  refine q_iconst (v := 0) C dX1_copyFrom_153 (by decide) ?_
  refine q_istore_n (lv' := [(2, .int 0), (0, .ref 57), (1, .ref 10)]) C dX1_copyFrom_154 rfl (by decide) rfl ?_
  have loop_155 : ∀ (n_155 i_155 : Nat), i_155 + n_155 = 6 → q_V l K 155 [(0, .ref 57), (1, .ref 10), (2, .int (nI i_155))] [] (q_u (q_u (q_u (q_u (q_u (q_u (q_u (q_u (q_p (q_p (q_p (q_p (q_p (q_p S 57 0 (S 10 0)) 57 1 (S 10 1)) 57 2 (S 10 2)) 57 3 (S 10 3)) 57 4 (S 10 4)) 57 5 (S 10 5)) 58 (va_cpy (S 11) (S 58) 0 0 8)) 59 (va_cpy (S 12) (S 59) 0 0 8)) 60 (va_cpy (S 13) (S 60) 0 0 8)) 61 (va_cpy (S 14) (S 61) 0 0 48)) 62 (va_cpy (S 15) (S 62) 0 0 48)) 63 (va_cpy (S 16) (S 63) 0 0 6)) 64 (va_cpy (S 17) (S 64) 0 0 6)) 65 (va_cpy (S 18) (S 65) 0 0 i_155)) := by
    intro n_155
    induction n_155 with
    | zero =>
      intro i_155 hi_155
      have e_155 : i_155 = 6 := by omega
      refine q_iload_n C dX1_copyFrom_155 rfl rfl ?_
      refine q_bipush (v := 6) C dX1_copyFrom_156 (by decide) ?_
      refine q_icmp_geN (a := i_155) (b := 6) (tgt := 179) C dX1_copyFrom_158 (by decide) rfl rfl (by omega) (by omega) (fun c_158 => ?_) (fun c_158 => absurd c_158 (by omega))
      exact hret _ _ _ dX1_copyFrom_179 (by rw [e_155]; exact q_cp_eq S 57 10)
    | succ n_155 ih_155 =>
      intro i_155 hi_155
      refine q_iload_n C dX1_copyFrom_155 rfl rfl ?_
      refine q_bipush (v := 6) C dX1_copyFrom_156 (by decide) ?_
      refine q_icmp_geN (a := i_155) (b := 6) (tgt := 179) C dX1_copyFrom_158 (by decide) rfl rfl (by omega) (by omega) (fun c_158 => absurd c_158 (by omega)) (fun c_158 => ?_)
      refine q_aload_n C dX1_copyFrom_161 rfl rfl ?_
      refine q_getR C flX1_37 q_s57 rfl dX1_copyFrom_162 ?_
      refine q_iload_n C dX1_copyFrom_165 rfl rfl ?_
      refine q_aload_n C dX1_copyFrom_166 rfl rfl ?_
      refine q_getR C flX1_37 q_s10 rfl dX1_copyFrom_167 ?_
      refine q_iload_n C dX1_copyFrom_170 rfl rfl ?_
      refine q_zaldN (i := i_155) (x := S 18 i_155) C rfl q_s18 (by omega) (by decide) dX1_copyFrom_171 rfl ?_
      refine q_zastV (i := i_155) (v := S 18 i_155) C rfl q_s65 (by omega) (by decide) dX1_copyFrom_172 (q_nar_b (hz.2 _ (by omega))) ?_
      refine q_iinc (v := nI (i_155 + 1)) (lv' := [(2, .int (nI (i_155 + 1))), (0, .ref 57), (1, .ref 10)]) C dX1_copyFrom_173 rfl (nI_add _ _) (by decide) rfl ?_
      refine q_goto (tgt := 155) C dX1_copyFrom_176 (by decide) ?_
      exact q_V_to (ih_155 (i_155 + 1) (by omega)) ⟨rfl, rfl, rfl, trivial⟩ (q_u_s _ _ _ _ _)
  exact q_V_to (loop_155 (6 - 0) 0 (by omega)) ⟨rfl, rfl, rfl, trivial⟩ (q_u_0 _ _ _)
theorem c_X1_copy_66_10 (l : Launch) (S : q_St) (hz : q_bool S 10) : q_Fv l yX1_copyFrom kX1_copyFrom 1 [.ref 66, .ref 10] S (q_cp S 66 10) := by
  refine q_Fv_of (maxL := 3) rfl (by decide +kernel) (fun ad => Nat.le_of_ble_eq_true rfl) ?_
  intro K C hret
  have C : q_Cx K cX1_copyFrom RX1 1 3 := C
  show q_V l K 0 [(0, .ref 66), (1, .ref 10)] [] S
  refine q_aload_n C dX1_copyFrom_0 rfl rfl ?_
  refine q_aload_n C dX1_copyFrom_1 rfl rfl ?_
  refine q_getI (x := S 10 0) C flX1_41 q_s10 rfl dX1_copyFrom_2 rfl ?_
  refine q_put (ty9 := .int) C flX1_41 q_s66 rfl (fun _ _ _ h => by cases h; exact ⟨rfl, by decide +kernel⟩) rfl rfl dX1_copyFrom_5 ?_
  refine q_aload_n C dX1_copyFrom_8 rfl rfl ?_
  refine q_aload_n C dX1_copyFrom_9 rfl rfl ?_
  refine q_getI (x := S 10 1) C flX1_45 q_s10 rfl dX1_copyFrom_10 rfl ?_
  refine q_put (ty9 := .int) C flX1_45 q_s66 rfl (fun _ _ _ h => by cases h; exact ⟨rfl, by decide +kernel⟩) rfl rfl dX1_copyFrom_13 ?_
  refine q_aload_n C dX1_copyFrom_16 rfl rfl ?_
  refine q_aload_n C dX1_copyFrom_17 rfl rfl ?_
  refine q_getI (x := S 10 2) C flX1_48 q_s10 rfl dX1_copyFrom_18 rfl ?_
  refine q_put (ty9 := .int) C flX1_48 q_s66 rfl (fun _ _ _ h => by cases h; exact ⟨rfl, by decide +kernel⟩) rfl rfl dX1_copyFrom_21 ?_
  refine q_aload_n C dX1_copyFrom_24 rfl rfl ?_
  refine q_aload_n C dX1_copyFrom_25 rfl rfl ?_
  refine q_getI (x := S 10 3) C flX1_51 q_s10 rfl dX1_copyFrom_26 rfl ?_
  refine q_put (ty9 := .int) C flX1_51 q_s66 rfl (fun _ _ _ h => by cases h; exact ⟨rfl, by decide +kernel⟩) rfl rfl dX1_copyFrom_29 ?_
  refine q_aload_n C dX1_copyFrom_32 rfl rfl ?_
  refine q_aload_n C dX1_copyFrom_33 rfl rfl ?_
  refine q_getI (x := S 10 4) C flX1_54 q_s10 rfl dX1_copyFrom_34 rfl ?_
  refine q_put (ty9 := .int) C flX1_54 q_s66 rfl (fun _ _ _ h => by cases h; exact ⟨rfl, by decide +kernel⟩) rfl rfl dX1_copyFrom_37 ?_
  refine q_aload_n C dX1_copyFrom_40 rfl rfl ?_
  refine q_aload_n C dX1_copyFrom_41 rfl rfl ?_
  refine q_getI (x := S 10 5) C flX1_9 q_s10 rfl dX1_copyFrom_42 rfl ?_
  refine q_put (ty9 := .boolean) C flX1_9 q_s66 rfl (fun _ _ _ h => by cases h; exact ⟨rfl, by decide +kernel⟩) (q_narrow_b hz.1) (q_fits_b hz.1) dX1_copyFrom_45 ?_
  refine q_aload_n C dX1_copyFrom_48 rfl rfl ?_
  refine q_getR C flX1_15 q_s10 rfl dX1_copyFrom_49 ?_
  refine q_iconst (v := 0) C dX1_copyFrom_52 (by decide) ?_
  refine q_aload_n C dX1_copyFrom_53 rfl rfl ?_
  refine q_getR C flX1_15 q_s66 rfl dX1_copyFrom_54 ?_
  refine q_iconst (v := 0) C dX1_copyFrom_57 (by decide) ?_
  refine q_bipush (v := 8) C dX1_copyFrom_58 (by decide) ?_
  refine q_copyV (n := 8) (dp := 0) (sp := 0) (f := (va_cpy (S 11) (S 67) 0 0 8)) C q_s11 q_s67  rfl rfl rfl mlX1_57 w_copyN w_copyS w_copyI (by omega) (by omega) (by decide) (by decide) (by decide) (Nat.le_of_ble_eq_true rfl) dX1_copyFrom_60 rfl ?_
  refine q_aload_n C dX1_copyFrom_63 rfl rfl ?_
  refine q_getR C flX1_19 q_s10 rfl dX1_copyFrom_64 ?_
  refine q_iconst (v := 0) C dX1_copyFrom_67 (by decide) ?_
  refine q_aload_n C dX1_copyFrom_68 rfl rfl ?_
  refine q_getR C flX1_19 q_s66 rfl dX1_copyFrom_69 ?_
  refine q_iconst (v := 0) C dX1_copyFrom_72 (by decide) ?_
  refine q_bipush (v := 8) C dX1_copyFrom_73 (by decide) ?_
  refine q_copyV (n := 8) (dp := 0) (sp := 0) (f := (va_cpy (S 12) (S 68) 0 0 8)) C q_s12 q_s68  rfl rfl rfl mlX1_57 w_copyN w_copyS w_copyI (by omega) (by omega) (by decide) (by decide) (by decide) (Nat.le_of_ble_eq_true rfl) dX1_copyFrom_75 rfl ?_
  refine q_aload_n C dX1_copyFrom_78 rfl rfl ?_
  refine q_getR C flX1_22 q_s10 rfl dX1_copyFrom_79 ?_
  refine q_iconst (v := 0) C dX1_copyFrom_82 (by decide) ?_
  refine q_aload_n C dX1_copyFrom_83 rfl rfl ?_
  refine q_getR C flX1_22 q_s66 rfl dX1_copyFrom_84 ?_
  refine q_iconst (v := 0) C dX1_copyFrom_87 (by decide) ?_
  refine q_bipush (v := 8) C dX1_copyFrom_88 (by decide) ?_
  refine q_copyV (n := 8) (dp := 0) (sp := 0) (f := (va_cpy (S 13) (S 69) 0 0 8)) C q_s13 q_s69  rfl rfl rfl mlX1_57 w_copyN w_copyS w_copyI (by omega) (by omega) (by decide) (by decide) (by decide) (Nat.le_of_ble_eq_true rfl) dX1_copyFrom_90 rfl ?_
  refine q_aload_n C dX1_copyFrom_93 rfl rfl ?_
  refine q_getR C flX1_25 q_s10 rfl dX1_copyFrom_94 ?_
  refine q_iconst (v := 0) C dX1_copyFrom_97 (by decide) ?_
  refine q_aload_n C dX1_copyFrom_98 rfl rfl ?_
  refine q_getR C flX1_25 q_s66 rfl dX1_copyFrom_99 ?_
  refine q_iconst (v := 0) C dX1_copyFrom_102 (by decide) ?_
  refine q_bipush (v := 48) C dX1_copyFrom_103 (by decide) ?_
  refine q_copyV (n := 48) (dp := 0) (sp := 0) (f := (va_cpy (S 14) (S 70) 0 0 48)) C q_s14 q_s70  rfl rfl rfl mlX1_57 w_copyN w_copyS w_copyI (by omega) (by omega) (by decide) (by decide) (by decide) (Nat.le_of_ble_eq_true rfl) dX1_copyFrom_105 rfl ?_
  refine q_aload_n C dX1_copyFrom_108 rfl rfl ?_
  refine q_getR C flX1_28 q_s10 rfl dX1_copyFrom_109 ?_
  refine q_iconst (v := 0) C dX1_copyFrom_112 (by decide) ?_
  refine q_aload_n C dX1_copyFrom_113 rfl rfl ?_
  refine q_getR C flX1_28 q_s66 rfl dX1_copyFrom_114 ?_
  refine q_iconst (v := 0) C dX1_copyFrom_117 (by decide) ?_
  refine q_bipush (v := 48) C dX1_copyFrom_118 (by decide) ?_
  refine q_copyV (n := 48) (dp := 0) (sp := 0) (f := (va_cpy (S 15) (S 71) 0 0 48)) C q_s15 q_s71  rfl rfl rfl mlX1_57 w_copyN w_copyS w_copyI (by omega) (by omega) (by decide) (by decide) (by decide) (Nat.le_of_ble_eq_true rfl) dX1_copyFrom_120 rfl ?_
  refine q_aload_n C dX1_copyFrom_123 rfl rfl ?_
  refine q_getR C flX1_31 q_s10 rfl dX1_copyFrom_124 ?_
  refine q_iconst (v := 0) C dX1_copyFrom_127 (by decide) ?_
  refine q_aload_n C dX1_copyFrom_128 rfl rfl ?_
  refine q_getR C flX1_31 q_s66 rfl dX1_copyFrom_129 ?_
  refine q_iconst (v := 0) C dX1_copyFrom_132 (by decide) ?_
  refine q_bipush (v := 6) C dX1_copyFrom_133 (by decide) ?_
  refine q_copyV (n := 6) (dp := 0) (sp := 0) (f := (va_cpy (S 16) (S 72) 0 0 6)) C q_s16 q_s72  rfl rfl rfl mlX1_57 w_copyN w_copyS w_copyI (by omega) (by omega) (by decide) (by decide) (by decide) (Nat.le_of_ble_eq_true rfl) dX1_copyFrom_135 rfl ?_
  refine q_aload_n C dX1_copyFrom_138 rfl rfl ?_
  refine q_getR C flX1_34 q_s10 rfl dX1_copyFrom_139 ?_
  refine q_iconst (v := 0) C dX1_copyFrom_142 (by decide) ?_
  refine q_aload_n C dX1_copyFrom_143 rfl rfl ?_
  refine q_getR C flX1_34 q_s66 rfl dX1_copyFrom_144 ?_
  refine q_iconst (v := 0) C dX1_copyFrom_147 (by decide) ?_
  refine q_bipush (v := 6) C dX1_copyFrom_148 (by decide) ?_
  refine q_copyV (n := 6) (dp := 0) (sp := 0) (f := (va_cpy (S 17) (S 73) 0 0 6)) C q_s17 q_s73  rfl rfl rfl mlX1_57 w_copyN w_copyS w_copyI (by omega) (by omega) (by decide) (by decide) (by decide) (Nat.le_of_ble_eq_true rfl) dX1_copyFrom_150 rfl ?_
  refine q_iconst (v := 0) C dX1_copyFrom_153 (by decide) ?_
  refine q_istore_n (lv' := [(2, .int 0), (0, .ref 66), (1, .ref 10)]) C dX1_copyFrom_154 rfl (by decide) rfl ?_
  have loop_155 : ∀ (n_155 i_155 : Nat), i_155 + n_155 = 6 → q_V l K 155 [(0, .ref 66), (1, .ref 10), (2, .int (nI i_155))] [] (q_u (q_u (q_u (q_u (q_u (q_u (q_u (q_u (q_p (q_p (q_p (q_p (q_p (q_p S 66 0 (S 10 0)) 66 1 (S 10 1)) 66 2 (S 10 2)) 66 3 (S 10 3)) 66 4 (S 10 4)) 66 5 (S 10 5)) 67 (va_cpy (S 11) (S 67) 0 0 8)) 68 (va_cpy (S 12) (S 68) 0 0 8)) 69 (va_cpy (S 13) (S 69) 0 0 8)) 70 (va_cpy (S 14) (S 70) 0 0 48)) 71 (va_cpy (S 15) (S 71) 0 0 48)) 72 (va_cpy (S 16) (S 72) 0 0 6)) 73 (va_cpy (S 17) (S 73) 0 0 6)) 74 (va_cpy (S 18) (S 74) 0 0 i_155)) := by
    intro n_155
    induction n_155 with
    | zero =>
      intro i_155 hi_155
      have e_155 : i_155 = 6 := by omega
      refine q_iload_n C dX1_copyFrom_155 rfl rfl ?_
      refine q_bipush (v := 6) C dX1_copyFrom_156 (by decide) ?_
      refine q_icmp_geN (a := i_155) (b := 6) (tgt := 179) C dX1_copyFrom_158 (by decide) rfl rfl (by omega) (by omega) (fun c_158 => ?_) (fun c_158 => absurd c_158 (by omega))
      exact hret _ _ _ dX1_copyFrom_179 (by rw [e_155]; exact q_cp_eq S 66 10)
    | succ n_155 ih_155 =>
      intro i_155 hi_155
      refine q_iload_n C dX1_copyFrom_155 rfl rfl ?_
      refine q_bipush (v := 6) C dX1_copyFrom_156 (by decide) ?_
      refine q_icmp_geN (a := i_155) (b := 6) (tgt := 179) C dX1_copyFrom_158 (by decide) rfl rfl (by omega) (by omega) (fun c_158 => absurd c_158 (by omega)) (fun c_158 => ?_)
      refine q_aload_n C dX1_copyFrom_161 rfl rfl ?_
      refine q_getR C flX1_37 q_s66 rfl dX1_copyFrom_162 ?_
      refine q_iload_n C dX1_copyFrom_165 rfl rfl ?_
      refine q_aload_n C dX1_copyFrom_166 rfl rfl ?_
      refine q_getR C flX1_37 q_s10 rfl dX1_copyFrom_167 ?_
      refine q_iload_n C dX1_copyFrom_170 rfl rfl ?_
      refine q_zaldN (i := i_155) (x := S 18 i_155) C rfl q_s18 (by omega) (by decide) dX1_copyFrom_171 rfl ?_
      refine q_zastV (i := i_155) (v := S 18 i_155) C rfl q_s74 (by omega) (by decide) dX1_copyFrom_172 (q_nar_b (hz.2 _ (by omega))) ?_
      refine q_iinc (v := nI (i_155 + 1)) (lv' := [(2, .int (nI (i_155 + 1))), (0, .ref 66), (1, .ref 10)]) C dX1_copyFrom_173 rfl (nI_add _ _) (by decide) rfl ?_
      refine q_goto (tgt := 155) C dX1_copyFrom_176 (by decide) ?_
      exact q_V_to (ih_155 (i_155 + 1) (by omega)) ⟨rfl, rfl, rfl, trivial⟩ (q_u_s _ _ _ _ _)
  exact q_V_to (loop_155 (6 - 0) 0 (by omega)) ⟨rfl, rfl, rfl, trivial⟩ (q_u_0 _ _ _)
theorem c_X1_copy_75_10 (l : Launch) (S : q_St) (hz : q_bool S 10) : q_Fv l yX1_copyFrom kX1_copyFrom 1 [.ref 75, .ref 10] S (q_cp S 75 10) := by
  refine q_Fv_of (maxL := 3) rfl (by decide +kernel) (fun ad => Nat.le_of_ble_eq_true rfl) ?_
  intro K C hret
  have C : q_Cx K cX1_copyFrom RX1 1 3 := C
  show q_V l K 0 [(0, .ref 75), (1, .ref 10)] [] S
  refine q_aload_n C dX1_copyFrom_0 rfl rfl ?_
  refine q_aload_n C dX1_copyFrom_1 rfl rfl ?_
  refine q_getI (x := S 10 0) C flX1_41 q_s10 rfl dX1_copyFrom_2 rfl ?_
  refine q_put (ty9 := .int) C flX1_41 q_s75 rfl (fun _ _ _ h => by cases h; exact ⟨rfl, by decide +kernel⟩) rfl rfl dX1_copyFrom_5 ?_
  refine q_aload_n C dX1_copyFrom_8 rfl rfl ?_
  refine q_aload_n C dX1_copyFrom_9 rfl rfl ?_
  refine q_getI (x := S 10 1) C flX1_45 q_s10 rfl dX1_copyFrom_10 rfl ?_
  refine q_put (ty9 := .int) C flX1_45 q_s75 rfl (fun _ _ _ h => by cases h; exact ⟨rfl, by decide +kernel⟩) rfl rfl dX1_copyFrom_13 ?_
  refine q_aload_n C dX1_copyFrom_16 rfl rfl ?_
  refine q_aload_n C dX1_copyFrom_17 rfl rfl ?_
  refine q_getI (x := S 10 2) C flX1_48 q_s10 rfl dX1_copyFrom_18 rfl ?_
  refine q_put (ty9 := .int) C flX1_48 q_s75 rfl (fun _ _ _ h => by cases h; exact ⟨rfl, by decide +kernel⟩) rfl rfl dX1_copyFrom_21 ?_
  refine q_aload_n C dX1_copyFrom_24 rfl rfl ?_
  refine q_aload_n C dX1_copyFrom_25 rfl rfl ?_
  refine q_getI (x := S 10 3) C flX1_51 q_s10 rfl dX1_copyFrom_26 rfl ?_
  refine q_put (ty9 := .int) C flX1_51 q_s75 rfl (fun _ _ _ h => by cases h; exact ⟨rfl, by decide +kernel⟩) rfl rfl dX1_copyFrom_29 ?_
  refine q_aload_n C dX1_copyFrom_32 rfl rfl ?_
  refine q_aload_n C dX1_copyFrom_33 rfl rfl ?_
  refine q_getI (x := S 10 4) C flX1_54 q_s10 rfl dX1_copyFrom_34 rfl ?_
  refine q_put (ty9 := .int) C flX1_54 q_s75 rfl (fun _ _ _ h => by cases h; exact ⟨rfl, by decide +kernel⟩) rfl rfl dX1_copyFrom_37 ?_
  refine q_aload_n C dX1_copyFrom_40 rfl rfl ?_
  refine q_aload_n C dX1_copyFrom_41 rfl rfl ?_
  refine q_getI (x := S 10 5) C flX1_9 q_s10 rfl dX1_copyFrom_42 rfl ?_
  refine q_put (ty9 := .boolean) C flX1_9 q_s75 rfl (fun _ _ _ h => by cases h; exact ⟨rfl, by decide +kernel⟩) (q_narrow_b hz.1) (q_fits_b hz.1) dX1_copyFrom_45 ?_
  refine q_aload_n C dX1_copyFrom_48 rfl rfl ?_
  refine q_getR C flX1_15 q_s10 rfl dX1_copyFrom_49 ?_
  refine q_iconst (v := 0) C dX1_copyFrom_52 (by decide) ?_
  refine q_aload_n C dX1_copyFrom_53 rfl rfl ?_
  refine q_getR C flX1_15 q_s75 rfl dX1_copyFrom_54 ?_
  refine q_iconst (v := 0) C dX1_copyFrom_57 (by decide) ?_
  refine q_bipush (v := 8) C dX1_copyFrom_58 (by decide) ?_
  refine q_copyV (n := 8) (dp := 0) (sp := 0) (f := (va_cpy (S 11) (S 76) 0 0 8)) C q_s11 q_s76  rfl rfl rfl mlX1_57 w_copyN w_copyS w_copyI (by omega) (by omega) (by decide) (by decide) (by decide) (Nat.le_of_ble_eq_true rfl) dX1_copyFrom_60 rfl ?_
  refine q_aload_n C dX1_copyFrom_63 rfl rfl ?_
  refine q_getR C flX1_19 q_s10 rfl dX1_copyFrom_64 ?_
  refine q_iconst (v := 0) C dX1_copyFrom_67 (by decide) ?_
  refine q_aload_n C dX1_copyFrom_68 rfl rfl ?_
  refine q_getR C flX1_19 q_s75 rfl dX1_copyFrom_69 ?_
  refine q_iconst (v := 0) C dX1_copyFrom_72 (by decide) ?_
  refine q_bipush (v := 8) C dX1_copyFrom_73 (by decide) ?_
  refine q_copyV (n := 8) (dp := 0) (sp := 0) (f := (va_cpy (S 12) (S 77) 0 0 8)) C q_s12 q_s77  rfl rfl rfl mlX1_57 w_copyN w_copyS w_copyI (by omega) (by omega) (by decide) (by decide) (by decide) (Nat.le_of_ble_eq_true rfl) dX1_copyFrom_75 rfl ?_
  refine q_aload_n C dX1_copyFrom_78 rfl rfl ?_
  refine q_getR C flX1_22 q_s10 rfl dX1_copyFrom_79 ?_
  refine q_iconst (v := 0) C dX1_copyFrom_82 (by decide) ?_
  refine q_aload_n C dX1_copyFrom_83 rfl rfl ?_
  refine q_getR C flX1_22 q_s75 rfl dX1_copyFrom_84 ?_
  refine q_iconst (v := 0) C dX1_copyFrom_87 (by decide) ?_
  refine q_bipush (v := 8) C dX1_copyFrom_88 (by decide) ?_
  refine q_copyV (n := 8) (dp := 0) (sp := 0) (f := (va_cpy (S 13) (S 78) 0 0 8)) C q_s13 q_s78  rfl rfl rfl mlX1_57 w_copyN w_copyS w_copyI (by omega) (by omega) (by decide) (by decide) (by decide) (Nat.le_of_ble_eq_true rfl) dX1_copyFrom_90 rfl ?_
  refine q_aload_n C dX1_copyFrom_93 rfl rfl ?_
  refine q_getR C flX1_25 q_s10 rfl dX1_copyFrom_94 ?_
  refine q_iconst (v := 0) C dX1_copyFrom_97 (by decide) ?_
  refine q_aload_n C dX1_copyFrom_98 rfl rfl ?_
  refine q_getR C flX1_25 q_s75 rfl dX1_copyFrom_99 ?_
  refine q_iconst (v := 0) C dX1_copyFrom_102 (by decide) ?_
  refine q_bipush (v := 48) C dX1_copyFrom_103 (by decide) ?_
  refine q_copyV (n := 48) (dp := 0) (sp := 0) (f := (va_cpy (S 14) (S 79) 0 0 48)) C q_s14 q_s79  rfl rfl rfl mlX1_57 w_copyN w_copyS w_copyI (by omega) (by omega) (by decide) (by decide) (by decide) (Nat.le_of_ble_eq_true rfl) dX1_copyFrom_105 rfl ?_
  refine q_aload_n C dX1_copyFrom_108 rfl rfl ?_
  refine q_getR C flX1_28 q_s10 rfl dX1_copyFrom_109 ?_
  refine q_iconst (v := 0) C dX1_copyFrom_112 (by decide) ?_
  refine q_aload_n C dX1_copyFrom_113 rfl rfl ?_
  refine q_getR C flX1_28 q_s75 rfl dX1_copyFrom_114 ?_
  refine q_iconst (v := 0) C dX1_copyFrom_117 (by decide) ?_
  refine q_bipush (v := 48) C dX1_copyFrom_118 (by decide) ?_
  refine q_copyV (n := 48) (dp := 0) (sp := 0) (f := (va_cpy (S 15) (S 80) 0 0 48)) C q_s15 q_s80  rfl rfl rfl mlX1_57 w_copyN w_copyS w_copyI (by omega) (by omega) (by decide) (by decide) (by decide) (Nat.le_of_ble_eq_true rfl) dX1_copyFrom_120 rfl ?_
  refine q_aload_n C dX1_copyFrom_123 rfl rfl ?_
  refine q_getR C flX1_31 q_s10 rfl dX1_copyFrom_124 ?_
  refine q_iconst (v := 0) C dX1_copyFrom_127 (by decide) ?_
  refine q_aload_n C dX1_copyFrom_128 rfl rfl ?_
  refine q_getR C flX1_31 q_s75 rfl dX1_copyFrom_129 ?_
  refine q_iconst (v := 0) C dX1_copyFrom_132 (by decide) ?_
  refine q_bipush (v := 6) C dX1_copyFrom_133 (by decide) ?_
  refine q_copyV (n := 6) (dp := 0) (sp := 0) (f := (va_cpy (S 16) (S 81) 0 0 6)) C q_s16 q_s81  rfl rfl rfl mlX1_57 w_copyN w_copyS w_copyI (by omega) (by omega) (by decide) (by decide) (by decide) (Nat.le_of_ble_eq_true rfl) dX1_copyFrom_135 rfl ?_
  refine q_aload_n C dX1_copyFrom_138 rfl rfl ?_
  refine q_getR C flX1_34 q_s10 rfl dX1_copyFrom_139 ?_
  refine q_iconst (v := 0) C dX1_copyFrom_142 (by decide) ?_
  refine q_aload_n C dX1_copyFrom_143 rfl rfl ?_
  refine q_getR C flX1_34 q_s75 rfl dX1_copyFrom_144 ?_
  refine q_iconst (v := 0) C dX1_copyFrom_147 (by decide) ?_
  refine q_bipush (v := 6) C dX1_copyFrom_148 (by decide) ?_
  refine q_copyV (n := 6) (dp := 0) (sp := 0) (f := (va_cpy (S 17) (S 82) 0 0 6)) C q_s17 q_s82  rfl rfl rfl mlX1_57 w_copyN w_copyS w_copyI (by omega) (by omega) (by decide) (by decide) (by decide) (Nat.le_of_ble_eq_true rfl) dX1_copyFrom_150 rfl ?_
  refine q_iconst (v := 0) C dX1_copyFrom_153 (by decide) ?_
  refine q_istore_n (lv' := [(2, .int 0), (0, .ref 75), (1, .ref 10)]) C dX1_copyFrom_154 rfl (by decide) rfl ?_
  have loop_155 : ∀ (n_155 i_155 : Nat), i_155 + n_155 = 6 → q_V l K 155 [(0, .ref 75), (1, .ref 10), (2, .int (nI i_155))] [] (q_u (q_u (q_u (q_u (q_u (q_u (q_u (q_u (q_p (q_p (q_p (q_p (q_p (q_p S 75 0 (S 10 0)) 75 1 (S 10 1)) 75 2 (S 10 2)) 75 3 (S 10 3)) 75 4 (S 10 4)) 75 5 (S 10 5)) 76 (va_cpy (S 11) (S 76) 0 0 8)) 77 (va_cpy (S 12) (S 77) 0 0 8)) 78 (va_cpy (S 13) (S 78) 0 0 8)) 79 (va_cpy (S 14) (S 79) 0 0 48)) 80 (va_cpy (S 15) (S 80) 0 0 48)) 81 (va_cpy (S 16) (S 81) 0 0 6)) 82 (va_cpy (S 17) (S 82) 0 0 6)) 83 (va_cpy (S 18) (S 83) 0 0 i_155)) := by
    intro n_155
    induction n_155 with
    | zero =>
      intro i_155 hi_155
      have e_155 : i_155 = 6 := by omega
      refine q_iload_n C dX1_copyFrom_155 rfl rfl ?_
      refine q_bipush (v := 6) C dX1_copyFrom_156 (by decide) ?_
      refine q_icmp_geN (a := i_155) (b := 6) (tgt := 179) C dX1_copyFrom_158 (by decide) rfl rfl (by omega) (by omega) (fun c_158 => ?_) (fun c_158 => absurd c_158 (by omega))
      exact hret _ _ _ dX1_copyFrom_179 (by rw [e_155]; exact q_cp_eq S 75 10)
    | succ n_155 ih_155 =>
      intro i_155 hi_155
      refine q_iload_n C dX1_copyFrom_155 rfl rfl ?_
      refine q_bipush (v := 6) C dX1_copyFrom_156 (by decide) ?_
      refine q_icmp_geN (a := i_155) (b := 6) (tgt := 179) C dX1_copyFrom_158 (by decide) rfl rfl (by omega) (by omega) (fun c_158 => absurd c_158 (by omega)) (fun c_158 => ?_)
      refine q_aload_n C dX1_copyFrom_161 rfl rfl ?_
      refine q_getR C flX1_37 q_s75 rfl dX1_copyFrom_162 ?_
      refine q_iload_n C dX1_copyFrom_165 rfl rfl ?_
      refine q_aload_n C dX1_copyFrom_166 rfl rfl ?_
      refine q_getR C flX1_37 q_s10 rfl dX1_copyFrom_167 ?_
      refine q_iload_n C dX1_copyFrom_170 rfl rfl ?_
      refine q_zaldN (i := i_155) (x := S 18 i_155) C rfl q_s18 (by omega) (by decide) dX1_copyFrom_171 rfl ?_
      refine q_zastV (i := i_155) (v := S 18 i_155) C rfl q_s83 (by omega) (by decide) dX1_copyFrom_172 (q_nar_b (hz.2 _ (by omega))) ?_
      refine q_iinc (v := nI (i_155 + 1)) (lv' := [(2, .int (nI (i_155 + 1))), (0, .ref 75), (1, .ref 10)]) C dX1_copyFrom_173 rfl (nI_add _ _) (by decide) rfl ?_
      refine q_goto (tgt := 155) C dX1_copyFrom_176 (by decide) ?_
      exact q_V_to (ih_155 (i_155 + 1) (by omega)) ⟨rfl, rfl, rfl, trivial⟩ (q_u_s _ _ _ _ _)
  exact q_V_to (loop_155 (6 - 0) 0 (by omega)) ⟨rfl, rfl, rfl, trivial⟩ (q_u_0 _ _ _)
theorem c_X1_copy_84_10 (l : Launch) (S : q_St) (hz : q_bool S 10) : q_Fv l yX1_copyFrom kX1_copyFrom 1 [.ref 84, .ref 10] S (q_cp S 84 10) := by
  refine q_Fv_of (maxL := 3) rfl (by decide +kernel) (fun ad => Nat.le_of_ble_eq_true rfl) ?_
  intro K C hret
  have C : q_Cx K cX1_copyFrom RX1 1 3 := C
  show q_V l K 0 [(0, .ref 84), (1, .ref 10)] [] S
  refine q_aload_n C dX1_copyFrom_0 rfl rfl ?_
  refine q_aload_n C dX1_copyFrom_1 rfl rfl ?_
  refine q_getI (x := S 10 0) C flX1_41 q_s10 rfl dX1_copyFrom_2 rfl ?_
  refine q_put (ty9 := .int) C flX1_41 q_s84 rfl (fun _ _ _ h => by cases h; exact ⟨rfl, by decide +kernel⟩) rfl rfl dX1_copyFrom_5 ?_
  refine q_aload_n C dX1_copyFrom_8 rfl rfl ?_
  refine q_aload_n C dX1_copyFrom_9 rfl rfl ?_
  refine q_getI (x := S 10 1) C flX1_45 q_s10 rfl dX1_copyFrom_10 rfl ?_
  refine q_put (ty9 := .int) C flX1_45 q_s84 rfl (fun _ _ _ h => by cases h; exact ⟨rfl, by decide +kernel⟩) rfl rfl dX1_copyFrom_13 ?_
  refine q_aload_n C dX1_copyFrom_16 rfl rfl ?_
  refine q_aload_n C dX1_copyFrom_17 rfl rfl ?_
  refine q_getI (x := S 10 2) C flX1_48 q_s10 rfl dX1_copyFrom_18 rfl ?_
  refine q_put (ty9 := .int) C flX1_48 q_s84 rfl (fun _ _ _ h => by cases h; exact ⟨rfl, by decide +kernel⟩) rfl rfl dX1_copyFrom_21 ?_
  refine q_aload_n C dX1_copyFrom_24 rfl rfl ?_
  refine q_aload_n C dX1_copyFrom_25 rfl rfl ?_
  refine q_getI (x := S 10 3) C flX1_51 q_s10 rfl dX1_copyFrom_26 rfl ?_
  refine q_put (ty9 := .int) C flX1_51 q_s84 rfl (fun _ _ _ h => by cases h; exact ⟨rfl, by decide +kernel⟩) rfl rfl dX1_copyFrom_29 ?_
  refine q_aload_n C dX1_copyFrom_32 rfl rfl ?_
  refine q_aload_n C dX1_copyFrom_33 rfl rfl ?_
  refine q_getI (x := S 10 4) C flX1_54 q_s10 rfl dX1_copyFrom_34 rfl ?_
  refine q_put (ty9 := .int) C flX1_54 q_s84 rfl (fun _ _ _ h => by cases h; exact ⟨rfl, by decide +kernel⟩) rfl rfl dX1_copyFrom_37 ?_
  refine q_aload_n C dX1_copyFrom_40 rfl rfl ?_
  refine q_aload_n C dX1_copyFrom_41 rfl rfl ?_
  refine q_getI (x := S 10 5) C flX1_9 q_s10 rfl dX1_copyFrom_42 rfl ?_
  refine q_put (ty9 := .boolean) C flX1_9 q_s84 rfl (fun _ _ _ h => by cases h; exact ⟨rfl, by decide +kernel⟩) (q_narrow_b hz.1) (q_fits_b hz.1) dX1_copyFrom_45 ?_
  refine q_aload_n C dX1_copyFrom_48 rfl rfl ?_
  refine q_getR C flX1_15 q_s10 rfl dX1_copyFrom_49 ?_
  refine q_iconst (v := 0) C dX1_copyFrom_52 (by decide) ?_
  refine q_aload_n C dX1_copyFrom_53 rfl rfl ?_
  refine q_getR C flX1_15 q_s84 rfl dX1_copyFrom_54 ?_
  refine q_iconst (v := 0) C dX1_copyFrom_57 (by decide) ?_
  refine q_bipush (v := 8) C dX1_copyFrom_58 (by decide) ?_
  refine q_copyV (n := 8) (dp := 0) (sp := 0) (f := (va_cpy (S 11) (S 85) 0 0 8)) C q_s11 q_s85  rfl rfl rfl mlX1_57 w_copyN w_copyS w_copyI (by omega) (by omega) (by decide) (by decide) (by decide) (Nat.le_of_ble_eq_true rfl) dX1_copyFrom_60 rfl ?_
  refine q_aload_n C dX1_copyFrom_63 rfl rfl ?_
  refine q_getR C flX1_19 q_s10 rfl dX1_copyFrom_64 ?_
  refine q_iconst (v := 0) C dX1_copyFrom_67 (by decide) ?_
  refine q_aload_n C dX1_copyFrom_68 rfl rfl ?_
  refine q_getR C flX1_19 q_s84 rfl dX1_copyFrom_69 ?_
  refine q_iconst (v := 0) C dX1_copyFrom_72 (by decide) ?_
  refine q_bipush (v := 8) C dX1_copyFrom_73 (by decide) ?_
  refine q_copyV (n := 8) (dp := 0) (sp := 0) (f := (va_cpy (S 12) (S 86) 0 0 8)) C q_s12 q_s86  rfl rfl rfl mlX1_57 w_copyN w_copyS w_copyI (by omega) (by omega) (by decide) (by decide) (by decide) (Nat.le_of_ble_eq_true rfl) dX1_copyFrom_75 rfl ?_
  refine q_aload_n C dX1_copyFrom_78 rfl rfl ?_
  refine q_getR C flX1_22 q_s10 rfl dX1_copyFrom_79 ?_
  refine q_iconst (v := 0) C dX1_copyFrom_82 (by decide) ?_
  refine q_aload_n C dX1_copyFrom_83 rfl rfl ?_
  refine q_getR C flX1_22 q_s84 rfl dX1_copyFrom_84 ?_
  refine q_iconst (v := 0) C dX1_copyFrom_87 (by decide) ?_
  refine q_bipush (v := 8) C dX1_copyFrom_88 (by decide) ?_
  refine q_copyV (n := 8) (dp := 0) (sp := 0) (f := (va_cpy (S 13) (S 87) 0 0 8)) C q_s13 q_s87  rfl rfl rfl mlX1_57 w_copyN w_copyS w_copyI (by omega) (by omega) (by decide) (by decide) (by decide) (Nat.le_of_ble_eq_true rfl) dX1_copyFrom_90 rfl ?_
  refine q_aload_n C dX1_copyFrom_93 rfl rfl ?_
  refine q_getR C flX1_25 q_s10 rfl dX1_copyFrom_94 ?_
  refine q_iconst (v := 0) C dX1_copyFrom_97 (by decide) ?_
  refine q_aload_n C dX1_copyFrom_98 rfl rfl ?_
  refine q_getR C flX1_25 q_s84 rfl dX1_copyFrom_99 ?_
  refine q_iconst (v := 0) C dX1_copyFrom_102 (by decide) ?_
  refine q_bipush (v := 48) C dX1_copyFrom_103 (by decide) ?_
  refine q_copyV (n := 48) (dp := 0) (sp := 0) (f := (va_cpy (S 14) (S 88) 0 0 48)) C q_s14 q_s88  rfl rfl rfl mlX1_57 w_copyN w_copyS w_copyI (by omega) (by omega) (by decide) (by decide) (by decide) (Nat.le_of_ble_eq_true rfl) dX1_copyFrom_105 rfl ?_
  refine q_aload_n C dX1_copyFrom_108 rfl rfl ?_
  refine q_getR C flX1_28 q_s10 rfl dX1_copyFrom_109 ?_
  refine q_iconst (v := 0) C dX1_copyFrom_112 (by decide) ?_
  refine q_aload_n C dX1_copyFrom_113 rfl rfl ?_
  refine q_getR C flX1_28 q_s84 rfl dX1_copyFrom_114 ?_
  refine q_iconst (v := 0) C dX1_copyFrom_117 (by decide) ?_
  refine q_bipush (v := 48) C dX1_copyFrom_118 (by decide) ?_
  refine q_copyV (n := 48) (dp := 0) (sp := 0) (f := (va_cpy (S 15) (S 89) 0 0 48)) C q_s15 q_s89  rfl rfl rfl mlX1_57 w_copyN w_copyS w_copyI (by omega) (by omega) (by decide) (by decide) (by decide) (Nat.le_of_ble_eq_true rfl) dX1_copyFrom_120 rfl ?_
  refine q_aload_n C dX1_copyFrom_123 rfl rfl ?_
  refine q_getR C flX1_31 q_s10 rfl dX1_copyFrom_124 ?_
  refine q_iconst (v := 0) C dX1_copyFrom_127 (by decide) ?_
  refine q_aload_n C dX1_copyFrom_128 rfl rfl ?_
  refine q_getR C flX1_31 q_s84 rfl dX1_copyFrom_129 ?_
  refine q_iconst (v := 0) C dX1_copyFrom_132 (by decide) ?_
  refine q_bipush (v := 6) C dX1_copyFrom_133 (by decide) ?_
  refine q_copyV (n := 6) (dp := 0) (sp := 0) (f := (va_cpy (S 16) (S 90) 0 0 6)) C q_s16 q_s90  rfl rfl rfl mlX1_57 w_copyN w_copyS w_copyI (by omega) (by omega) (by decide) (by decide) (by decide) (Nat.le_of_ble_eq_true rfl) dX1_copyFrom_135 rfl ?_
  refine q_aload_n C dX1_copyFrom_138 rfl rfl ?_
  refine q_getR C flX1_34 q_s10 rfl dX1_copyFrom_139 ?_
  refine q_iconst (v := 0) C dX1_copyFrom_142 (by decide) ?_
  refine q_aload_n C dX1_copyFrom_143 rfl rfl ?_
  refine q_getR C flX1_34 q_s84 rfl dX1_copyFrom_144 ?_
  refine q_iconst (v := 0) C dX1_copyFrom_147 (by decide) ?_
  refine q_bipush (v := 6) C dX1_copyFrom_148 (by decide) ?_
  refine q_copyV (n := 6) (dp := 0) (sp := 0) (f := (va_cpy (S 17) (S 91) 0 0 6)) C q_s17 q_s91  rfl rfl rfl mlX1_57 w_copyN w_copyS w_copyI (by omega) (by omega) (by decide) (by decide) (by decide) (Nat.le_of_ble_eq_true rfl) dX1_copyFrom_150 rfl ?_
  refine q_iconst (v := 0) C dX1_copyFrom_153 (by decide) ?_
  refine q_istore_n (lv' := [(2, .int 0), (0, .ref 84), (1, .ref 10)]) C dX1_copyFrom_154 rfl (by decide) rfl ?_
  have loop_155 : ∀ (n_155 i_155 : Nat), i_155 + n_155 = 6 → q_V l K 155 [(0, .ref 84), (1, .ref 10), (2, .int (nI i_155))] [] (q_u (q_u (q_u (q_u (q_u (q_u (q_u (q_u (q_p (q_p (q_p (q_p (q_p (q_p S 84 0 (S 10 0)) 84 1 (S 10 1)) 84 2 (S 10 2)) 84 3 (S 10 3)) 84 4 (S 10 4)) 84 5 (S 10 5)) 85 (va_cpy (S 11) (S 85) 0 0 8)) 86 (va_cpy (S 12) (S 86) 0 0 8)) 87 (va_cpy (S 13) (S 87) 0 0 8)) 88 (va_cpy (S 14) (S 88) 0 0 48)) 89 (va_cpy (S 15) (S 89) 0 0 48)) 90 (va_cpy (S 16) (S 90) 0 0 6)) 91 (va_cpy (S 17) (S 91) 0 0 6)) 92 (va_cpy (S 18) (S 92) 0 0 i_155)) := by
    intro n_155
    induction n_155 with
    | zero =>
      intro i_155 hi_155
      have e_155 : i_155 = 6 := by omega
      refine q_iload_n C dX1_copyFrom_155 rfl rfl ?_
      refine q_bipush (v := 6) C dX1_copyFrom_156 (by decide) ?_
      refine q_icmp_geN (a := i_155) (b := 6) (tgt := 179) C dX1_copyFrom_158 (by decide) rfl rfl (by omega) (by omega) (fun c_158 => ?_) (fun c_158 => absurd c_158 (by omega))
      exact hret _ _ _ dX1_copyFrom_179 (by rw [e_155]; exact q_cp_eq S 84 10)
    | succ n_155 ih_155 =>
      intro i_155 hi_155
      refine q_iload_n C dX1_copyFrom_155 rfl rfl ?_
      refine q_bipush (v := 6) C dX1_copyFrom_156 (by decide) ?_
      refine q_icmp_geN (a := i_155) (b := 6) (tgt := 179) C dX1_copyFrom_158 (by decide) rfl rfl (by omega) (by omega) (fun c_158 => absurd c_158 (by omega)) (fun c_158 => ?_)
      refine q_aload_n C dX1_copyFrom_161 rfl rfl ?_
      refine q_getR C flX1_37 q_s84 rfl dX1_copyFrom_162 ?_
      refine q_iload_n C dX1_copyFrom_165 rfl rfl ?_
      refine q_aload_n C dX1_copyFrom_166 rfl rfl ?_
      refine q_getR C flX1_37 q_s10 rfl dX1_copyFrom_167 ?_
      refine q_iload_n C dX1_copyFrom_170 rfl rfl ?_
      refine q_zaldN (i := i_155) (x := S 18 i_155) C rfl q_s18 (by omega) (by decide) dX1_copyFrom_171 rfl ?_
      refine q_zastV (i := i_155) (v := S 18 i_155) C rfl q_s92 (by omega) (by decide) dX1_copyFrom_172 (q_nar_b (hz.2 _ (by omega))) ?_
      refine q_iinc (v := nI (i_155 + 1)) (lv' := [(2, .int (nI (i_155 + 1))), (0, .ref 84), (1, .ref 10)]) C dX1_copyFrom_173 rfl (nI_add _ _) (by decide) rfl ?_
      refine q_goto (tgt := 155) C dX1_copyFrom_176 (by decide) ?_
      exact q_V_to (ih_155 (i_155 + 1) (by omega)) ⟨rfl, rfl, rfl, trivial⟩ (q_u_s _ _ _ _ _)
  exact q_V_to (loop_155 (6 - 0) 0 (by omega)) ⟨rfl, rfl, rfl, trivial⟩ (q_u_0 _ _ _)
theorem c_X1_copy_93_10 (l : Launch) (S : q_St) (hz : q_bool S 10) : q_Fv l yX1_copyFrom kX1_copyFrom 1 [.ref 93, .ref 10] S (q_cp S 93 10) := by
  refine q_Fv_of (maxL := 3) rfl (by decide +kernel) (fun ad => Nat.le_of_ble_eq_true rfl) ?_
  intro K C hret
  have C : q_Cx K cX1_copyFrom RX1 1 3 := C
  show q_V l K 0 [(0, .ref 93), (1, .ref 10)] [] S
  refine q_aload_n C dX1_copyFrom_0 rfl rfl ?_
  refine q_aload_n C dX1_copyFrom_1 rfl rfl ?_
  refine q_getI (x := S 10 0) C flX1_41 q_s10 rfl dX1_copyFrom_2 rfl ?_
  refine q_put (ty9 := .int) C flX1_41 q_s93 rfl (fun _ _ _ h => by cases h; exact ⟨rfl, by decide +kernel⟩) rfl rfl dX1_copyFrom_5 ?_
  refine q_aload_n C dX1_copyFrom_8 rfl rfl ?_
  refine q_aload_n C dX1_copyFrom_9 rfl rfl ?_
  refine q_getI (x := S 10 1) C flX1_45 q_s10 rfl dX1_copyFrom_10 rfl ?_
  refine q_put (ty9 := .int) C flX1_45 q_s93 rfl (fun _ _ _ h => by cases h; exact ⟨rfl, by decide +kernel⟩) rfl rfl dX1_copyFrom_13 ?_
  refine q_aload_n C dX1_copyFrom_16 rfl rfl ?_
  refine q_aload_n C dX1_copyFrom_17 rfl rfl ?_
  refine q_getI (x := S 10 2) C flX1_48 q_s10 rfl dX1_copyFrom_18 rfl ?_
  refine q_put (ty9 := .int) C flX1_48 q_s93 rfl (fun _ _ _ h => by cases h; exact ⟨rfl, by decide +kernel⟩) rfl rfl dX1_copyFrom_21 ?_
  refine q_aload_n C dX1_copyFrom_24 rfl rfl ?_
  refine q_aload_n C dX1_copyFrom_25 rfl rfl ?_
  refine q_getI (x := S 10 3) C flX1_51 q_s10 rfl dX1_copyFrom_26 rfl ?_
  refine q_put (ty9 := .int) C flX1_51 q_s93 rfl (fun _ _ _ h => by cases h; exact ⟨rfl, by decide +kernel⟩) rfl rfl dX1_copyFrom_29 ?_
  refine q_aload_n C dX1_copyFrom_32 rfl rfl ?_
  refine q_aload_n C dX1_copyFrom_33 rfl rfl ?_
  refine q_getI (x := S 10 4) C flX1_54 q_s10 rfl dX1_copyFrom_34 rfl ?_
  refine q_put (ty9 := .int) C flX1_54 q_s93 rfl (fun _ _ _ h => by cases h; exact ⟨rfl, by decide +kernel⟩) rfl rfl dX1_copyFrom_37 ?_
  refine q_aload_n C dX1_copyFrom_40 rfl rfl ?_
  refine q_aload_n C dX1_copyFrom_41 rfl rfl ?_
  refine q_getI (x := S 10 5) C flX1_9 q_s10 rfl dX1_copyFrom_42 rfl ?_
  refine q_put (ty9 := .boolean) C flX1_9 q_s93 rfl (fun _ _ _ h => by cases h; exact ⟨rfl, by decide +kernel⟩) (q_narrow_b hz.1) (q_fits_b hz.1) dX1_copyFrom_45 ?_
  refine q_aload_n C dX1_copyFrom_48 rfl rfl ?_
  refine q_getR C flX1_15 q_s10 rfl dX1_copyFrom_49 ?_
  refine q_iconst (v := 0) C dX1_copyFrom_52 (by decide) ?_
  refine q_aload_n C dX1_copyFrom_53 rfl rfl ?_
  refine q_getR C flX1_15 q_s93 rfl dX1_copyFrom_54 ?_
  refine q_iconst (v := 0) C dX1_copyFrom_57 (by decide) ?_
  refine q_bipush (v := 8) C dX1_copyFrom_58 (by decide) ?_
  refine q_copyV (n := 8) (dp := 0) (sp := 0) (f := (va_cpy (S 11) (S 94) 0 0 8)) C q_s11 q_s94  rfl rfl rfl mlX1_57 w_copyN w_copyS w_copyI (by omega) (by omega) (by decide) (by decide) (by decide) (Nat.le_of_ble_eq_true rfl) dX1_copyFrom_60 rfl ?_
  refine q_aload_n C dX1_copyFrom_63 rfl rfl ?_
  refine q_getR C flX1_19 q_s10 rfl dX1_copyFrom_64 ?_
  refine q_iconst (v := 0) C dX1_copyFrom_67 (by decide) ?_
  refine q_aload_n C dX1_copyFrom_68 rfl rfl ?_
  refine q_getR C flX1_19 q_s93 rfl dX1_copyFrom_69 ?_
  refine q_iconst (v := 0) C dX1_copyFrom_72 (by decide) ?_
  refine q_bipush (v := 8) C dX1_copyFrom_73 (by decide) ?_
  refine q_copyV (n := 8) (dp := 0) (sp := 0) (f := (va_cpy (S 12) (S 95) 0 0 8)) C q_s12 q_s95  rfl rfl rfl mlX1_57 w_copyN w_copyS w_copyI (by omega) (by omega) (by decide) (by decide) (by decide) (Nat.le_of_ble_eq_true rfl) dX1_copyFrom_75 rfl ?_
  refine q_aload_n C dX1_copyFrom_78 rfl rfl ?_
  refine q_getR C flX1_22 q_s10 rfl dX1_copyFrom_79 ?_
  refine q_iconst (v := 0) C dX1_copyFrom_82 (by decide) ?_
  refine q_aload_n C dX1_copyFrom_83 rfl rfl ?_
  refine q_getR C flX1_22 q_s93 rfl dX1_copyFrom_84 ?_
  refine q_iconst (v := 0) C dX1_copyFrom_87 (by decide) ?_
  refine q_bipush (v := 8) C dX1_copyFrom_88 (by decide) ?_
  refine q_copyV (n := 8) (dp := 0) (sp := 0) (f := (va_cpy (S 13) (S 96) 0 0 8)) C q_s13 q_s96  rfl rfl rfl mlX1_57 w_copyN w_copyS w_copyI (by omega) (by omega) (by decide) (by decide) (by decide) (Nat.le_of_ble_eq_true rfl) dX1_copyFrom_90 rfl ?_
  refine q_aload_n C dX1_copyFrom_93 rfl rfl ?_
  refine q_getR C flX1_25 q_s10 rfl dX1_copyFrom_94 ?_
  refine q_iconst (v := 0) C dX1_copyFrom_97 (by decide) ?_
  refine q_aload_n C dX1_copyFrom_98 rfl rfl ?_
  refine q_getR C flX1_25 q_s93 rfl dX1_copyFrom_99 ?_
  refine q_iconst (v := 0) C dX1_copyFrom_102 (by decide) ?_
  refine q_bipush (v := 48) C dX1_copyFrom_103 (by decide) ?_
  refine q_copyV (n := 48) (dp := 0) (sp := 0) (f := (va_cpy (S 14) (S 97) 0 0 48)) C q_s14 q_s97  rfl rfl rfl mlX1_57 w_copyN w_copyS w_copyI (by omega) (by omega) (by decide) (by decide) (by decide) (Nat.le_of_ble_eq_true rfl) dX1_copyFrom_105 rfl ?_
  refine q_aload_n C dX1_copyFrom_108 rfl rfl ?_
  refine q_getR C flX1_28 q_s10 rfl dX1_copyFrom_109 ?_
  refine q_iconst (v := 0) C dX1_copyFrom_112 (by decide) ?_
  refine q_aload_n C dX1_copyFrom_113 rfl rfl ?_
  refine q_getR C flX1_28 q_s93 rfl dX1_copyFrom_114 ?_
  refine q_iconst (v := 0) C dX1_copyFrom_117 (by decide) ?_
  refine q_bipush (v := 48) C dX1_copyFrom_118 (by decide) ?_
  refine q_copyV (n := 48) (dp := 0) (sp := 0) (f := (va_cpy (S 15) (S 98) 0 0 48)) C q_s15 q_s98  rfl rfl rfl mlX1_57 w_copyN w_copyS w_copyI (by omega) (by omega) (by decide) (by decide) (by decide) (Nat.le_of_ble_eq_true rfl) dX1_copyFrom_120 rfl ?_
  refine q_aload_n C dX1_copyFrom_123 rfl rfl ?_
  refine q_getR C flX1_31 q_s10 rfl dX1_copyFrom_124 ?_
  refine q_iconst (v := 0) C dX1_copyFrom_127 (by decide) ?_
  refine q_aload_n C dX1_copyFrom_128 rfl rfl ?_
  refine q_getR C flX1_31 q_s93 rfl dX1_copyFrom_129 ?_
  refine q_iconst (v := 0) C dX1_copyFrom_132 (by decide) ?_
  refine q_bipush (v := 6) C dX1_copyFrom_133 (by decide) ?_
  refine q_copyV (n := 6) (dp := 0) (sp := 0) (f := (va_cpy (S 16) (S 99) 0 0 6)) C q_s16 q_s99  rfl rfl rfl mlX1_57 w_copyN w_copyS w_copyI (by omega) (by omega) (by decide) (by decide) (by decide) (Nat.le_of_ble_eq_true rfl) dX1_copyFrom_135 rfl ?_
  refine q_aload_n C dX1_copyFrom_138 rfl rfl ?_
  refine q_getR C flX1_34 q_s10 rfl dX1_copyFrom_139 ?_
  refine q_iconst (v := 0) C dX1_copyFrom_142 (by decide) ?_
  refine q_aload_n C dX1_copyFrom_143 rfl rfl ?_
  refine q_getR C flX1_34 q_s93 rfl dX1_copyFrom_144 ?_
  refine q_iconst (v := 0) C dX1_copyFrom_147 (by decide) ?_
  refine q_bipush (v := 6) C dX1_copyFrom_148 (by decide) ?_
  refine q_copyV (n := 6) (dp := 0) (sp := 0) (f := (va_cpy (S 17) (S 100) 0 0 6)) C q_s17 q_s100  rfl rfl rfl mlX1_57 w_copyN w_copyS w_copyI (by omega) (by omega) (by decide) (by decide) (by decide) (Nat.le_of_ble_eq_true rfl) dX1_copyFrom_150 rfl ?_
  refine q_iconst (v := 0) C dX1_copyFrom_153 (by decide) ?_
  refine q_istore_n (lv' := [(2, .int 0), (0, .ref 93), (1, .ref 10)]) C dX1_copyFrom_154 rfl (by decide) rfl ?_
  have loop_155 : ∀ (n_155 i_155 : Nat), i_155 + n_155 = 6 → q_V l K 155 [(0, .ref 93), (1, .ref 10), (2, .int (nI i_155))] [] (q_u (q_u (q_u (q_u (q_u (q_u (q_u (q_u (q_p (q_p (q_p (q_p (q_p (q_p S 93 0 (S 10 0)) 93 1 (S 10 1)) 93 2 (S 10 2)) 93 3 (S 10 3)) 93 4 (S 10 4)) 93 5 (S 10 5)) 94 (va_cpy (S 11) (S 94) 0 0 8)) 95 (va_cpy (S 12) (S 95) 0 0 8)) 96 (va_cpy (S 13) (S 96) 0 0 8)) 97 (va_cpy (S 14) (S 97) 0 0 48)) 98 (va_cpy (S 15) (S 98) 0 0 48)) 99 (va_cpy (S 16) (S 99) 0 0 6)) 100 (va_cpy (S 17) (S 100) 0 0 6)) 101 (va_cpy (S 18) (S 101) 0 0 i_155)) := by
    intro n_155
    induction n_155 with
    | zero =>
      intro i_155 hi_155
      have e_155 : i_155 = 6 := by omega
      refine q_iload_n C dX1_copyFrom_155 rfl rfl ?_
      refine q_bipush (v := 6) C dX1_copyFrom_156 (by decide) ?_
      refine q_icmp_geN (a := i_155) (b := 6) (tgt := 179) C dX1_copyFrom_158 (by decide) rfl rfl (by omega) (by omega) (fun c_158 => ?_) (fun c_158 => absurd c_158 (by omega))
      exact hret _ _ _ dX1_copyFrom_179 (by rw [e_155]; exact q_cp_eq S 93 10)
    | succ n_155 ih_155 =>
      intro i_155 hi_155
      refine q_iload_n C dX1_copyFrom_155 rfl rfl ?_
      refine q_bipush (v := 6) C dX1_copyFrom_156 (by decide) ?_
      refine q_icmp_geN (a := i_155) (b := 6) (tgt := 179) C dX1_copyFrom_158 (by decide) rfl rfl (by omega) (by omega) (fun c_158 => absurd c_158 (by omega)) (fun c_158 => ?_)
      refine q_aload_n C dX1_copyFrom_161 rfl rfl ?_
      refine q_getR C flX1_37 q_s93 rfl dX1_copyFrom_162 ?_
      refine q_iload_n C dX1_copyFrom_165 rfl rfl ?_
      refine q_aload_n C dX1_copyFrom_166 rfl rfl ?_
      refine q_getR C flX1_37 q_s10 rfl dX1_copyFrom_167 ?_
      refine q_iload_n C dX1_copyFrom_170 rfl rfl ?_
      refine q_zaldN (i := i_155) (x := S 18 i_155) C rfl q_s18 (by omega) (by decide) dX1_copyFrom_171 rfl ?_
      refine q_zastV (i := i_155) (v := S 18 i_155) C rfl q_s101 (by omega) (by decide) dX1_copyFrom_172 (q_nar_b (hz.2 _ (by omega))) ?_
      refine q_iinc (v := nI (i_155 + 1)) (lv' := [(2, .int (nI (i_155 + 1))), (0, .ref 93), (1, .ref 10)]) C dX1_copyFrom_173 rfl (nI_add _ _) (by decide) rfl ?_
      refine q_goto (tgt := 155) C dX1_copyFrom_176 (by decide) ?_
      exact q_V_to (ih_155 (i_155 + 1) (by omega)) ⟨rfl, rfl, rfl, trivial⟩ (q_u_s _ _ _ _ _)
  exact q_V_to (loop_155 (6 - 0) 0 (by omega)) ⟨rfl, rfl, rfl, trivial⟩ (q_u_0 _ _ _)
theorem c_X2_keep10 (l : Launch) (S : q_St) (i z : Nat) (hi : S 28 1 = nI i) (hi8 : i < 8) (hzz : S 28 2 = nI z) (hz8 : z ≤ 8) (hz : q_bool S 10) : q_Fv l yX2_keep kX2_keep 2 [.ref 28, .ref 10] S (uH_keep S i z 10) := by
  refine q_Fv_of (maxL := 2) rfl (by decide +kernel) (fun ad => Nat.le_of_ble_eq_true rfl) ?_
  intro K C hret
  have C : q_Cx K cX2_keep RX2 2 2 := C
  show q_V l K 0 [(0, .ref 28), (1, .ref 10)] [] S
  refine q_aload_n C dX2_keep_0 rfl rfl ?_
  refine q_getR C flX2_11 q_s28 rfl dX2_keep_1 ?_
  refine q_aload_n C dX2_keep_4 rfl rfl ?_
  refine q_getI (x := nI i) C flX2_18 q_s28 rfl dX2_keep_5 hi ?_
  refine q_aldN (i := i) C rfl q_s29 (by omega) (by decide) dX2_keep_8 ?_
  rcases (show i = 0 ∨ i = 1 ∨ i = 2 ∨ i = 3 ∨ i = 4 ∨ i = 5 ∨ i = 6 ∨ i = 7 by omega) with rfl | rfl | rfl | rfl | rfl | rfl | rfl | rfl
  · refine q_aload_n C dX2_keep_9 rfl rfl ?_
    refine q_cv1 C (c_X1_copy_30_10 l S hz) myX1_copyFrom mlX2_22 q_s30 ⟨by decide, by decide⟩ (Nat.le_of_ble_eq_true rfl) dX2_keep_10 ?_
    refine q_aload_n C dX2_keep_13 rfl rfl ?_
    refine q_aload_n C dX2_keep_14 rfl rfl ?_
    refine q_getI (x := nI 0) C flX2_18 q_s28 rfl dX2_keep_15 (by simpa [q_cp, q_p, upd] using hi) ?_
    refine q_iconst (v := 1) C dX2_keep_18 (by decide) ?_
    refine q_iaddN (a := 0) (b := 1) C dX2_keep_19 rfl rfl ?_
    refine q_bipush (v := 8) C dX2_keep_20 (by decide) ?_
    refine q_iremN (a := 0 + 1) (b := 8) C dX2_keep_22 rfl rfl (by omega) (by decide) (by decide) ?_
    refine q_put (ty9 := .int) C flX2_18 q_s28 rfl (fun _ _ _ h => by cases h; exact ⟨rfl, by decide +kernel⟩) rfl rfl dX2_keep_23 ?_
    refine q_aload_n C dX2_keep_26 rfl rfl ?_
    refine q_aload_n C dX2_keep_27 rfl rfl ?_
    refine q_getI (x := nI z) C flX2_26 q_s28 rfl dX2_keep_28 (by simpa [q_cp, q_p, upd] using hzz) ?_
    refine q_iconst (v := 1) C dX2_keep_31 (by decide) ?_
    refine q_iaddN (a := z) (b := 1) C dX2_keep_32 rfl rfl ?_
    refine q_bipush (v := 8) C dX2_keep_33 (by decide) ?_
    refine q_minN (a := z + 1) (b := 8) C rfl rfl (by omega) (by omega) mlX2_29 (by decide) (Nat.le_of_ble_eq_true rfl) dX2_keep_35 ?_
    refine q_put (ty9 := .int) C flX2_26 q_s28 rfl (fun _ _ _ h => by cases h; exact ⟨rfl, by decide +kernel⟩) rfl rfl dX2_keep_38 ?_
    exact hret _ _ _ dX2_keep_41 rfl
  · refine q_aload_n C dX2_keep_9 rfl rfl ?_
    refine q_cv1 C (c_X1_copy_39_10 l S hz) myX1_copyFrom mlX2_22 q_s39 ⟨by decide, by decide⟩ (Nat.le_of_ble_eq_true rfl) dX2_keep_10 ?_
    refine q_aload_n C dX2_keep_13 rfl rfl ?_
    refine q_aload_n C dX2_keep_14 rfl rfl ?_
    refine q_getI (x := nI 1) C flX2_18 q_s28 rfl dX2_keep_15 (by simpa [q_cp, q_p, upd] using hi) ?_
    refine q_iconst (v := 1) C dX2_keep_18 (by decide) ?_
    refine q_iaddN (a := 1) (b := 1) C dX2_keep_19 rfl rfl ?_
    refine q_bipush (v := 8) C dX2_keep_20 (by decide) ?_
    refine q_iremN (a := 1 + 1) (b := 8) C dX2_keep_22 rfl rfl (by omega) (by decide) (by decide) ?_
    refine q_put (ty9 := .int) C flX2_18 q_s28 rfl (fun _ _ _ h => by cases h; exact ⟨rfl, by decide +kernel⟩) rfl rfl dX2_keep_23 ?_
    refine q_aload_n C dX2_keep_26 rfl rfl ?_
    refine q_aload_n C dX2_keep_27 rfl rfl ?_
    refine q_getI (x := nI z) C flX2_26 q_s28 rfl dX2_keep_28 (by simpa [q_cp, q_p, upd] using hzz) ?_
    refine q_iconst (v := 1) C dX2_keep_31 (by decide) ?_
    refine q_iaddN (a := z) (b := 1) C dX2_keep_32 rfl rfl ?_
    refine q_bipush (v := 8) C dX2_keep_33 (by decide) ?_
    refine q_minN (a := z + 1) (b := 8) C rfl rfl (by omega) (by omega) mlX2_29 (by decide) (Nat.le_of_ble_eq_true rfl) dX2_keep_35 ?_
    refine q_put (ty9 := .int) C flX2_26 q_s28 rfl (fun _ _ _ h => by cases h; exact ⟨rfl, by decide +kernel⟩) rfl rfl dX2_keep_38 ?_
    exact hret _ _ _ dX2_keep_41 rfl
  · refine q_aload_n C dX2_keep_9 rfl rfl ?_
    refine q_cv1 C (c_X1_copy_48_10 l S hz) myX1_copyFrom mlX2_22 q_s48 ⟨by decide, by decide⟩ (Nat.le_of_ble_eq_true rfl) dX2_keep_10 ?_
    refine q_aload_n C dX2_keep_13 rfl rfl ?_
    refine q_aload_n C dX2_keep_14 rfl rfl ?_
    refine q_getI (x := nI 2) C flX2_18 q_s28 rfl dX2_keep_15 (by simpa [q_cp, q_p, upd] using hi) ?_
    refine q_iconst (v := 1) C dX2_keep_18 (by decide) ?_
    refine q_iaddN (a := 2) (b := 1) C dX2_keep_19 rfl rfl ?_
    refine q_bipush (v := 8) C dX2_keep_20 (by decide) ?_
    refine q_iremN (a := 2 + 1) (b := 8) C dX2_keep_22 rfl rfl (by omega) (by decide) (by decide) ?_
    refine q_put (ty9 := .int) C flX2_18 q_s28 rfl (fun _ _ _ h => by cases h; exact ⟨rfl, by decide +kernel⟩) rfl rfl dX2_keep_23 ?_
    refine q_aload_n C dX2_keep_26 rfl rfl ?_
    refine q_aload_n C dX2_keep_27 rfl rfl ?_
    refine q_getI (x := nI z) C flX2_26 q_s28 rfl dX2_keep_28 (by simpa [q_cp, q_p, upd] using hzz) ?_
    refine q_iconst (v := 1) C dX2_keep_31 (by decide) ?_
    refine q_iaddN (a := z) (b := 1) C dX2_keep_32 rfl rfl ?_
    refine q_bipush (v := 8) C dX2_keep_33 (by decide) ?_
    refine q_minN (a := z + 1) (b := 8) C rfl rfl (by omega) (by omega) mlX2_29 (by decide) (Nat.le_of_ble_eq_true rfl) dX2_keep_35 ?_
    refine q_put (ty9 := .int) C flX2_26 q_s28 rfl (fun _ _ _ h => by cases h; exact ⟨rfl, by decide +kernel⟩) rfl rfl dX2_keep_38 ?_
    exact hret _ _ _ dX2_keep_41 rfl
  · refine q_aload_n C dX2_keep_9 rfl rfl ?_
    refine q_cv1 C (c_X1_copy_57_10 l S hz) myX1_copyFrom mlX2_22 q_s57 ⟨by decide, by decide⟩ (Nat.le_of_ble_eq_true rfl) dX2_keep_10 ?_
    refine q_aload_n C dX2_keep_13 rfl rfl ?_
    refine q_aload_n C dX2_keep_14 rfl rfl ?_
    refine q_getI (x := nI 3) C flX2_18 q_s28 rfl dX2_keep_15 (by simpa [q_cp, q_p, upd] using hi) ?_
    refine q_iconst (v := 1) C dX2_keep_18 (by decide) ?_
    refine q_iaddN (a := 3) (b := 1) C dX2_keep_19 rfl rfl ?_
    refine q_bipush (v := 8) C dX2_keep_20 (by decide) ?_
    refine q_iremN (a := 3 + 1) (b := 8) C dX2_keep_22 rfl rfl (by omega) (by decide) (by decide) ?_
    refine q_put (ty9 := .int) C flX2_18 q_s28 rfl (fun _ _ _ h => by cases h; exact ⟨rfl, by decide +kernel⟩) rfl rfl dX2_keep_23 ?_
    refine q_aload_n C dX2_keep_26 rfl rfl ?_
    refine q_aload_n C dX2_keep_27 rfl rfl ?_
    refine q_getI (x := nI z) C flX2_26 q_s28 rfl dX2_keep_28 (by simpa [q_cp, q_p, upd] using hzz) ?_
    refine q_iconst (v := 1) C dX2_keep_31 (by decide) ?_
    refine q_iaddN (a := z) (b := 1) C dX2_keep_32 rfl rfl ?_
    refine q_bipush (v := 8) C dX2_keep_33 (by decide) ?_
    refine q_minN (a := z + 1) (b := 8) C rfl rfl (by omega) (by omega) mlX2_29 (by decide) (Nat.le_of_ble_eq_true rfl) dX2_keep_35 ?_
    refine q_put (ty9 := .int) C flX2_26 q_s28 rfl (fun _ _ _ h => by cases h; exact ⟨rfl, by decide +kernel⟩) rfl rfl dX2_keep_38 ?_
    exact hret _ _ _ dX2_keep_41 rfl
  · refine q_aload_n C dX2_keep_9 rfl rfl ?_
    refine q_cv1 C (c_X1_copy_66_10 l S hz) myX1_copyFrom mlX2_22 q_s66 ⟨by decide, by decide⟩ (Nat.le_of_ble_eq_true rfl) dX2_keep_10 ?_
    refine q_aload_n C dX2_keep_13 rfl rfl ?_
    refine q_aload_n C dX2_keep_14 rfl rfl ?_
    refine q_getI (x := nI 4) C flX2_18 q_s28 rfl dX2_keep_15 (by simpa [q_cp, q_p, upd] using hi) ?_
    refine q_iconst (v := 1) C dX2_keep_18 (by decide) ?_
    refine q_iaddN (a := 4) (b := 1) C dX2_keep_19 rfl rfl ?_
    refine q_bipush (v := 8) C dX2_keep_20 (by decide) ?_
    refine q_iremN (a := 4 + 1) (b := 8) C dX2_keep_22 rfl rfl (by omega) (by decide) (by decide) ?_
    refine q_put (ty9 := .int) C flX2_18 q_s28 rfl (fun _ _ _ h => by cases h; exact ⟨rfl, by decide +kernel⟩) rfl rfl dX2_keep_23 ?_
    refine q_aload_n C dX2_keep_26 rfl rfl ?_
    refine q_aload_n C dX2_keep_27 rfl rfl ?_
    refine q_getI (x := nI z) C flX2_26 q_s28 rfl dX2_keep_28 (by simpa [q_cp, q_p, upd] using hzz) ?_
    refine q_iconst (v := 1) C dX2_keep_31 (by decide) ?_
    refine q_iaddN (a := z) (b := 1) C dX2_keep_32 rfl rfl ?_
    refine q_bipush (v := 8) C dX2_keep_33 (by decide) ?_
    refine q_minN (a := z + 1) (b := 8) C rfl rfl (by omega) (by omega) mlX2_29 (by decide) (Nat.le_of_ble_eq_true rfl) dX2_keep_35 ?_
    refine q_put (ty9 := .int) C flX2_26 q_s28 rfl (fun _ _ _ h => by cases h; exact ⟨rfl, by decide +kernel⟩) rfl rfl dX2_keep_38 ?_
    exact hret _ _ _ dX2_keep_41 rfl
  · refine q_aload_n C dX2_keep_9 rfl rfl ?_
    refine q_cv1 C (c_X1_copy_75_10 l S hz) myX1_copyFrom mlX2_22 q_s75 ⟨by decide, by decide⟩ (Nat.le_of_ble_eq_true rfl) dX2_keep_10 ?_
    refine q_aload_n C dX2_keep_13 rfl rfl ?_
    refine q_aload_n C dX2_keep_14 rfl rfl ?_
    refine q_getI (x := nI 5) C flX2_18 q_s28 rfl dX2_keep_15 (by simpa [q_cp, q_p, upd] using hi) ?_
    refine q_iconst (v := 1) C dX2_keep_18 (by decide) ?_
    refine q_iaddN (a := 5) (b := 1) C dX2_keep_19 rfl rfl ?_
    refine q_bipush (v := 8) C dX2_keep_20 (by decide) ?_
    refine q_iremN (a := 5 + 1) (b := 8) C dX2_keep_22 rfl rfl (by omega) (by decide) (by decide) ?_
    refine q_put (ty9 := .int) C flX2_18 q_s28 rfl (fun _ _ _ h => by cases h; exact ⟨rfl, by decide +kernel⟩) rfl rfl dX2_keep_23 ?_
    refine q_aload_n C dX2_keep_26 rfl rfl ?_
    refine q_aload_n C dX2_keep_27 rfl rfl ?_
    refine q_getI (x := nI z) C flX2_26 q_s28 rfl dX2_keep_28 (by simpa [q_cp, q_p, upd] using hzz) ?_
    refine q_iconst (v := 1) C dX2_keep_31 (by decide) ?_
    refine q_iaddN (a := z) (b := 1) C dX2_keep_32 rfl rfl ?_
    refine q_bipush (v := 8) C dX2_keep_33 (by decide) ?_
    refine q_minN (a := z + 1) (b := 8) C rfl rfl (by omega) (by omega) mlX2_29 (by decide) (Nat.le_of_ble_eq_true rfl) dX2_keep_35 ?_
    refine q_put (ty9 := .int) C flX2_26 q_s28 rfl (fun _ _ _ h => by cases h; exact ⟨rfl, by decide +kernel⟩) rfl rfl dX2_keep_38 ?_
    exact hret _ _ _ dX2_keep_41 rfl
  · refine q_aload_n C dX2_keep_9 rfl rfl ?_
    refine q_cv1 C (c_X1_copy_84_10 l S hz) myX1_copyFrom mlX2_22 q_s84 ⟨by decide, by decide⟩ (Nat.le_of_ble_eq_true rfl) dX2_keep_10 ?_
    refine q_aload_n C dX2_keep_13 rfl rfl ?_
    refine q_aload_n C dX2_keep_14 rfl rfl ?_
    refine q_getI (x := nI 6) C flX2_18 q_s28 rfl dX2_keep_15 (by simpa [q_cp, q_p, upd] using hi) ?_
    refine q_iconst (v := 1) C dX2_keep_18 (by decide) ?_
    refine q_iaddN (a := 6) (b := 1) C dX2_keep_19 rfl rfl ?_
    refine q_bipush (v := 8) C dX2_keep_20 (by decide) ?_
    refine q_iremN (a := 6 + 1) (b := 8) C dX2_keep_22 rfl rfl (by omega) (by decide) (by decide) ?_
    refine q_put (ty9 := .int) C flX2_18 q_s28 rfl (fun _ _ _ h => by cases h; exact ⟨rfl, by decide +kernel⟩) rfl rfl dX2_keep_23 ?_
    refine q_aload_n C dX2_keep_26 rfl rfl ?_
    refine q_aload_n C dX2_keep_27 rfl rfl ?_
    refine q_getI (x := nI z) C flX2_26 q_s28 rfl dX2_keep_28 (by simpa [q_cp, q_p, upd] using hzz) ?_
    refine q_iconst (v := 1) C dX2_keep_31 (by decide) ?_
    refine q_iaddN (a := z) (b := 1) C dX2_keep_32 rfl rfl ?_
    refine q_bipush (v := 8) C dX2_keep_33 (by decide) ?_
    refine q_minN (a := z + 1) (b := 8) C rfl rfl (by omega) (by omega) mlX2_29 (by decide) (Nat.le_of_ble_eq_true rfl) dX2_keep_35 ?_
    refine q_put (ty9 := .int) C flX2_26 q_s28 rfl (fun _ _ _ h => by cases h; exact ⟨rfl, by decide +kernel⟩) rfl rfl dX2_keep_38 ?_
    exact hret _ _ _ dX2_keep_41 rfl
  · refine q_aload_n C dX2_keep_9 rfl rfl ?_
    refine q_cv1 C (c_X1_copy_93_10 l S hz) myX1_copyFrom mlX2_22 q_s93 ⟨by decide, by decide⟩ (Nat.le_of_ble_eq_true rfl) dX2_keep_10 ?_
    refine q_aload_n C dX2_keep_13 rfl rfl ?_
    refine q_aload_n C dX2_keep_14 rfl rfl ?_
    refine q_getI (x := nI 7) C flX2_18 q_s28 rfl dX2_keep_15 (by simpa [q_cp, q_p, upd] using hi) ?_
    refine q_iconst (v := 1) C dX2_keep_18 (by decide) ?_
    refine q_iaddN (a := 7) (b := 1) C dX2_keep_19 rfl rfl ?_
    refine q_bipush (v := 8) C dX2_keep_20 (by decide) ?_
    refine q_iremN (a := 7 + 1) (b := 8) C dX2_keep_22 rfl rfl (by omega) (by decide) (by decide) ?_
    refine q_put (ty9 := .int) C flX2_18 q_s28 rfl (fun _ _ _ h => by cases h; exact ⟨rfl, by decide +kernel⟩) rfl rfl dX2_keep_23 ?_
    refine q_aload_n C dX2_keep_26 rfl rfl ?_
    refine q_aload_n C dX2_keep_27 rfl rfl ?_
    refine q_getI (x := nI z) C flX2_26 q_s28 rfl dX2_keep_28 (by simpa [q_cp, q_p, upd] using hzz) ?_
    refine q_iconst (v := 1) C dX2_keep_31 (by decide) ?_
    refine q_iaddN (a := z) (b := 1) C dX2_keep_32 rfl rfl ?_
    refine q_bipush (v := 8) C dX2_keep_33 (by decide) ?_
    refine q_minN (a := z + 1) (b := 8) C rfl rfl (by omega) (by omega) mlX2_29 (by decide) (Nat.le_of_ble_eq_true rfl) dX2_keep_35 ?_
    refine q_put (ty9 := .int) C flX2_26 q_s28 rfl (fun _ _ _ h => by cases h; exact ⟨rfl, by decide +kernel⟩) rfl rfl dX2_keep_38 ?_
    exact hret _ _ _ dX2_keep_41 rfl
theorem c_X6_run (l : Launch) (hst : l.stackTraces = false) (S : q_St) (i z : Nat) (hi : S 28 1 = nI i) (hi8 : i < 8) (hzz : S 28 2 = nI z) (hz8 : z ≤ 8) (t : Nat → Int32) (n : Nat) (ht : S 104 = t) (hn : S 103 1 = nI n) (hn60 : n ≤ 60) (hch : ∀ j, j < 60 → ∃ q, q < 65536 ∧ t j = nI q) (cnt : Nat) (hz : q_bool S 1) (hcnt : ¬ (uO_text t n S).2.1 = true → uG_P t n S 103 5 = nI cnt) (hc30 : ¬ (uO_text t n S).2.1 = true → cnt ≤ 30) (hk : ¬ (uO_text t n S).2.1 = true → ∀ i, i < cnt → (uG_P t n S 105 i = 110 ∨ uG_P t n S 105 i = 97 ∨ uG_P t n S 105 i = 113 ∨ uG_P t n S 105 i = 100 ∨ uG_P t n S 105 i = 116 ∨ uG_P t n S 105 i = 102 ∨ uG_P t n S 105 i = 119 ∨ uG_P t n S 105 i = 115 ∨ uG_P t n S 105 i = 114 ∨ uG_P t n S 105 i = 105 ∨ uG_P t n S 105 i = 104)) (hJ : ¬ (uO_text t n S).2.1 = true → uJ (uG_P t n S)) : q_Fx l yX6_run kX6_run 8 6 [.ref 0] S (uG_run t n S cnt i z) := by
  refine q_Fx_of hst (maxL := 2) rfl (by decide +kernel) (fun ad => Nat.le_of_ble_eq_true rfl) (fun _ _ _ => rfl) (by decide) ?_
  intro K hX hC hret hTh hNw
  have C : q_Cx (q_Kw K 0) cX6_run RX6 8 2 := hC 0 (by decide)
  show q_V l (q_Kw K 0) 0 [(0, .ref 0)] [] S
  refine q_aload_n C dX6_run_0 rfl rfl ?_
  refine q_getR C flX6_41 q_s0 rfl dX6_run_1 ?_
  by_cases hw : (uO_text t n S).2.1 = true
  · refine q_ci0 C (q_Fi.cs (v' := 0) (S3 := uG_R t n S) (if_neg (fun q => q hw)) rfl (c_X4_readText l S t n ht hn hn60 hch)) myX4_readText mlX6_238 q_s103 ⟨by decide, by decide⟩ (Nat.le_of_ble_eq_true rfl) dX6_run_4 ?_
    refine q_if_ne (tgt := 20) C dX6_run_7 (by decide) (fun h9 => absurd h9 (by decide)) (fun _ => ?_)
    exact hNw 0 (by decide) xEIa _ (by simp [uG_run, if_pos hw]) _ 241 243 245 7 19 xr_7 "the text has an error" _ _ xr_7_d rfl xk_Ia xi_Ia xa_Ia xf_Ia (Nat.le_of_ble_eq_true rfl) ⟨⟨dX6_run_10, dX6_run_13⟩, Or.inl ⟨dX6_run_14, dX6_run_16, dX6_run_19⟩⟩
  · refine q_ci0 C (q_Fi.cs (v' := 1) (S3 := uG_R t n S) (if_pos hw) rfl (c_X4_readText l S t n ht hn hn60 hch)) myX4_readText mlX6_238 q_s103 ⟨by decide, by decide⟩ (Nat.le_of_ble_eq_true rfl) dX6_run_4 ?_
    refine q_if_ne (tgt := 20) C dX6_run_7 (by decide) (fun _ => ?_) (fun h9 => absurd h9 (by decide))
    refine q_aload_n C dX6_run_20 rfl rfl ?_
    refine q_getR C flX6_16 q_s0 rfl dX6_run_21 ?_
    refine q_aload_n C dX6_run_24 rfl rfl ?_
    refine q_getR C flX6_10 q_s0 rfl dX6_run_25 ?_
    refine q_cv1 C (c_X1_copy_10_1 l (uG_R t n S) (q_bool_cg hz (uG_R_k _ _ _ _ (by decide)) (uG_R_k _ _ _ _ (by decide)))) myX1_copyFrom mlX6_246 q_s10 ⟨by decide, by decide⟩ (Nat.le_of_ble_eq_true rfl) dX6_run_28 ?_
    refine q_aload_n C dX6_run_31 rfl rfl ?_
    refine q_getR C flX6_50 q_s0 rfl dX6_run_32 ?_
    refine q_aload_n C dX6_run_35 rfl rfl ?_
    refine q_getR C flX6_41 q_s0 rfl dX6_run_36 ?_
    refine q_ci1 C (c_X0_carryOutAll l (uG_P t n S) cnt (hcnt hw) (hc30 hw) (hk hw) (hJ hw)) myX0_carryOutAll mlX6_249 q_s109 ⟨by decide, by decide⟩ (Nat.le_of_ble_eq_true rfl) dX6_run_39 ?_
    rcases uK_all_cs (uG_P t n S) cnt 0 (uG_P t n S) with ho | ho | ho
    · refine q_top (y := 0) ho ?_
      have hU : (uG_U t n S cnt).1 = 0 := ho
      show q_V l (q_Kw K 0) 42 [(0, .ref 0)] [.int 0] (uG_U t n S cnt).2
      refine q_istore_n (lv' := [(1, .int 0), (0, .ref 0)]) C dX6_run_42 rfl (by decide) rfl ?_
      refine q_iload_n C dX6_run_43 rfl rfl ?_
      refine q_if_eq (tgt := 58) C dX6_run_44 (by decide) (fun _ => ?_) (fun h9 => absurd h9 (by decide))
      refine q_iload_n C dX6_run_58 rfl rfl ?_
      refine q_iconst (v := 1) C dX6_run_59 (by decide) ?_
      refine q_icmp_ne (tgt := 73) C dX6_run_60 (by decide) (fun _ => ?_) (fun h9 => absurd h9 (by decide))
      refine q_iload_n C dX6_run_73 rfl rfl ?_
      refine q_iconst (v := 2) C dX6_run_74 (by decide) ?_
      refine q_icmp_ne (tgt := 89) C dX6_run_75 (by decide) (fun _ => ?_) (fun h9 => absurd h9 (by decide))
      refine q_aload_n C dX6_run_89 rfl rfl ?_
      refine q_getR C flX6_25 q_s0 rfl dX6_run_90 ?_
      refine q_aload_n C dX6_run_93 rfl rfl ?_
      refine q_getR C flX6_16 q_s0 rfl dX6_run_94 ?_
      have e28 : (uG_U t n S cnt).2 28 = S 28 := uG_U_k t n S cnt 28 (by omega)
      refine q_cv1 C (c_X2_keep10 l (uG_U t n S cnt).2 i z (by rw [e28]; exact hi) hi8 (by rw [e28]; exact hzz) hz8 (uG_U_bool cnt hz)) myX2_keep mlX6_260 q_s28 ⟨by decide, by decide⟩ (Nat.le_of_ble_eq_true rfl) dX6_run_97 ?_
      refine q_aload_n C dX6_run_100 rfl rfl ?_
      refine q_getR C flX6_41 q_s0 rfl dX6_run_101 ?_
      refine q_getI (x := nI cnt) C flX6_263 q_s103 rfl dX6_run_104 (by rw [uH_keep_k _ _ _ _ _ (by decide) hi8]; exact uG_U_5 (hcnt hw)) ?_
      exact hret 0 (by decide) _ _ _ _ dX6_run_107 (by simp [uG_run, if_neg hw, hU])
    · refine q_top (y := 1) ho ?_
      have hU : (uG_U t n S cnt).1 = 1 := ho
      show q_V l (q_Kw K 0) 42 [(0, .ref 0)] [.int 1] (uG_U t n S cnt).2
      refine q_istore_n (lv' := [(1, .int 1), (0, .ref 0)]) C dX6_run_42 rfl (by decide) rfl ?_
      refine q_iload_n C dX6_run_43 rfl rfl ?_
      refine q_if_eq (tgt := 58) C dX6_run_44 (by decide) (fun h9 => absurd h9 (by decide)) (fun _ => ?_)
      refine q_aload_n C dX6_run_47 rfl rfl ?_
      refine q_getR C flX6_10 q_s0 rfl dX6_run_48 ?_
      refine q_aload_n C dX6_run_51 rfl rfl ?_
      refine q_getR C flX6_16 q_s0 rfl dX6_run_52 ?_
      refine q_cv1 C (c_X1_copy_1_10 l ((uG_U t n S cnt).2) (uG_U_bool cnt hz)) myX1_copyFrom mlX6_246 q_s1 ⟨by decide, by decide⟩ (Nat.le_of_ble_eq_true rfl) dX6_run_55 ?_
      refine q_iload_n C dX6_run_58 rfl rfl ?_
      refine q_iconst (v := 1) C dX6_run_59 (by decide) ?_
      refine q_icmp_ne (tgt := 73) C dX6_run_60 (by decide) (fun h9 => absurd h9 (by decide)) (fun _ => ?_)
      exact hNw 0 (by decide) xEUn _ (by simp [uG_run, if_neg hw, hU]) _ 253 255 257 7 20 xr_7 "an order is refused" _ _ xr_7_d rfl xk_Un xi_Un xa_Un xf_Un (Nat.le_of_ble_eq_true rfl) ⟨⟨dX6_run_63, dX6_run_66⟩, Or.inl ⟨dX6_run_67, dX6_run_69, dX6_run_72⟩⟩
    · refine q_top (y := 2) ho ?_
      have hU : (uG_U t n S cnt).1 = 2 := ho
      show q_V l (q_Kw K 0) 42 [(0, .ref 0)] [.int 2] (uG_U t n S cnt).2
      refine q_istore_n (lv' := [(1, .int 2), (0, .ref 0)]) C dX6_run_42 rfl (by decide) rfl ?_
      refine q_iload_n C dX6_run_43 rfl rfl ?_
      refine q_if_eq (tgt := 58) C dX6_run_44 (by decide) (fun h9 => absurd h9 (by decide)) (fun _ => ?_)
      refine q_aload_n C dX6_run_47 rfl rfl ?_
      refine q_getR C flX6_10 q_s0 rfl dX6_run_48 ?_
      refine q_aload_n C dX6_run_51 rfl rfl ?_
      refine q_getR C flX6_16 q_s0 rfl dX6_run_52 ?_
      refine q_cv1 C (c_X1_copy_1_10 l ((uG_U t n S cnt).2) (uG_U_bool cnt hz)) myX1_copyFrom mlX6_246 q_s1 ⟨by decide, by decide⟩ (Nat.le_of_ble_eq_true rfl) dX6_run_55 ?_
      refine q_iload_n C dX6_run_58 rfl rfl ?_
      refine q_iconst (v := 1) C dX6_run_59 (by decide) ?_
      refine q_icmp_ne (tgt := 73) C dX6_run_60 (by decide) (fun _ => ?_) (fun h9 => absurd h9 (by decide))
      refine q_iload_n C dX6_run_73 rfl rfl ?_
      refine q_iconst (v := 2) C dX6_run_74 (by decide) ?_
      refine q_icmp_ne (tgt := 89) C dX6_run_75 (by decide) (fun h9 => absurd h9 (by decide)) (fun _ => ?_)
      exact hNw 0 (by decide) xEIa _ (by simp [uG_run, if_neg hw, hU]) _ 241 258 245 7 21 xr_7 "an order names what is not there" _ _ xr_7_d rfl xk_Ia xi_Ia xa_Ia xf_Ia (Nat.le_of_ble_eq_true rfl) ⟨⟨dX6_run_78, dX6_run_81⟩, Or.inr ⟨dX6_run_82, dX6_run_85, dX6_run_88⟩⟩
